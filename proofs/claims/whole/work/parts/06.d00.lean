theorem d_0_0 : decode prog_1_method_1_code 0 = .ok (.aload_n 0, 1) := by decide +kernel
theorem d_0_1 : decode prog_1_method_1_code 1 = .ok (.invokespecial 1, 3) := by decide +kernel
theorem d_0_4 : decode prog_1_method_1_code 4 = .ok (.aload_n 0, 1) := by decide +kernel
theorem d_0_5 : decode prog_1_method_1_code 5 = .ok (.new 7, 3) := by decide +kernel
theorem d_0_8 : decode prog_1_method_1_code 8 = .ok (.dup, 1) := by decide +kernel
theorem d_0_9 : decode prog_1_method_1_code 9 = .ok (.invokespecial 9, 3) := by decide +kernel
theorem d_0_12 : decode prog_1_method_1_code 12 = .ok (.putfield 10, 3) := by decide +kernel
theorem d_0_15 : decode prog_1_method_1_code 15 = .ok (.aload_n 0, 1) := by decide +kernel
theorem d_0_16 : decode prog_1_method_1_code 16 = .ok (.new 7, 3) := by decide +kernel
theorem d_0_19 : decode prog_1_method_1_code 19 = .ok (.dup, 1) := by decide +kernel
theorem d_0_20 : decode prog_1_method_1_code 20 = .ok (.invokespecial 9, 3) := by decide +kernel
theorem d_0_23 : decode prog_1_method_1_code 23 = .ok (.putfield 16, 3) := by decide +kernel
theorem d_0_26 : decode prog_1_method_1_code 26 = .ok (.aload_n 0, 1) := by decide +kernel
theorem d_0_27 : decode prog_1_method_1_code 27 = .ok (.iconst 1, 1) := by decide +kernel
theorem d_0_28 : decode prog_1_method_1_code 28 = .ok (.putfield 19, 3) := by decide +kernel
theorem d_0_31 : decode prog_1_method_1_code 31 = .ok (.aload_n 0, 1) := by decide +kernel
theorem d_0_32 : decode prog_1_method_1_code 32 = .ok (.new 23, 3) := by decide +kernel
theorem d_0_35 : decode prog_1_method_1_code 35 = .ok (.dup, 1) := by decide +kernel
theorem d_0_36 : decode prog_1_method_1_code 36 = .ok (.invokespecial 25, 3) := by decide +kernel
theorem d_0_39 : decode prog_1_method_1_code 39 = .ok (.putfield 26, 3) := by decide +kernel
theorem d_0_42 : decode prog_1_method_1_code 42 = .ok (.aload_n 0, 1) := by decide +kernel
theorem d_0_43 : decode prog_1_method_1_code 43 = .ok (.new 23, 3) := by decide +kernel
theorem d_0_46 : decode prog_1_method_1_code 46 = .ok (.dup, 1) := by decide +kernel
theorem d_0_47 : decode prog_1_method_1_code 47 = .ok (.invokespecial 25, 3) := by decide +kernel
theorem d_0_50 : decode prog_1_method_1_code 50 = .ok (.putfield 30, 3) := by decide +kernel
theorem d_0_53 : decode prog_1_method_1_code 53 = .ok (.aload_n 0, 1) := by decide +kernel
theorem d_0_54 : decode prog_1_method_1_code 54 = .ok (.new 23, 3) := by decide +kernel
theorem d_0_57 : decode prog_1_method_1_code 57 = .ok (.dup, 1) := by decide +kernel
theorem d_0_58 : decode prog_1_method_1_code 58 = .ok (.invokespecial 25, 3) := by decide +kernel
theorem d_0_61 : decode prog_1_method_1_code 61 = .ok (.putfield 33, 3) := by decide +kernel
theorem d_0_64 : decode prog_1_method_1_code 64 = .ok (.aload_n 0, 1) := by decide +kernel
theorem d_0_65 : decode prog_1_method_1_code 65 = .ok (.new 36, 3) := by decide +kernel
theorem d_0_68 : decode prog_1_method_1_code 68 = .ok (.dup, 1) := by decide +kernel
theorem d_0_69 : decode prog_1_method_1_code 69 = .ok (.invokespecial 38, 3) := by decide +kernel
theorem d_0_72 : decode prog_1_method_1_code 72 = .ok (.putfield 39, 3) := by decide +kernel
theorem d_0_75 : decode prog_1_method_1_code 75 = .ok (.aload_n 0, 1) := by decide +kernel
theorem d_0_76 : decode prog_1_method_1_code 76 = .ok (.new 36, 3) := by decide +kernel
theorem d_0_79 : decode prog_1_method_1_code 79 = .ok (.dup, 1) := by decide +kernel
theorem d_0_80 : decode prog_1_method_1_code 80 = .ok (.invokespecial 38, 3) := by decide +kernel
theorem d_0_83 : decode prog_1_method_1_code 83 = .ok (.putfield 43, 3) := by decide +kernel
theorem d_0_86 : decode prog_1_method_1_code 86 = .ok (.return_, 1) := by decide +kernel
theorem d_1_0 : decode prog_5_method_1_code 0 = .ok (.aload_n 0, 1) := by decide +kernel
theorem d_1_1 : decode prog_5_method_1_code 1 = .ok (.invokespecial 3, 3) := by decide +kernel
theorem d_1_4 : decode prog_5_method_1_code 4 = .ok (.aload_n 0, 1) := by decide +kernel
theorem d_1_5 : decode prog_5_method_1_code 5 = .ok (.iconst 0, 1) := by decide +kernel
theorem d_1_6 : decode prog_5_method_1_code 6 = .ok (.putfield 9, 3) := by decide +kernel
theorem d_1_9 : decode prog_5_method_1_code 9 = .ok (.aload_n 0, 1) := by decide +kernel
theorem d_1_10 : decode prog_5_method_1_code 10 = .ok (.iconst 0, 1) := by decide +kernel
theorem d_1_11 : decode prog_5_method_1_code 11 = .ok (.putfield 15, 3) := by decide +kernel
theorem d_1_14 : decode prog_5_method_1_code 14 = .ok (.aload_n 0, 1) := by decide +kernel
theorem d_1_15 : decode prog_5_method_1_code 15 = .ok (.iconst 4, 1) := by decide +kernel
theorem d_1_16 : decode prog_5_method_1_code 16 = .ok (.newarray .int, 2) := by decide +kernel
theorem d_1_18 : decode prog_5_method_1_code 18 = .ok (.putfield 18, 3) := by decide +kernel
theorem d_1_21 : decode prog_5_method_1_code 21 = .ok (.aload_n 0, 1) := by decide +kernel
theorem d_1_22 : decode prog_5_method_1_code 22 = .ok (.iconst 4, 1) := by decide +kernel
theorem d_1_23 : decode prog_5_method_1_code 23 = .ok (.newarray .int, 2) := by decide +kernel
theorem d_1_25 : decode prog_5_method_1_code 25 = .ok (.putfield 22, 3) := by decide +kernel
theorem d_1_28 : decode prog_5_method_1_code 28 = .ok (.aload_n 0, 1) := by decide +kernel
theorem d_1_29 : decode prog_5_method_1_code 29 = .ok (.iconst 0, 1) := by decide +kernel
theorem d_1_30 : decode prog_5_method_1_code 30 = .ok (.putfield 25, 3) := by decide +kernel
theorem d_1_33 : decode prog_5_method_1_code 33 = .ok (.aload_n 0, 1) := by decide +kernel
theorem d_1_34 : decode prog_5_method_1_code 34 = .ok (.iconst 5, 1) := by decide +kernel
theorem d_1_35 : decode prog_5_method_1_code 35 = .ok (.newarray .int, 2) := by decide +kernel
theorem d_1_37 : decode prog_5_method_1_code 37 = .ok (.putfield 28, 3) := by decide +kernel
theorem d_1_40 : decode prog_5_method_1_code 40 = .ok (.aload_n 0, 1) := by decide +kernel
theorem d_1_41 : decode prog_5_method_1_code 41 = .ok (.iconst 5, 1) := by decide +kernel
theorem d_1_42 : decode prog_5_method_1_code 42 = .ok (.anewarray 31, 3) := by decide +kernel
theorem d_1_45 : decode prog_5_method_1_code 45 = .ok (.putfield 33, 3) := by decide +kernel
theorem d_1_48 : decode prog_5_method_1_code 48 = .ok (.iconst 0, 1) := by decide +kernel
theorem d_1_49 : decode prog_5_method_1_code 49 = .ok (.istore_n 1, 1) := by decide +kernel
theorem d_1_50 : decode prog_5_method_1_code 50 = .ok (.iload_n 1, 1) := by decide +kernel
theorem d_1_51 : decode prog_5_method_1_code 51 = .ok (.iconst 5, 1) := by decide +kernel
theorem d_1_52 : decode prog_5_method_1_code 52 = .ok (.if_icmp .ge 22, 3) := by decide +kernel
theorem d_1_55 : decode prog_5_method_1_code 55 = .ok (.aload_n 0, 1) := by decide +kernel
theorem d_1_56 : decode prog_5_method_1_code 56 = .ok (.getfield 33, 3) := by decide +kernel
theorem d_1_59 : decode prog_5_method_1_code 59 = .ok (.iload_n 1, 1) := by decide +kernel
theorem d_1_60 : decode prog_5_method_1_code 60 = .ok (.new 31, 3) := by decide +kernel
theorem d_1_63 : decode prog_5_method_1_code 63 = .ok (.dup, 1) := by decide +kernel
theorem d_1_64 : decode prog_5_method_1_code 64 = .ok (.invokespecial 37, 3) := by decide +kernel
theorem d_1_67 : decode prog_5_method_1_code 67 = .ok (.aastore, 1) := by decide +kernel
theorem d_1_68 : decode prog_5_method_1_code 68 = .ok (.iinc 1 1, 3) := by decide +kernel
theorem d_1_71 : decode prog_5_method_1_code 71 = .ok (.goto (-21), 3) := by decide +kernel
theorem d_1_74 : decode prog_5_method_1_code 74 = .ok (.aload_n 0, 1) := by decide +kernel
theorem d_1_75 : decode prog_5_method_1_code 75 = .ok (.new 38, 3) := by decide +kernel
theorem d_1_78 : decode prog_5_method_1_code 78 = .ok (.dup, 1) := by decide +kernel
theorem d_1_79 : decode prog_5_method_1_code 79 = .ok (.invokespecial 40, 3) := by decide +kernel
theorem d_1_82 : decode prog_5_method_1_code 82 = .ok (.putfield 41, 3) := by decide +kernel
theorem d_1_85 : decode prog_5_method_1_code 85 = .ok (.return_, 1) := by decide +kernel
theorem d_2_0 : decode prog_6_method_1_code 0 = .ok (.aload_n 0, 1) := by decide +kernel
theorem d_2_1 : decode prog_6_method_1_code 1 = .ok (.invokespecial 3, 3) := by decide +kernel
theorem d_2_4 : decode prog_6_method_1_code 4 = .ok (.aload_n 0, 1) := by decide +kernel
theorem d_2_5 : decode prog_6_method_1_code 5 = .ok (.iconst 1, 1) := by decide +kernel
theorem d_2_6 : decode prog_6_method_1_code 6 = .ok (.putfield 9, 3) := by decide +kernel
theorem d_2_9 : decode prog_6_method_1_code 9 = .ok (.aload_n 0, 1) := by decide +kernel
theorem d_2_10 : decode prog_6_method_1_code 10 = .ok (.iconst (-1), 1) := by decide +kernel
theorem d_2_11 : decode prog_6_method_1_code 11 = .ok (.putfield 15, 3) := by decide +kernel
theorem d_2_14 : decode prog_6_method_1_code 14 = .ok (.aload_n 0, 1) := by decide +kernel
theorem d_2_15 : decode prog_6_method_1_code 15 = .ok (.iconst (-1), 1) := by decide +kernel
theorem d_2_16 : decode prog_6_method_1_code 16 = .ok (.putfield 18, 3) := by decide +kernel
theorem d_2_19 : decode prog_6_method_1_code 19 = .ok (.aload_n 0, 1) := by decide +kernel
theorem d_2_20 : decode prog_6_method_1_code 20 = .ok (.iconst 0, 1) := by decide +kernel
theorem d_2_21 : decode prog_6_method_1_code 21 = .ok (.putfield 21, 3) := by decide +kernel
theorem d_2_24 : decode prog_6_method_1_code 24 = .ok (.aload_n 0, 1) := by decide +kernel
theorem d_2_25 : decode prog_6_method_1_code 25 = .ok (.iconst 1, 1) := by decide +kernel
theorem d_2_26 : decode prog_6_method_1_code 26 = .ok (.putfield 25, 3) := by decide +kernel
theorem d_2_29 : decode prog_6_method_1_code 29 = .ok (.aload_n 0, 1) := by decide +kernel
theorem d_2_30 : decode prog_6_method_1_code 30 = .ok (.iconst 1, 1) := by decide +kernel
theorem d_2_31 : decode prog_6_method_1_code 31 = .ok (.putfield 28, 3) := by decide +kernel
theorem d_2_34 : decode prog_6_method_1_code 34 = .ok (.aload_n 0, 1) := by decide +kernel
theorem d_2_35 : decode prog_6_method_1_code 35 = .ok (.new 31, 3) := by decide +kernel
theorem d_2_38 : decode prog_6_method_1_code 38 = .ok (.dup, 1) := by decide +kernel
theorem d_2_39 : decode prog_6_method_1_code 39 = .ok (.invokespecial 33, 3) := by decide +kernel
theorem d_2_42 : decode prog_6_method_1_code 42 = .ok (.putfield 34, 3) := by decide +kernel
theorem d_2_45 : decode prog_6_method_1_code 45 = .ok (.aload_n 0, 1) := by decide +kernel
theorem d_2_46 : decode prog_6_method_1_code 46 = .ok (.sipush 800, 3) := by decide +kernel
theorem d_2_49 : decode prog_6_method_1_code 49 = .ok (.newarray .int, 2) := by decide +kernel
theorem d_2_51 : decode prog_6_method_1_code 51 = .ok (.putfield 38, 3) := by decide +kernel
theorem d_2_54 : decode prog_6_method_1_code 54 = .ok (.return_, 1) := by decide +kernel
theorem d_3_0 : decode prog_2_method_1_code 0 = .ok (.aload_n 0, 1) := by decide +kernel
theorem d_3_1 : decode prog_2_method_1_code 1 = .ok (.invokespecial 3, 3) := by decide +kernel
theorem d_3_4 : decode prog_2_method_1_code 4 = .ok (.aload_n 0, 1) := by decide +kernel
theorem d_3_5 : decode prog_2_method_1_code 5 = .ok (.iconst 0, 1) := by decide +kernel
theorem d_3_6 : decode prog_2_method_1_code 6 = .ok (.putfield 9, 3) := by decide +kernel
theorem d_3_9 : decode prog_2_method_1_code 9 = .ok (.aload_n 0, 1) := by decide +kernel
theorem d_3_10 : decode prog_2_method_1_code 10 = .ok (.iconst 3, 1) := by decide +kernel
theorem d_3_11 : decode prog_2_method_1_code 11 = .ok (.newarray .int, 2) := by decide +kernel
theorem d_3_13 : decode prog_2_method_1_code 13 = .ok (.putfield 15, 3) := by decide +kernel
theorem d_3_16 : decode prog_2_method_1_code 16 = .ok (.aload_n 0, 1) := by decide +kernel
theorem d_3_17 : decode prog_2_method_1_code 17 = .ok (.iconst 3, 1) := by decide +kernel
theorem d_3_18 : decode prog_2_method_1_code 18 = .ok (.newarray .int, 2) := by decide +kernel
theorem d_3_20 : decode prog_2_method_1_code 20 = .ok (.putfield 19, 3) := by decide +kernel
theorem d_3_23 : decode prog_2_method_1_code 23 = .ok (.aload_n 0, 1) := by decide +kernel
theorem d_3_24 : decode prog_2_method_1_code 24 = .ok (.iconst 3, 1) := by decide +kernel
theorem d_3_25 : decode prog_2_method_1_code 25 = .ok (.newarray .int, 2) := by decide +kernel
theorem d_3_27 : decode prog_2_method_1_code 27 = .ok (.putfield 22, 3) := by decide +kernel
theorem d_3_30 : decode prog_2_method_1_code 30 = .ok (.aload_n 0, 1) := by decide +kernel
theorem d_3_31 : decode prog_2_method_1_code 31 = .ok (.iconst 3, 1) := by decide +kernel
theorem d_3_32 : decode prog_2_method_1_code 32 = .ok (.newarray .int, 2) := by decide +kernel
theorem d_3_34 : decode prog_2_method_1_code 34 = .ok (.putfield 25, 3) := by decide +kernel
theorem d_3_37 : decode prog_2_method_1_code 37 = .ok (.return_, 1) := by decide +kernel
theorem d_4_0 : decode prog_4_method_1_code 0 = .ok (.aload_n 0, 1) := by decide +kernel
theorem d_4_1 : decode prog_4_method_1_code 1 = .ok (.invokespecial 1, 3) := by decide +kernel
theorem d_4_4 : decode prog_4_method_1_code 4 = .ok (.aload_n 0, 1) := by decide +kernel
theorem d_4_5 : decode prog_4_method_1_code 5 = .ok (.iconst 0, 1) := by decide +kernel
theorem d_4_6 : decode prog_4_method_1_code 6 = .ok (.putfield 7, 3) := by decide +kernel
theorem d_4_9 : decode prog_4_method_1_code 9 = .ok (.aload_n 0, 1) := by decide +kernel
theorem d_4_10 : decode prog_4_method_1_code 10 = .ok (.iconst 1, 1) := by decide +kernel
theorem d_4_11 : decode prog_4_method_1_code 11 = .ok (.putfield 13, 3) := by decide +kernel
theorem d_4_14 : decode prog_4_method_1_code 14 = .ok (.aload_n 0, 1) := by decide +kernel
theorem d_4_15 : decode prog_4_method_1_code 15 = .ok (.iconst 1, 1) := by decide +kernel
theorem d_4_16 : decode prog_4_method_1_code 16 = .ok (.putfield 16, 3) := by decide +kernel
theorem d_4_19 : decode prog_4_method_1_code 19 = .ok (.return_, 1) := by decide +kernel
theorem d_5_0 : decode prog_3_method_1_code 0 = .ok (.aload_n 0, 1) := by decide +kernel
theorem d_5_1 : decode prog_3_method_1_code 1 = .ok (.invokespecial 3, 3) := by decide +kernel
theorem d_5_4 : decode prog_3_method_1_code 4 = .ok (.aload_n 0, 1) := by decide +kernel
theorem d_5_5 : decode prog_3_method_1_code 5 = .ok (.sipush 800, 3) := by decide +kernel
theorem d_5_8 : decode prog_3_method_1_code 8 = .ok (.newarray .byte, 2) := by decide +kernel
theorem d_5_10 : decode prog_3_method_1_code 10 = .ok (.putfield 9, 3) := by decide +kernel
theorem d_5_13 : decode prog_3_method_1_code 13 = .ok (.aload_n 0, 1) := by decide +kernel
theorem d_5_14 : decode prog_3_method_1_code 14 = .ok (.iconst 0, 1) := by decide +kernel
theorem d_5_15 : decode prog_3_method_1_code 15 = .ok (.putfield 15, 3) := by decide +kernel
theorem d_5_18 : decode prog_3_method_1_code 18 = .ok (.aload_n 0, 1) := by decide +kernel
theorem d_5_19 : decode prog_3_method_1_code 19 = .ok (.iconst 0, 1) := by decide +kernel
theorem d_5_20 : decode prog_3_method_1_code 20 = .ok (.putfield 19, 3) := by decide +kernel
theorem d_5_23 : decode prog_3_method_1_code 23 = .ok (.return_, 1) := by decide +kernel
theorem d_6_0 : decode prog_1_method_2_code 0 = .ok (.aload_n 0, 1) := by decide +kernel
theorem d_6_1 : decode prog_1_method_2_code 1 = .ok (.getfield 19, 3) := by decide +kernel
theorem d_6_4 : decode prog_1_method_2_code 4 = .ok (.ifCond .eq 15, 3) := by decide +kernel
theorem d_6_7 : decode prog_1_method_2_code 7 = .ok (.aload_n 0, 1) := by decide +kernel
theorem d_6_8 : decode prog_1_method_2_code 8 = .ok (.getfield 10, 3) := by decide +kernel
theorem d_6_11 : decode prog_1_method_2_code 11 = .ok (.iload_n 1, 1) := by decide +kernel
theorem d_6_12 : decode prog_1_method_2_code 12 = .ok (.iload_n 2, 1) := by decide +kernel
theorem d_6_13 : decode prog_1_method_2_code 13 = .ok (.invokevirtual 46, 3) := by decide +kernel
theorem d_6_16 : decode prog_1_method_2_code 16 = .ok (.goto 4, 3) := by decide +kernel
theorem d_6_19 : decode prog_1_method_2_code 19 = .ok (.iconst (-1), 1) := by decide +kernel
theorem d_6_20 : decode prog_1_method_2_code 20 = .ok (.ireturn, 1) := by decide +kernel
theorem d_7_0 : decode prog_5_method_3_code 0 = .ok (.iload_n 1, 1) := by decide +kernel
theorem d_7_1 : decode prog_5_method_3_code 1 = .ok (.invokestatic 49, 3) := by decide +kernel
theorem d_7_4 : decode prog_5_method_3_code 4 = .ok (.ifCond .eq 13, 3) := by decide +kernel
theorem d_7_7 : decode prog_5_method_3_code 7 = .ok (.iload_n 2, 1) := by decide +kernel
theorem d_7_8 : decode prog_5_method_3_code 8 = .ok (.ifCond .lt 9, 3) := by decide +kernel
theorem d_7_11 : decode prog_5_method_3_code 11 = .ok (.iload_n 2, 1) := by decide +kernel
theorem d_7_12 : decode prog_5_method_3_code 12 = .ok (.bipush 8, 2) := by decide +kernel
theorem d_7_14 : decode prog_5_method_3_code 14 = .ok (.if_icmp .le 6, 3) := by decide +kernel
theorem d_7_17 : decode prog_5_method_3_code 17 = .ok (.bipush (-2), 2) := by decide +kernel
theorem d_7_19 : decode prog_5_method_3_code 19 = .ok (.ireturn, 1) := by decide +kernel
theorem d_7_20 : decode prog_5_method_3_code 20 = .ok (.iload_n 1, 1) := by decide +kernel
theorem d_7_21 : decode prog_5_method_3_code 21 = .ok (.aload_n 0, 1) := by decide +kernel
theorem d_7_22 : decode prog_5_method_3_code 22 = .ok (.getfield 18, 3) := by decide +kernel
theorem d_7_25 : decode prog_5_method_3_code 25 = .ok (.aload_n 0, 1) := by decide +kernel
theorem d_7_26 : decode prog_5_method_3_code 26 = .ok (.getfield 15, 3) := by decide +kernel
theorem d_7_29 : decode prog_5_method_3_code 29 = .ok (.invokestatic 53, 3) := by decide +kernel
theorem d_7_32 : decode prog_5_method_3_code 32 = .ok (.ifCond .lt 6, 3) := by decide +kernel
theorem d_7_35 : decode prog_5_method_3_code 35 = .ok (.bipush (-4), 2) := by decide +kernel
theorem d_7_37 : decode prog_5_method_3_code 37 = .ok (.ireturn, 1) := by decide +kernel
theorem d_7_38 : decode prog_5_method_3_code 38 = .ok (.aload_n 0, 1) := by decide +kernel
theorem d_7_39 : decode prog_5_method_3_code 39 = .ok (.getfield 15, 3) := by decide +kernel
theorem d_7_42 : decode prog_5_method_3_code 42 = .ok (.iconst 4, 1) := by decide +kernel
theorem d_7_43 : decode prog_5_method_3_code 43 = .ok (.if_icmp .ge 14, 3) := by decide +kernel
theorem d_7_46 : decode prog_5_method_3_code 46 = .ok (.iload_n 2, 1) := by decide +kernel
theorem d_7_47 : decode prog_5_method_3_code 47 = .ok (.ifCond .ne 13, 3) := by decide +kernel
theorem d_7_50 : decode prog_5_method_3_code 50 = .ok (.aload_n 0, 1) := by decide +kernel
theorem d_7_51 : decode prog_5_method_3_code 51 = .ok (.invokevirtual 57, 3) := by decide +kernel
theorem d_7_54 : decode prog_5_method_3_code 54 = .ok (.ifCond .eq 6, 3) := by decide +kernel
theorem d_7_57 : decode prog_5_method_3_code 57 = .ok (.bipush (-5), 2) := by decide +kernel
theorem d_7_59 : decode prog_5_method_3_code 59 = .ok (.ireturn, 1) := by decide +kernel
theorem d_7_60 : decode prog_5_method_3_code 60 = .ok (.aload_n 0, 1) := by decide +kernel
theorem d_7_61 : decode prog_5_method_3_code 61 = .ok (.getfield 18, 3) := by decide +kernel
theorem d_7_64 : decode prog_5_method_3_code 64 = .ok (.aload_n 0, 1) := by decide +kernel
theorem d_7_65 : decode prog_5_method_3_code 65 = .ok (.getfield 15, 3) := by decide +kernel
theorem d_7_68 : decode prog_5_method_3_code 68 = .ok (.iload_n 1, 1) := by decide +kernel
theorem d_7_69 : decode prog_5_method_3_code 69 = .ok (.iastore, 1) := by decide +kernel
theorem d_7_70 : decode prog_5_method_3_code 70 = .ok (.aload_n 0, 1) := by decide +kernel
theorem d_7_71 : decode prog_5_method_3_code 71 = .ok (.getfield 22, 3) := by decide +kernel
theorem d_7_74 : decode prog_5_method_3_code 74 = .ok (.aload_n 0, 1) := by decide +kernel
theorem d_7_75 : decode prog_5_method_3_code 75 = .ok (.getfield 15, 3) := by decide +kernel
theorem d_7_78 : decode prog_5_method_3_code 78 = .ok (.iload_n 2, 1) := by decide +kernel
theorem d_7_79 : decode prog_5_method_3_code 79 = .ok (.iastore, 1) := by decide +kernel
theorem d_7_80 : decode prog_5_method_3_code 80 = .ok (.aload_n 0, 1) := by decide +kernel
theorem d_7_81 : decode prog_5_method_3_code 81 = .ok (.dup, 1) := by decide +kernel
theorem d_7_82 : decode prog_5_method_3_code 82 = .ok (.getfield 15, 3) := by decide +kernel
theorem d_7_85 : decode prog_5_method_3_code 85 = .ok (.iconst 1, 1) := by decide +kernel
theorem d_7_86 : decode prog_5_method_3_code 86 = .ok (.iadd, 1) := by decide +kernel
theorem d_7_87 : decode prog_5_method_3_code 87 = .ok (.putfield 15, 3) := by decide +kernel
theorem d_7_90 : decode prog_5_method_3_code 90 = .ok (.aload_n 0, 1) := by decide +kernel
theorem d_7_91 : decode prog_5_method_3_code 91 = .ok (.getfield 15, 3) := by decide +kernel
theorem d_7_94 : decode prog_5_method_3_code 94 = .ok (.iconst 1, 1) := by decide +kernel
theorem d_7_95 : decode prog_5_method_3_code 95 = .ok (.isub, 1) := by decide +kernel
theorem d_7_96 : decode prog_5_method_3_code 96 = .ok (.ireturn, 1) := by decide +kernel
theorem d_8_0 : decode prog_1_method_23_code 0 = .ok (.iload_n 0, 1) := by decide +kernel
theorem d_8_1 : decode prog_1_method_23_code 1 = .ok (.bipush 33, 2) := by decide +kernel
theorem d_8_3 : decode prog_1_method_23_code 3 = .ok (.if_icmp .lt 13, 3) := by decide +kernel
theorem d_8_6 : decode prog_1_method_23_code 6 = .ok (.iload_n 0, 1) := by decide +kernel
theorem d_8_7 : decode prog_1_method_23_code 7 = .ok (.bipush 126, 2) := by decide +kernel
theorem d_8_9 : decode prog_1_method_23_code 9 = .ok (.if_icmp .gt 7, 3) := by decide +kernel
theorem d_8_12 : decode prog_1_method_23_code 12 = .ok (.iconst 1, 1) := by decide +kernel
theorem d_8_13 : decode prog_1_method_23_code 13 = .ok (.goto 4, 3) := by decide +kernel
theorem d_8_16 : decode prog_1_method_23_code 16 = .ok (.iconst 0, 1) := by decide +kernel
theorem d_8_17 : decode prog_1_method_23_code 17 = .ok (.ireturn, 1) := by decide +kernel
theorem d_9_0 : decode prog_1_method_28_code 0 = .ok (.iconst 0, 1) := by decide +kernel
theorem d_9_1 : decode prog_1_method_28_code 1 = .ok (.istore_n 3, 1) := by decide +kernel
theorem d_9_2 : decode prog_1_method_28_code 2 = .ok (.iload_n 3, 1) := by decide +kernel
theorem d_9_3 : decode prog_1_method_28_code 3 = .ok (.iload_n 2, 1) := by decide +kernel
theorem d_9_4 : decode prog_1_method_28_code 4 = .ok (.if_icmp .ge 24, 3) := by decide +kernel
theorem d_9_7 : decode prog_1_method_28_code 7 = .ok (.iload_n 3, 1) := by decide +kernel
theorem d_9_8 : decode prog_1_method_28_code 8 = .ok (.aload_n 1, 1) := by decide +kernel
theorem d_9_9 : decode prog_1_method_28_code 9 = .ok (.arraylength, 1) := by decide +kernel
theorem d_9_10 : decode prog_1_method_28_code 10 = .ok (.if_icmp .ge 18, 3) := by decide +kernel
theorem d_9_13 : decode prog_1_method_28_code 13 = .ok (.aload_n 1, 1) := by decide +kernel
theorem d_9_14 : decode prog_1_method_28_code 14 = .ok (.iload_n 3, 1) := by decide +kernel
theorem d_9_15 : decode prog_1_method_28_code 15 = .ok (.iaload, 1) := by decide +kernel
theorem d_9_16 : decode prog_1_method_28_code 16 = .ok (.iload_n 0, 1) := by decide +kernel
theorem d_9_17 : decode prog_1_method_28_code 17 = .ok (.if_icmp .ne 5, 3) := by decide +kernel
theorem d_9_20 : decode prog_1_method_28_code 20 = .ok (.iload_n 3, 1) := by decide +kernel
theorem d_9_21 : decode prog_1_method_28_code 21 = .ok (.ireturn, 1) := by decide +kernel
theorem d_9_22 : decode prog_1_method_28_code 22 = .ok (.iinc 3 1, 3) := by decide +kernel
theorem d_9_25 : decode prog_1_method_28_code 25 = .ok (.goto (-23), 3) := by decide +kernel
theorem d_9_28 : decode prog_1_method_28_code 28 = .ok (.iconst (-1), 1) := by decide +kernel
theorem d_9_29 : decode prog_1_method_28_code 29 = .ok (.ireturn, 1) := by decide +kernel
theorem d_10_0 : decode prog_5_method_4_code 0 = .ok (.iconst 0, 1) := by decide +kernel
theorem d_10_1 : decode prog_5_method_4_code 1 = .ok (.istore_n 1, 1) := by decide +kernel
theorem d_10_2 : decode prog_5_method_4_code 2 = .ok (.iload_n 1, 1) := by decide +kernel
theorem d_10_3 : decode prog_5_method_4_code 3 = .ok (.aload_n 0, 1) := by decide +kernel
theorem d_10_4 : decode prog_5_method_4_code 4 = .ok (.getfield 15, 3) := by decide +kernel
theorem d_10_7 : decode prog_5_method_4_code 7 = .ok (.if_icmp .ge 20, 3) := by decide +kernel
theorem d_10_10 : decode prog_5_method_4_code 10 = .ok (.aload_n 0, 1) := by decide +kernel
theorem d_10_11 : decode prog_5_method_4_code 11 = .ok (.getfield 22, 3) := by decide +kernel
theorem d_10_14 : decode prog_5_method_4_code 14 = .ok (.iload_n 1, 1) := by decide +kernel
theorem d_10_15 : decode prog_5_method_4_code 15 = .ok (.iaload, 1) := by decide +kernel
theorem d_10_16 : decode prog_5_method_4_code 16 = .ok (.ifCond .ne 5, 3) := by decide +kernel
theorem d_10_19 : decode prog_5_method_4_code 19 = .ok (.iconst 1, 1) := by decide +kernel
theorem d_10_20 : decode prog_5_method_4_code 20 = .ok (.ireturn, 1) := by decide +kernel
theorem d_10_21 : decode prog_5_method_4_code 21 = .ok (.iinc 1 1, 3) := by decide +kernel
theorem d_10_24 : decode prog_5_method_4_code 24 = .ok (.goto (-22), 3) := by decide +kernel
theorem d_10_27 : decode prog_5_method_4_code 27 = .ok (.iconst 0, 1) := by decide +kernel
theorem d_10_28 : decode prog_5_method_4_code 28 = .ok (.ireturn, 1) := by decide +kernel
theorem d_11_0 : decode prog_1_method_3_code 0 = .ok (.aload_n 0, 1) := by decide +kernel
theorem d_11_1 : decode prog_1_method_3_code 1 = .ok (.getfield 19, 3) := by decide +kernel
theorem d_11_4 : decode prog_1_method_3_code 4 = .ok (.ifCond .eq 18, 3) := by decide +kernel
theorem d_11_7 : decode prog_1_method_3_code 7 = .ok (.aload_n 0, 1) := by decide +kernel
theorem d_11_8 : decode prog_1_method_3_code 8 = .ok (.getfield 10, 3) := by decide +kernel
theorem d_11_11 : decode prog_1_method_3_code 11 = .ok (.iload_n 1, 1) := by decide +kernel
theorem d_11_12 : decode prog_1_method_3_code 12 = .ok (.iload_n 2, 1) := by decide +kernel
theorem d_11_13 : decode prog_1_method_3_code 13 = .ok (.iload_n 3, 1) := by decide +kernel
theorem d_11_14 : decode prog_1_method_3_code 14 = .ok (.iload 4, 2) := by decide +kernel
theorem d_11_16 : decode prog_1_method_3_code 16 = .ok (.invokevirtual 50, 3) := by decide +kernel
theorem d_11_19 : decode prog_1_method_3_code 19 = .ok (.goto 4, 3) := by decide +kernel
theorem d_11_22 : decode prog_1_method_3_code 22 = .ok (.iconst (-1), 1) := by decide +kernel
theorem d_11_23 : decode prog_1_method_3_code 23 = .ok (.ireturn, 1) := by decide +kernel
theorem d_12_0 : decode prog_5_method_5_code 0 = .ok (.iload_n 1, 1) := by decide +kernel
theorem d_12_1 : decode prog_5_method_5_code 1 = .ok (.invokestatic 49, 3) := by decide +kernel
theorem d_12_4 : decode prog_5_method_5_code 4 = .ok (.ifCond .eq 10, 3) := by decide +kernel
theorem d_12_7 : decode prog_5_method_5_code 7 = .ok (.iload_n 2, 1) := by decide +kernel
theorem d_12_8 : decode prog_5_method_5_code 8 = .ok (.invokestatic 61, 3) := by decide +kernel
theorem d_12_11 : decode prog_5_method_5_code 11 = .ok (.ifCond .ne 6, 3) := by decide +kernel
theorem d_12_14 : decode prog_5_method_5_code 14 = .ok (.bipush (-2), 2) := by decide +kernel
theorem d_12_16 : decode prog_5_method_5_code 16 = .ok (.ireturn, 1) := by decide +kernel
theorem d_12_17 : decode prog_5_method_5_code 17 = .ok (.aload_n 0, 1) := by decide +kernel
theorem d_12_18 : decode prog_5_method_5_code 18 = .ok (.iload_n 3, 1) := by decide +kernel
theorem d_12_19 : decode prog_5_method_5_code 19 = .ok (.invokevirtual 64, 3) := by decide +kernel
theorem d_12_22 : decode prog_5_method_5_code 22 = .ok (.ifCond .eq 23, 3) := by decide +kernel
theorem d_12_25 : decode prog_5_method_5_code 25 = .ok (.aload_n 0, 1) := by decide +kernel
theorem d_12_26 : decode prog_5_method_5_code 26 = .ok (.iload 4, 2) := by decide +kernel
theorem d_12_28 : decode prog_5_method_5_code 28 = .ok (.invokevirtual 64, 3) := by decide +kernel
theorem d_12_31 : decode prog_5_method_5_code 31 = .ok (.ifCond .eq 14, 3) := by decide +kernel
theorem d_12_34 : decode prog_5_method_5_code 34 = .ok (.iload_n 3, 1) := by decide +kernel
theorem d_12_35 : decode prog_5_method_5_code 35 = .ok (.iconst (-1), 1) := by decide +kernel
theorem d_12_36 : decode prog_5_method_5_code 36 = .ok (.if_icmp .ne 12, 3) := by decide +kernel
theorem d_12_39 : decode prog_5_method_5_code 39 = .ok (.iload 4, 2) := by decide +kernel
theorem d_12_41 : decode prog_5_method_5_code 41 = .ok (.iconst (-1), 1) := by decide +kernel
theorem d_12_42 : decode prog_5_method_5_code 42 = .ok (.if_icmp .eq 6, 3) := by decide +kernel
theorem d_12_45 : decode prog_5_method_5_code 45 = .ok (.bipush (-3), 2) := by decide +kernel
theorem d_12_47 : decode prog_5_method_5_code 47 = .ok (.ireturn, 1) := by decide +kernel
theorem d_12_48 : decode prog_5_method_5_code 48 = .ok (.aload_n 0, 1) := by decide +kernel
theorem d_12_49 : decode prog_5_method_5_code 49 = .ok (.iload 4, 2) := by decide +kernel
theorem d_12_51 : decode prog_5_method_5_code 51 = .ok (.invokevirtual 67, 3) := by decide +kernel
theorem d_12_54 : decode prog_5_method_5_code 54 = .ok (.ifCond .ne 6, 3) := by decide +kernel
theorem d_12_57 : decode prog_5_method_5_code 57 = .ok (.bipush (-2), 2) := by decide +kernel
theorem d_12_59 : decode prog_5_method_5_code 59 = .ok (.ireturn, 1) := by decide +kernel
theorem d_12_60 : decode prog_5_method_5_code 60 = .ok (.iload_n 1, 1) := by decide +kernel
theorem d_12_61 : decode prog_5_method_5_code 61 = .ok (.aload_n 0, 1) := by decide +kernel
theorem d_12_62 : decode prog_5_method_5_code 62 = .ok (.getfield 28, 3) := by decide +kernel
theorem d_12_65 : decode prog_5_method_5_code 65 = .ok (.aload_n 0, 1) := by decide +kernel
theorem d_12_66 : decode prog_5_method_5_code 66 = .ok (.getfield 25, 3) := by decide +kernel
theorem d_12_69 : decode prog_5_method_5_code 69 = .ok (.invokestatic 53, 3) := by decide +kernel
theorem d_12_72 : decode prog_5_method_5_code 72 = .ok (.ifCond .lt 6, 3) := by decide +kernel
theorem d_12_75 : decode prog_5_method_5_code 75 = .ok (.bipush (-4), 2) := by decide +kernel
theorem d_12_77 : decode prog_5_method_5_code 77 = .ok (.ireturn, 1) := by decide +kernel
theorem d_12_78 : decode prog_5_method_5_code 78 = .ok (.aload_n 0, 1) := by decide +kernel
theorem d_12_79 : decode prog_5_method_5_code 79 = .ok (.getfield 25, 3) := by decide +kernel
theorem d_12_82 : decode prog_5_method_5_code 82 = .ok (.iconst 5, 1) := by decide +kernel
theorem d_12_83 : decode prog_5_method_5_code 83 = .ok (.if_icmp .lt 6, 3) := by decide +kernel
theorem d_12_86 : decode prog_5_method_5_code 86 = .ok (.bipush (-5), 2) := by decide +kernel
theorem d_12_88 : decode prog_5_method_5_code 88 = .ok (.ireturn, 1) := by decide +kernel
theorem d_12_89 : decode prog_5_method_5_code 89 = .ok (.aload_n 0, 1) := by decide +kernel
theorem d_12_90 : decode prog_5_method_5_code 90 = .ok (.getfield 28, 3) := by decide +kernel
theorem d_12_93 : decode prog_5_method_5_code 93 = .ok (.aload_n 0, 1) := by decide +kernel
theorem d_12_94 : decode prog_5_method_5_code 94 = .ok (.getfield 25, 3) := by decide +kernel
theorem d_12_97 : decode prog_5_method_5_code 97 = .ok (.iload_n 1, 1) := by decide +kernel
theorem d_12_98 : decode prog_5_method_5_code 98 = .ok (.iastore, 1) := by decide +kernel
theorem d_12_99 : decode prog_5_method_5_code 99 = .ok (.aload_n 0, 1) := by decide +kernel
theorem d_12_100 : decode prog_5_method_5_code 100 = .ok (.getfield 33, 3) := by decide +kernel
theorem d_12_103 : decode prog_5_method_5_code 103 = .ok (.aload_n 0, 1) := by decide +kernel
theorem d_12_104 : decode prog_5_method_5_code 104 = .ok (.getfield 25, 3) := by decide +kernel
theorem d_12_107 : decode prog_5_method_5_code 107 = .ok (.aaload, 1) := by decide +kernel
theorem d_12_108 : decode prog_5_method_5_code 108 = .ok (.iload_n 3, 1) := by decide +kernel
theorem d_12_109 : decode prog_5_method_5_code 109 = .ok (.aload_n 0, 1) := by decide +kernel
theorem d_12_110 : decode prog_5_method_5_code 110 = .ok (.iload_n 3, 1) := by decide +kernel
theorem d_12_111 : decode prog_5_method_5_code 111 = .ok (.invokevirtual 67, 3) := by decide +kernel
theorem d_12_114 : decode prog_5_method_5_code 114 = .ok (.iload 4, 2) := by decide +kernel
theorem d_12_116 : decode prog_5_method_5_code 116 = .ok (.aload_n 0, 1) := by decide +kernel
theorem d_12_117 : decode prog_5_method_5_code 117 = .ok (.iload 4, 2) := by decide +kernel
theorem d_12_119 : decode prog_5_method_5_code 119 = .ok (.invokevirtual 67, 3) := by decide +kernel
theorem d_12_122 : decode prog_5_method_5_code 122 = .ok (.invokevirtual 71, 3) := by decide +kernel
theorem d_12_125 : decode prog_5_method_5_code 125 = .ok (.aload_n 0, 1) := by decide +kernel
theorem d_12_126 : decode prog_5_method_5_code 126 = .ok (.getfield 33, 3) := by decide +kernel
theorem d_12_129 : decode prog_5_method_5_code 129 = .ok (.aload_n 0, 1) := by decide +kernel
theorem d_12_130 : decode prog_5_method_5_code 130 = .ok (.getfield 25, 3) := by decide +kernel
theorem d_12_133 : decode prog_5_method_5_code 133 = .ok (.aaload, 1) := by decide +kernel
theorem d_12_134 : decode prog_5_method_5_code 134 = .ok (.iload_n 2, 1) := by decide +kernel
theorem d_12_135 : decode prog_5_method_5_code 135 = .ok (.invokevirtual 75, 3) := by decide +kernel
theorem d_12_138 : decode prog_5_method_5_code 138 = .ok (.aload_n 0, 1) := by decide +kernel
theorem d_12_139 : decode prog_5_method_5_code 139 = .ok (.dup, 1) := by decide +kernel
theorem d_12_140 : decode prog_5_method_5_code 140 = .ok (.getfield 25, 3) := by decide +kernel
theorem d_12_143 : decode prog_5_method_5_code 143 = .ok (.iconst 1, 1) := by decide +kernel
theorem d_12_144 : decode prog_5_method_5_code 144 = .ok (.iadd, 1) := by decide +kernel
theorem d_12_145 : decode prog_5_method_5_code 145 = .ok (.putfield 25, 3) := by decide +kernel
theorem d_12_148 : decode prog_5_method_5_code 148 = .ok (.aload_n 0, 1) := by decide +kernel
theorem d_12_149 : decode prog_5_method_5_code 149 = .ok (.getfield 25, 3) := by decide +kernel
theorem d_12_152 : decode prog_5_method_5_code 152 = .ok (.iconst 1, 1) := by decide +kernel
theorem d_12_153 : decode prog_5_method_5_code 153 = .ok (.isub, 1) := by decide +kernel
theorem d_12_154 : decode prog_5_method_5_code 154 = .ok (.ireturn, 1) := by decide +kernel
theorem d_13_0 : decode prog_1_method_24_code 0 = .ok (.iload_n 0, 1) := by decide +kernel
theorem d_13_1 : decode prog_1_method_24_code 1 = .ok (.iconst 1, 1) := by decide +kernel
theorem d_13_2 : decode prog_1_method_24_code 2 = .ok (.if_icmp .lt 12, 3) := by decide +kernel
theorem d_13_5 : decode prog_1_method_24_code 5 = .ok (.iload_n 0, 1) := by decide +kernel
theorem d_13_6 : decode prog_1_method_24_code 6 = .ok (.iconst 4, 1) := by decide +kernel
theorem d_13_7 : decode prog_1_method_24_code 7 = .ok (.if_icmp .gt 7, 3) := by decide +kernel
theorem d_13_10 : decode prog_1_method_24_code 10 = .ok (.iconst 1, 1) := by decide +kernel
theorem d_13_11 : decode prog_1_method_24_code 11 = .ok (.goto 4, 3) := by decide +kernel
theorem d_13_14 : decode prog_1_method_24_code 14 = .ok (.iconst 0, 1) := by decide +kernel
theorem d_13_15 : decode prog_1_method_24_code 15 = .ok (.ireturn, 1) := by decide +kernel
theorem d_14_0 : decode prog_5_method_7_code 0 = .ok (.iload_n 1, 1) := by decide +kernel
theorem d_14_1 : decode prog_5_method_7_code 1 = .ok (.iconst (-1), 1) := by decide +kernel
theorem d_14_2 : decode prog_5_method_7_code 2 = .ok (.if_icmp .eq 11, 3) := by decide +kernel
theorem d_14_5 : decode prog_5_method_7_code 5 = .ok (.aload_n 0, 1) := by decide +kernel
theorem d_14_6 : decode prog_5_method_7_code 6 = .ok (.iload_n 1, 1) := by decide +kernel
theorem d_14_7 : decode prog_5_method_7_code 7 = .ok (.invokevirtual 79, 3) := by decide +kernel
theorem d_14_10 : decode prog_5_method_7_code 10 = .ok (.ifCond .eq 7, 3) := by decide +kernel
theorem d_14_13 : decode prog_5_method_7_code 13 = .ok (.iconst 1, 1) := by decide +kernel
theorem d_14_14 : decode prog_5_method_7_code 14 = .ok (.goto 4, 3) := by decide +kernel
theorem d_14_17 : decode prog_5_method_7_code 17 = .ok (.iconst 0, 1) := by decide +kernel
theorem d_14_18 : decode prog_5_method_7_code 18 = .ok (.ireturn, 1) := by decide +kernel
theorem d_15_0 : decode prog_5_method_6_code 0 = .ok (.iload_n 1, 1) := by decide +kernel
theorem d_15_1 : decode prog_5_method_6_code 1 = .ok (.ifCond .lt 15, 3) := by decide +kernel
theorem d_15_4 : decode prog_5_method_6_code 4 = .ok (.iload_n 1, 1) := by decide +kernel
theorem d_15_5 : decode prog_5_method_6_code 5 = .ok (.aload_n 0, 1) := by decide +kernel
theorem d_15_6 : decode prog_5_method_6_code 6 = .ok (.getfield 15, 3) := by decide +kernel
theorem d_15_9 : decode prog_5_method_6_code 9 = .ok (.if_icmp .ge 7, 3) := by decide +kernel
theorem d_15_12 : decode prog_5_method_6_code 12 = .ok (.iconst 1, 1) := by decide +kernel
theorem d_15_13 : decode prog_5_method_6_code 13 = .ok (.goto 4, 3) := by decide +kernel
theorem d_15_16 : decode prog_5_method_6_code 16 = .ok (.iconst 0, 1) := by decide +kernel
theorem d_15_17 : decode prog_5_method_6_code 17 = .ok (.ireturn, 1) := by decide +kernel
theorem d_16_0 : decode prog_5_method_8_code 0 = .ok (.aload_n 0, 1) := by decide +kernel
theorem d_16_1 : decode prog_5_method_8_code 1 = .ok (.iload_n 1, 1) := by decide +kernel
theorem d_16_2 : decode prog_5_method_8_code 2 = .ok (.invokevirtual 79, 3) := by decide +kernel
theorem d_16_5 : decode prog_5_method_8_code 5 = .ok (.ifCond .eq 12, 3) := by decide +kernel
theorem d_16_8 : decode prog_5_method_8_code 8 = .ok (.aload_n 0, 1) := by decide +kernel
theorem d_16_9 : decode prog_5_method_8_code 9 = .ok (.getfield 22, 3) := by decide +kernel
theorem d_16_12 : decode prog_5_method_8_code 12 = .ok (.iload_n 1, 1) := by decide +kernel
theorem d_16_13 : decode prog_5_method_8_code 13 = .ok (.iaload, 1) := by decide +kernel
theorem d_16_14 : decode prog_5_method_8_code 14 = .ok (.goto 4, 3) := by decide +kernel
theorem d_16_17 : decode prog_5_method_8_code 17 = .ok (.iconst 1, 1) := by decide +kernel
theorem d_16_18 : decode prog_5_method_8_code 18 = .ok (.ireturn, 1) := by decide +kernel
theorem d_17_0 : decode prog_6_method_2_code 0 = .ok (.aload_n 0, 1) := by decide +kernel
theorem d_17_1 : decode prog_6_method_2_code 1 = .ok (.iload_n 1, 1) := by decide +kernel
theorem d_17_2 : decode prog_6_method_2_code 2 = .ok (.putfield 15, 3) := by decide +kernel
theorem d_17_5 : decode prog_6_method_2_code 5 = .ok (.aload_n 0, 1) := by decide +kernel
theorem d_17_6 : decode prog_6_method_2_code 6 = .ok (.iload_n 3, 1) := by decide +kernel
theorem d_17_7 : decode prog_6_method_2_code 7 = .ok (.putfield 18, 3) := by decide +kernel
theorem d_17_10 : decode prog_6_method_2_code 10 = .ok (.aload_n 0, 1) := by decide +kernel
theorem d_17_11 : decode prog_6_method_2_code 11 = .ok (.iload_n 2, 1) := by decide +kernel
theorem d_17_12 : decode prog_6_method_2_code 12 = .ok (.ifCond .ne 7, 3) := by decide +kernel
theorem d_17_15 : decode prog_6_method_2_code 15 = .ok (.iconst 1, 1) := by decide +kernel
theorem d_17_16 : decode prog_6_method_2_code 16 = .ok (.goto 4, 3) := by decide +kernel
theorem d_17_19 : decode prog_6_method_2_code 19 = .ok (.iconst 0, 1) := by decide +kernel
theorem d_17_20 : decode prog_6_method_2_code 20 = .ok (.putfield 21, 3) := by decide +kernel
theorem d_17_23 : decode prog_6_method_2_code 23 = .ok (.aload_n 0, 1) := by decide +kernel
theorem d_17_24 : decode prog_6_method_2_code 24 = .ok (.iload_n 2, 1) := by decide +kernel
theorem d_17_25 : decode prog_6_method_2_code 25 = .ok (.putfield 25, 3) := by decide +kernel
theorem d_17_28 : decode prog_6_method_2_code 28 = .ok (.aload_n 0, 1) := by decide +kernel
theorem d_17_29 : decode prog_6_method_2_code 29 = .ok (.iload 4, 2) := by decide +kernel
theorem d_17_31 : decode prog_6_method_2_code 31 = .ok (.putfield 28, 3) := by decide +kernel
theorem d_17_34 : decode prog_6_method_2_code 34 = .ok (.return_, 1) := by decide +kernel
theorem d_18_0 : decode prog_6_method_3_code 0 = .ok (.aload_n 0, 1) := by decide +kernel
theorem d_18_1 : decode prog_6_method_3_code 1 = .ok (.iload_n 1, 1) := by decide +kernel
theorem d_18_2 : decode prog_6_method_3_code 2 = .ok (.putfield 9, 3) := by decide +kernel
theorem d_18_5 : decode prog_6_method_3_code 5 = .ok (.aload_n 0, 1) := by decide +kernel
theorem d_18_6 : decode prog_6_method_3_code 6 = .ok (.getfield 38, 3) := by decide +kernel
theorem d_18_9 : decode prog_6_method_3_code 9 = .ok (.getstatic 42, 3) := by decide +kernel
theorem d_18_12 : decode prog_6_method_3_code 12 = .ok (.iload_n 1, 1) := by decide +kernel
theorem d_18_13 : decode prog_6_method_3_code 13 = .ok (.iaload, 1) := by decide +kernel
theorem d_18_14 : decode prog_6_method_3_code 14 = .ok (.invokestatic 45, 3) := by decide +kernel
theorem d_18_17 : decode prog_6_method_3_code 17 = .ok (.return_, 1) := by decide +kernel
theorem d_19_0 : decode prog_9_method_103_code 0 = .ok (.iconst 0, 1) := by decide +kernel
theorem d_19_1 : decode prog_9_method_103_code 1 = .ok (.istore_n 2, 1) := by decide +kernel
theorem d_19_2 : decode prog_9_method_103_code 2 = .ok (.aload_n 0, 1) := by decide +kernel
theorem d_19_3 : decode prog_9_method_103_code 3 = .ok (.arraylength, 1) := by decide +kernel
theorem d_19_4 : decode prog_9_method_103_code 4 = .ok (.istore_n 3, 1) := by decide +kernel
theorem d_19_5 : decode prog_9_method_103_code 5 = .ok (.iload_n 2, 1) := by decide +kernel
theorem d_19_6 : decode prog_9_method_103_code 6 = .ok (.iload_n 3, 1) := by decide +kernel
theorem d_19_7 : decode prog_9_method_103_code 7 = .ok (.if_icmp .ge 13, 3) := by decide +kernel
theorem d_19_10 : decode prog_9_method_103_code 10 = .ok (.aload_n 0, 1) := by decide +kernel
theorem d_19_11 : decode prog_9_method_103_code 11 = .ok (.iload_n 2, 1) := by decide +kernel
theorem d_19_12 : decode prog_9_method_103_code 12 = .ok (.iload_n 1, 1) := by decide +kernel
theorem d_19_13 : decode prog_9_method_103_code 13 = .ok (.iastore, 1) := by decide +kernel
theorem d_19_14 : decode prog_9_method_103_code 14 = .ok (.iinc 2 1, 3) := by decide +kernel
theorem d_19_17 : decode prog_9_method_103_code 17 = .ok (.goto (-12), 3) := by decide +kernel
theorem d_19_20 : decode prog_9_method_103_code 20 = .ok (.return_, 1) := by decide +kernel
theorem d_20_0 : decode prog_1_method_4_code 0 = .ok (.aload_n 0, 1) := by decide +kernel
theorem d_20_1 : decode prog_1_method_4_code 1 = .ok (.getfield 19, 3) := by decide +kernel
theorem d_20_4 : decode prog_1_method_4_code 4 = .ok (.ifCond .ne 5, 3) := by decide +kernel
theorem d_20_7 : decode prog_1_method_4_code 7 = .ok (.iconst (-1), 1) := by decide +kernel
theorem d_20_8 : decode prog_1_method_4_code 8 = .ok (.ireturn, 1) := by decide +kernel
theorem d_20_9 : decode prog_1_method_4_code 9 = .ok (.aload_n 0, 1) := by decide +kernel
theorem d_20_10 : decode prog_1_method_4_code 10 = .ok (.getfield 10, 3) := by decide +kernel
theorem d_20_13 : decode prog_1_method_4_code 13 = .ok (.iload_n 1, 1) := by decide +kernel
theorem d_20_14 : decode prog_1_method_4_code 14 = .ok (.invokevirtual 54, 3) := by decide +kernel
theorem d_20_17 : decode prog_1_method_4_code 17 = .ok (.astore 6, 2) := by decide +kernel
theorem d_20_19 : decode prog_1_method_4_code 19 = .ok (.aload 6, 2) := by decide +kernel
theorem d_20_21 : decode prog_1_method_4_code 21 = .ok (.ifnonnull 8, 3) := by decide +kernel
theorem d_20_24 : decode prog_1_method_4_code 24 = .ok (.bipush (-3), 2) := by decide +kernel
theorem d_20_26 : decode prog_1_method_4_code 26 = .ok (.goto 14, 3) := by decide +kernel
theorem d_20_29 : decode prog_1_method_4_code 29 = .ok (.aload 6, 2) := by decide +kernel
theorem d_20_31 : decode prog_1_method_4_code 31 = .ok (.iload_n 2, 1) := by decide +kernel
theorem d_20_32 : decode prog_1_method_4_code 32 = .ok (.iload_n 3, 1) := by decide +kernel
theorem d_20_33 : decode prog_1_method_4_code 33 = .ok (.iload 4, 2) := by decide +kernel
theorem d_20_35 : decode prog_1_method_4_code 35 = .ok (.iload 5, 2) := by decide +kernel
theorem d_20_37 : decode prog_1_method_4_code 37 = .ok (.invokevirtual 58, 3) := by decide +kernel
theorem d_20_40 : decode prog_1_method_4_code 40 = .ok (.ireturn, 1) := by decide +kernel
theorem d_21_0 : decode prog_5_method_10_code 0 = .ok (.iload_n 1, 1) := by decide +kernel
theorem d_21_1 : decode prog_5_method_10_code 1 = .ok (.iconst (-1), 1) := by decide +kernel
theorem d_21_2 : decode prog_5_method_10_code 2 = .ok (.if_icmp .ne 8, 3) := by decide +kernel
theorem d_21_5 : decode prog_5_method_10_code 5 = .ok (.aload_n 0, 1) := by decide +kernel
theorem d_21_6 : decode prog_5_method_10_code 6 = .ok (.getfield 41, 3) := by decide +kernel
theorem d_21_9 : decode prog_5_method_10_code 9 = .ok (.areturn, 1) := by decide +kernel
theorem d_21_10 : decode prog_5_method_10_code 10 = .ok (.aload_n 0, 1) := by decide +kernel
theorem d_21_11 : decode prog_5_method_10_code 11 = .ok (.iload_n 1, 1) := by decide +kernel
theorem d_21_12 : decode prog_5_method_10_code 12 = .ok (.invokevirtual 82, 3) := by decide +kernel
theorem d_21_15 : decode prog_5_method_10_code 15 = .ok (.astore_n 2, 1) := by decide +kernel
theorem d_21_16 : decode prog_5_method_10_code 16 = .ok (.aload_n 2, 1) := by decide +kernel
theorem d_21_17 : decode prog_5_method_10_code 17 = .ok (.ifnonnull 7, 3) := by decide +kernel
theorem d_21_20 : decode prog_5_method_10_code 20 = .ok (.aconst_null, 1) := by decide +kernel
theorem d_21_21 : decode prog_5_method_10_code 21 = .ok (.goto 7, 3) := by decide +kernel
theorem d_21_24 : decode prog_5_method_10_code 24 = .ok (.aload_n 2, 1) := by decide +kernel
theorem d_21_25 : decode prog_5_method_10_code 25 = .ok (.getfield 48, 3) := by decide +kernel
theorem d_21_28 : decode prog_5_method_10_code 28 = .ok (.areturn, 1) := by decide +kernel
theorem d_22_0 : decode prog_5_method_9_code 0 = .ok (.iload_n 1, 1) := by decide +kernel
theorem d_22_1 : decode prog_5_method_9_code 1 = .ok (.ifCond .lt 20, 3) := by decide +kernel
theorem d_22_4 : decode prog_5_method_9_code 4 = .ok (.iload_n 1, 1) := by decide +kernel
theorem d_22_5 : decode prog_5_method_9_code 5 = .ok (.aload_n 0, 1) := by decide +kernel
theorem d_22_6 : decode prog_5_method_9_code 6 = .ok (.getfield 25, 3) := by decide +kernel
theorem d_22_9 : decode prog_5_method_9_code 9 = .ok (.if_icmp .ge 12, 3) := by decide +kernel
theorem d_22_12 : decode prog_5_method_9_code 12 = .ok (.aload_n 0, 1) := by decide +kernel
theorem d_22_13 : decode prog_5_method_9_code 13 = .ok (.getfield 33, 3) := by decide +kernel
theorem d_22_16 : decode prog_5_method_9_code 16 = .ok (.iload_n 1, 1) := by decide +kernel
theorem d_22_17 : decode prog_5_method_9_code 17 = .ok (.aaload, 1) := by decide +kernel
theorem d_22_18 : decode prog_5_method_9_code 18 = .ok (.goto 4, 3) := by decide +kernel
theorem d_22_21 : decode prog_5_method_9_code 21 = .ok (.aconst_null, 1) := by decide +kernel
theorem d_22_22 : decode prog_5_method_9_code 22 = .ok (.areturn, 1) := by decide +kernel
theorem d_23_0 : decode prog_2_method_3_code 0 = .ok (.iload_n 1, 1) := by decide +kernel
theorem d_23_1 : decode prog_2_method_3_code 1 = .ok (.invokestatic 28, 3) := by decide +kernel
theorem d_23_4 : decode prog_2_method_3_code 4 = .ok (.ifCond .eq 10, 3) := by decide +kernel
theorem d_23_7 : decode prog_2_method_3_code 7 = .ok (.iload_n 2, 1) := by decide +kernel
theorem d_23_8 : decode prog_2_method_3_code 8 = .ok (.invokestatic 32, 3) := by decide +kernel
theorem d_23_11 : decode prog_2_method_3_code 11 = .ok (.ifCond .ne 6, 3) := by decide +kernel
theorem d_23_14 : decode prog_2_method_3_code 14 = .ok (.bipush (-2), 2) := by decide +kernel
theorem d_23_16 : decode prog_2_method_3_code 16 = .ok (.ireturn, 1) := by decide +kernel
theorem d_23_17 : decode prog_2_method_3_code 17 = .ok (.iload_n 2, 1) := by decide +kernel
theorem d_23_18 : decode prog_2_method_3_code 18 = .ok (.iload_n 3, 1) := by decide +kernel
theorem d_23_19 : decode prog_2_method_3_code 19 = .ok (.invokestatic 35, 3) := by decide +kernel
theorem d_23_22 : decode prog_2_method_3_code 22 = .ok (.ifCond .eq 12, 3) := by decide +kernel
theorem d_23_25 : decode prog_2_method_3_code 25 = .ok (.iload_n 2, 1) := by decide +kernel
theorem d_23_26 : decode prog_2_method_3_code 26 = .ok (.iload 4, 2) := by decide +kernel
theorem d_23_28 : decode prog_2_method_3_code 28 = .ok (.invokestatic 35, 3) := by decide +kernel
theorem d_23_31 : decode prog_2_method_3_code 31 = .ok (.ifCond .ne 6, 3) := by decide +kernel
theorem d_23_34 : decode prog_2_method_3_code 34 = .ok (.bipush (-6), 2) := by decide +kernel
theorem d_23_36 : decode prog_2_method_3_code 36 = .ok (.ireturn, 1) := by decide +kernel
theorem d_23_37 : decode prog_2_method_3_code 37 = .ok (.iload_n 1, 1) := by decide +kernel
theorem d_23_38 : decode prog_2_method_3_code 38 = .ok (.aload_n 0, 1) := by decide +kernel
theorem d_23_39 : decode prog_2_method_3_code 39 = .ok (.getfield 15, 3) := by decide +kernel
theorem d_23_42 : decode prog_2_method_3_code 42 = .ok (.aload_n 0, 1) := by decide +kernel
theorem d_23_43 : decode prog_2_method_3_code 43 = .ok (.getfield 9, 3) := by decide +kernel
theorem d_23_46 : decode prog_2_method_3_code 46 = .ok (.invokestatic 39, 3) := by decide +kernel
theorem d_23_49 : decode prog_2_method_3_code 49 = .ok (.istore 5, 2) := by decide +kernel
theorem d_23_51 : decode prog_2_method_3_code 51 = .ok (.iload 5, 2) := by decide +kernel
theorem d_23_53 : decode prog_2_method_3_code 53 = .ok (.ifCond .ge 30, 3) := by decide +kernel
theorem d_23_56 : decode prog_2_method_3_code 56 = .ok (.aload_n 0, 1) := by decide +kernel
theorem d_23_57 : decode prog_2_method_3_code 57 = .ok (.getfield 9, 3) := by decide +kernel
theorem d_23_60 : decode prog_2_method_3_code 60 = .ok (.iconst 3, 1) := by decide +kernel
theorem d_23_61 : decode prog_2_method_3_code 61 = .ok (.if_icmp .lt 6, 3) := by decide +kernel
theorem d_23_64 : decode prog_2_method_3_code 64 = .ok (.bipush (-5), 2) := by decide +kernel
theorem d_23_66 : decode prog_2_method_3_code 66 = .ok (.ireturn, 1) := by decide +kernel
theorem d_23_67 : decode prog_2_method_3_code 67 = .ok (.aload_n 0, 1) := by decide +kernel
theorem d_23_68 : decode prog_2_method_3_code 68 = .ok (.getfield 9, 3) := by decide +kernel
theorem d_23_71 : decode prog_2_method_3_code 71 = .ok (.istore 5, 2) := by decide +kernel
theorem d_23_73 : decode prog_2_method_3_code 73 = .ok (.aload_n 0, 1) := by decide +kernel
theorem d_23_74 : decode prog_2_method_3_code 74 = .ok (.dup, 1) := by decide +kernel
theorem d_23_75 : decode prog_2_method_3_code 75 = .ok (.getfield 9, 3) := by decide +kernel
theorem d_23_78 : decode prog_2_method_3_code 78 = .ok (.iconst 1, 1) := by decide +kernel
theorem d_23_79 : decode prog_2_method_3_code 79 = .ok (.iadd, 1) := by decide +kernel
theorem d_23_80 : decode prog_2_method_3_code 80 = .ok (.putfield 9, 3) := by decide +kernel
theorem d_23_83 : decode prog_2_method_3_code 83 = .ok (.aload_n 0, 1) := by decide +kernel
theorem d_23_84 : decode prog_2_method_3_code 84 = .ok (.getfield 15, 3) := by decide +kernel
theorem d_23_87 : decode prog_2_method_3_code 87 = .ok (.iload 5, 2) := by decide +kernel
theorem d_23_89 : decode prog_2_method_3_code 89 = .ok (.iload_n 1, 1) := by decide +kernel
theorem d_23_90 : decode prog_2_method_3_code 90 = .ok (.iastore, 1) := by decide +kernel
theorem d_23_91 : decode prog_2_method_3_code 91 = .ok (.aload_n 0, 1) := by decide +kernel
theorem d_23_92 : decode prog_2_method_3_code 92 = .ok (.getfield 19, 3) := by decide +kernel
theorem d_23_95 : decode prog_2_method_3_code 95 = .ok (.iload 5, 2) := by decide +kernel
theorem d_23_97 : decode prog_2_method_3_code 97 = .ok (.iload_n 2, 1) := by decide +kernel
theorem d_23_98 : decode prog_2_method_3_code 98 = .ok (.iastore, 1) := by decide +kernel
theorem d_23_99 : decode prog_2_method_3_code 99 = .ok (.aload_n 0, 1) := by decide +kernel
theorem d_23_100 : decode prog_2_method_3_code 100 = .ok (.getfield 22, 3) := by decide +kernel
theorem d_23_103 : decode prog_2_method_3_code 103 = .ok (.iload 5, 2) := by decide +kernel
theorem d_23_105 : decode prog_2_method_3_code 105 = .ok (.iload_n 3, 1) := by decide +kernel
theorem d_23_106 : decode prog_2_method_3_code 106 = .ok (.iastore, 1) := by decide +kernel
theorem d_23_107 : decode prog_2_method_3_code 107 = .ok (.aload_n 0, 1) := by decide +kernel
theorem d_23_108 : decode prog_2_method_3_code 108 = .ok (.getfield 25, 3) := by decide +kernel
theorem d_23_111 : decode prog_2_method_3_code 111 = .ok (.iload 5, 2) := by decide +kernel
theorem d_23_113 : decode prog_2_method_3_code 113 = .ok (.iload 4, 2) := by decide +kernel
theorem d_23_115 : decode prog_2_method_3_code 115 = .ok (.iastore, 1) := by decide +kernel
theorem d_23_116 : decode prog_2_method_3_code 116 = .ok (.iconst 0, 1) := by decide +kernel
theorem d_23_117 : decode prog_2_method_3_code 117 = .ok (.ireturn, 1) := by decide +kernel
theorem d_24_0 : decode prog_1_method_25_code 0 = .ok (.iload_n 1, 1) := by decide +kernel
theorem d_24_1 : decode prog_1_method_25_code 1 = .ok (.getstatic 175, 3) := by decide +kernel
theorem d_24_4 : decode prog_1_method_25_code 4 = .ok (.iload_n 0, 1) := by decide +kernel
theorem d_24_5 : decode prog_1_method_25_code 5 = .ok (.iaload, 1) := by decide +kernel
theorem d_24_6 : decode prog_1_method_25_code 6 = .ok (.if_icmp .lt 16, 3) := by decide +kernel
theorem d_24_9 : decode prog_1_method_25_code 9 = .ok (.iload_n 1, 1) := by decide +kernel
theorem d_24_10 : decode prog_1_method_25_code 10 = .ok (.getstatic 179, 3) := by decide +kernel
theorem d_24_13 : decode prog_1_method_25_code 13 = .ok (.iload_n 0, 1) := by decide +kernel
theorem d_24_14 : decode prog_1_method_25_code 14 = .ok (.iaload, 1) := by decide +kernel
theorem d_24_15 : decode prog_1_method_25_code 15 = .ok (.if_icmp .gt 7, 3) := by decide +kernel
theorem d_24_18 : decode prog_1_method_25_code 18 = .ok (.iconst 1, 1) := by decide +kernel
theorem d_24_19 : decode prog_1_method_25_code 19 = .ok (.goto 4, 3) := by decide +kernel
theorem d_24_22 : decode prog_1_method_25_code 22 = .ok (.iconst 0, 1) := by decide +kernel
theorem d_24_23 : decode prog_1_method_25_code 23 = .ok (.ireturn, 1) := by decide +kernel
theorem d_25_0 : decode prog_1_method_5_code 0 = .ok (.aload_n 0, 1) := by decide +kernel
theorem d_25_1 : decode prog_1_method_5_code 1 = .ok (.getfield 19, 3) := by decide +kernel
theorem d_25_4 : decode prog_1_method_5_code 4 = .ok (.ifCond .ne 5, 3) := by decide +kernel
theorem d_25_7 : decode prog_1_method_5_code 7 = .ok (.iconst (-1), 1) := by decide +kernel
theorem d_25_8 : decode prog_1_method_5_code 8 = .ok (.ireturn, 1) := by decide +kernel
theorem d_25_9 : decode prog_1_method_5_code 9 = .ok (.aload_n 0, 1) := by decide +kernel
theorem d_25_10 : decode prog_1_method_5_code 10 = .ok (.getfield 10, 3) := by decide +kernel
theorem d_25_13 : decode prog_1_method_5_code 13 = .ok (.iload_n 1, 1) := by decide +kernel
theorem d_25_14 : decode prog_1_method_5_code 14 = .ok (.invokevirtual 54, 3) := by decide +kernel
theorem d_25_17 : decode prog_1_method_5_code 17 = .ok (.astore_n 3, 1) := by decide +kernel
theorem d_25_18 : decode prog_1_method_5_code 18 = .ok (.aload_n 3, 1) := by decide +kernel
theorem d_25_19 : decode prog_1_method_5_code 19 = .ok (.ifnonnull 8, 3) := by decide +kernel
theorem d_25_22 : decode prog_1_method_5_code 22 = .ok (.bipush (-3), 2) := by decide +kernel
theorem d_25_24 : decode prog_1_method_5_code 24 = .ok (.goto 8, 3) := by decide +kernel
theorem d_25_27 : decode prog_1_method_5_code 27 = .ok (.aload_n 3, 1) := by decide +kernel
theorem d_25_28 : decode prog_1_method_5_code 28 = .ok (.iload_n 2, 1) := by decide +kernel
theorem d_25_29 : decode prog_1_method_5_code 29 = .ok (.invokevirtual 63, 3) := by decide +kernel
theorem d_25_32 : decode prog_1_method_5_code 32 = .ok (.ireturn, 1) := by decide +kernel
theorem d_26_0 : decode prog_2_method_4_code 0 = .ok (.iload_n 1, 1) := by decide +kernel
theorem d_26_1 : decode prog_2_method_4_code 1 = .ok (.aload_n 0, 1) := by decide +kernel
theorem d_26_2 : decode prog_2_method_4_code 2 = .ok (.getfield 15, 3) := by decide +kernel
theorem d_26_5 : decode prog_2_method_4_code 5 = .ok (.aload_n 0, 1) := by decide +kernel
theorem d_26_6 : decode prog_2_method_4_code 6 = .ok (.getfield 9, 3) := by decide +kernel
theorem d_26_9 : decode prog_2_method_4_code 9 = .ok (.invokestatic 39, 3) := by decide +kernel
theorem d_26_12 : decode prog_2_method_4_code 12 = .ok (.istore_n 2, 1) := by decide +kernel
theorem d_26_13 : decode prog_2_method_4_code 13 = .ok (.iload_n 2, 1) := by decide +kernel
theorem d_26_14 : decode prog_2_method_4_code 14 = .ok (.ifCond .ge 6, 3) := by decide +kernel
theorem d_26_17 : decode prog_2_method_4_code 17 = .ok (.bipush (-3), 2) := by decide +kernel
theorem d_26_19 : decode prog_2_method_4_code 19 = .ok (.ireturn, 1) := by decide +kernel
theorem d_26_20 : decode prog_2_method_4_code 20 = .ok (.iload_n 2, 1) := by decide +kernel
theorem d_26_21 : decode prog_2_method_4_code 21 = .ok (.iconst 1, 1) := by decide +kernel
theorem d_26_22 : decode prog_2_method_4_code 22 = .ok (.iadd, 1) := by decide +kernel
theorem d_26_23 : decode prog_2_method_4_code 23 = .ok (.istore_n 3, 1) := by decide +kernel
theorem d_26_24 : decode prog_2_method_4_code 24 = .ok (.iload_n 3, 1) := by decide +kernel
theorem d_26_25 : decode prog_2_method_4_code 25 = .ok (.aload_n 0, 1) := by decide +kernel
theorem d_26_26 : decode prog_2_method_4_code 26 = .ok (.getfield 9, 3) := by decide +kernel
theorem d_26_29 : decode prog_2_method_4_code 29 = .ok (.if_icmp .ge 65, 3) := by decide +kernel
theorem d_26_32 : decode prog_2_method_4_code 32 = .ok (.aload_n 0, 1) := by decide +kernel
theorem d_26_33 : decode prog_2_method_4_code 33 = .ok (.getfield 15, 3) := by decide +kernel
theorem d_26_36 : decode prog_2_method_4_code 36 = .ok (.iload_n 3, 1) := by decide +kernel
theorem d_26_37 : decode prog_2_method_4_code 37 = .ok (.iconst 1, 1) := by decide +kernel
theorem d_26_38 : decode prog_2_method_4_code 38 = .ok (.isub, 1) := by decide +kernel
theorem d_26_39 : decode prog_2_method_4_code 39 = .ok (.aload_n 0, 1) := by decide +kernel
theorem d_26_40 : decode prog_2_method_4_code 40 = .ok (.getfield 15, 3) := by decide +kernel
theorem d_26_43 : decode prog_2_method_4_code 43 = .ok (.iload_n 3, 1) := by decide +kernel
theorem d_26_44 : decode prog_2_method_4_code 44 = .ok (.iaload, 1) := by decide +kernel
theorem d_26_45 : decode prog_2_method_4_code 45 = .ok (.iastore, 1) := by decide +kernel
theorem d_26_46 : decode prog_2_method_4_code 46 = .ok (.aload_n 0, 1) := by decide +kernel
theorem d_26_47 : decode prog_2_method_4_code 47 = .ok (.getfield 19, 3) := by decide +kernel
theorem d_26_50 : decode prog_2_method_4_code 50 = .ok (.iload_n 3, 1) := by decide +kernel
theorem d_26_51 : decode prog_2_method_4_code 51 = .ok (.iconst 1, 1) := by decide +kernel
theorem d_26_52 : decode prog_2_method_4_code 52 = .ok (.isub, 1) := by decide +kernel
theorem d_26_53 : decode prog_2_method_4_code 53 = .ok (.aload_n 0, 1) := by decide +kernel
theorem d_26_54 : decode prog_2_method_4_code 54 = .ok (.getfield 19, 3) := by decide +kernel
theorem d_26_57 : decode prog_2_method_4_code 57 = .ok (.iload_n 3, 1) := by decide +kernel
theorem d_26_58 : decode prog_2_method_4_code 58 = .ok (.iaload, 1) := by decide +kernel
theorem d_26_59 : decode prog_2_method_4_code 59 = .ok (.iastore, 1) := by decide +kernel
theorem d_26_60 : decode prog_2_method_4_code 60 = .ok (.aload_n 0, 1) := by decide +kernel
theorem d_26_61 : decode prog_2_method_4_code 61 = .ok (.getfield 22, 3) := by decide +kernel
theorem d_26_64 : decode prog_2_method_4_code 64 = .ok (.iload_n 3, 1) := by decide +kernel
theorem d_26_65 : decode prog_2_method_4_code 65 = .ok (.iconst 1, 1) := by decide +kernel
theorem d_26_66 : decode prog_2_method_4_code 66 = .ok (.isub, 1) := by decide +kernel
theorem d_26_67 : decode prog_2_method_4_code 67 = .ok (.aload_n 0, 1) := by decide +kernel
theorem d_26_68 : decode prog_2_method_4_code 68 = .ok (.getfield 22, 3) := by decide +kernel
theorem d_26_71 : decode prog_2_method_4_code 71 = .ok (.iload_n 3, 1) := by decide +kernel
theorem d_26_72 : decode prog_2_method_4_code 72 = .ok (.iaload, 1) := by decide +kernel
theorem d_26_73 : decode prog_2_method_4_code 73 = .ok (.iastore, 1) := by decide +kernel
theorem d_26_74 : decode prog_2_method_4_code 74 = .ok (.aload_n 0, 1) := by decide +kernel
theorem d_26_75 : decode prog_2_method_4_code 75 = .ok (.getfield 25, 3) := by decide +kernel
theorem d_26_78 : decode prog_2_method_4_code 78 = .ok (.iload_n 3, 1) := by decide +kernel
theorem d_26_79 : decode prog_2_method_4_code 79 = .ok (.iconst 1, 1) := by decide +kernel
theorem d_26_80 : decode prog_2_method_4_code 80 = .ok (.isub, 1) := by decide +kernel
theorem d_26_81 : decode prog_2_method_4_code 81 = .ok (.aload_n 0, 1) := by decide +kernel
theorem d_26_82 : decode prog_2_method_4_code 82 = .ok (.getfield 25, 3) := by decide +kernel
theorem d_26_85 : decode prog_2_method_4_code 85 = .ok (.iload_n 3, 1) := by decide +kernel
theorem d_26_86 : decode prog_2_method_4_code 86 = .ok (.iaload, 1) := by decide +kernel
theorem d_26_87 : decode prog_2_method_4_code 87 = .ok (.iastore, 1) := by decide +kernel
theorem d_26_88 : decode prog_2_method_4_code 88 = .ok (.iinc 3 1, 3) := by decide +kernel
theorem d_26_91 : decode prog_2_method_4_code 91 = .ok (.goto (-67), 3) := by decide +kernel
theorem d_26_94 : decode prog_2_method_4_code 94 = .ok (.aload_n 0, 1) := by decide +kernel
theorem d_26_95 : decode prog_2_method_4_code 95 = .ok (.dup, 1) := by decide +kernel
theorem d_26_96 : decode prog_2_method_4_code 96 = .ok (.getfield 9, 3) := by decide +kernel
theorem d_26_99 : decode prog_2_method_4_code 99 = .ok (.iconst 1, 1) := by decide +kernel
theorem d_26_100 : decode prog_2_method_4_code 100 = .ok (.isub, 1) := by decide +kernel
theorem d_26_101 : decode prog_2_method_4_code 101 = .ok (.putfield 9, 3) := by decide +kernel
theorem d_26_104 : decode prog_2_method_4_code 104 = .ok (.iconst 0, 1) := by decide +kernel
theorem d_26_105 : decode prog_2_method_4_code 105 = .ok (.ireturn, 1) := by decide +kernel
theorem d_27_0 : decode prog_1_method_6_code 0 = .ok (.aload_n 0, 1) := by decide +kernel
theorem d_27_1 : decode prog_1_method_6_code 1 = .ok (.getfield 19, 3) := by decide +kernel
theorem d_27_4 : decode prog_1_method_6_code 4 = .ok (.ifCond .ne 5, 3) := by decide +kernel
theorem d_27_7 : decode prog_1_method_6_code 7 = .ok (.iconst (-1), 1) := by decide +kernel
theorem d_27_8 : decode prog_1_method_6_code 8 = .ok (.ireturn, 1) := by decide +kernel
theorem d_27_9 : decode prog_1_method_6_code 9 = .ok (.iload_n 1, 1) := by decide +kernel
theorem d_27_10 : decode prog_1_method_6_code 10 = .ok (.ifCond .eq 15, 3) := by decide +kernel
theorem d_27_13 : decode prog_1_method_6_code 13 = .ok (.aload_n 0, 1) := by decide +kernel
theorem d_27_14 : decode prog_1_method_6_code 14 = .ok (.getfield 10, 3) := by decide +kernel
theorem d_27_17 : decode prog_1_method_6_code 17 = .ok (.iload_n 2, 1) := by decide +kernel
theorem d_27_18 : decode prog_1_method_6_code 18 = .ok (.iload_n 3, 1) := by decide +kernel
theorem d_27_19 : decode prog_1_method_6_code 19 = .ok (.invokevirtual 67, 3) := by decide +kernel
theorem d_27_22 : decode prog_1_method_6_code 22 = .ok (.goto 12, 3) := by decide +kernel
theorem d_27_25 : decode prog_1_method_6_code 25 = .ok (.aload_n 0, 1) := by decide +kernel
theorem d_27_26 : decode prog_1_method_6_code 26 = .ok (.getfield 10, 3) := by decide +kernel
theorem d_27_29 : decode prog_1_method_6_code 29 = .ok (.iload_n 2, 1) := by decide +kernel
theorem d_27_30 : decode prog_1_method_6_code 30 = .ok (.iload_n 3, 1) := by decide +kernel
theorem d_27_31 : decode prog_1_method_6_code 31 = .ok (.invokevirtual 70, 3) := by decide +kernel
theorem d_27_34 : decode prog_1_method_6_code 34 = .ok (.ireturn, 1) := by decide +kernel
theorem d_28_0 : decode prog_5_method_12_code 0 = .ok (.aload_n 0, 1) := by decide +kernel
theorem d_28_1 : decode prog_5_method_12_code 1 = .ok (.getfield 28, 3) := by decide +kernel
theorem d_28_4 : decode prog_5_method_12_code 4 = .ok (.aload_n 0, 1) := by decide +kernel
theorem d_28_5 : decode prog_5_method_12_code 5 = .ok (.getfield 25, 3) := by decide +kernel
theorem d_28_8 : decode prog_5_method_12_code 8 = .ok (.iload_n 1, 1) := by decide +kernel
theorem d_28_9 : decode prog_5_method_12_code 9 = .ok (.iload_n 2, 1) := by decide +kernel
theorem d_28_10 : decode prog_5_method_12_code 10 = .ok (.invokestatic 86, 3) := by decide +kernel
theorem d_28_13 : decode prog_5_method_12_code 13 = .ok (.ireturn, 1) := by decide +kernel
theorem d_29_0 : decode prog_5_method_13_code 0 = .ok (.iload_n 2, 1) := by decide +kernel
theorem d_29_1 : decode prog_5_method_13_code 1 = .ok (.ifCond .lt 8, 3) := by decide +kernel
theorem d_29_4 : decode prog_5_method_13_code 4 = .ok (.iload_n 2, 1) := by decide +kernel
theorem d_29_5 : decode prog_5_method_13_code 5 = .ok (.iload_n 1, 1) := by decide +kernel
theorem d_29_6 : decode prog_5_method_13_code 6 = .ok (.if_icmp .lt 6, 3) := by decide +kernel
theorem d_29_9 : decode prog_5_method_13_code 9 = .ok (.bipush (-3), 2) := by decide +kernel
theorem d_29_11 : decode prog_5_method_13_code 11 = .ok (.ireturn, 1) := by decide +kernel
theorem d_29_12 : decode prog_5_method_13_code 12 = .ok (.iload_n 3, 1) := by decide +kernel
theorem d_29_13 : decode prog_5_method_13_code 13 = .ok (.invokestatic 49, 3) := by decide +kernel
theorem d_29_16 : decode prog_5_method_13_code 16 = .ok (.ifCond .ne 6, 3) := by decide +kernel
theorem d_29_19 : decode prog_5_method_13_code 19 = .ok (.bipush (-2), 2) := by decide +kernel
theorem d_29_21 : decode prog_5_method_13_code 21 = .ok (.ireturn, 1) := by decide +kernel
theorem d_29_22 : decode prog_5_method_13_code 22 = .ok (.iload_n 3, 1) := by decide +kernel
theorem d_29_23 : decode prog_5_method_13_code 23 = .ok (.aload_n 0, 1) := by decide +kernel
theorem d_29_24 : decode prog_5_method_13_code 24 = .ok (.iload_n 1, 1) := by decide +kernel
theorem d_29_25 : decode prog_5_method_13_code 25 = .ok (.invokestatic 53, 3) := by decide +kernel
theorem d_29_28 : decode prog_5_method_13_code 28 = .ok (.istore 4, 2) := by decide +kernel
theorem d_29_30 : decode prog_5_method_13_code 30 = .ok (.iload 4, 2) := by decide +kernel
theorem d_29_32 : decode prog_5_method_13_code 32 = .ok (.ifCond .lt 12, 3) := by decide +kernel
theorem d_29_35 : decode prog_5_method_13_code 35 = .ok (.iload 4, 2) := by decide +kernel
theorem d_29_37 : decode prog_5_method_13_code 37 = .ok (.iload_n 2, 1) := by decide +kernel
theorem d_29_38 : decode prog_5_method_13_code 38 = .ok (.if_icmp .eq 6, 3) := by decide +kernel
theorem d_29_41 : decode prog_5_method_13_code 41 = .ok (.bipush (-4), 2) := by decide +kernel
theorem d_29_43 : decode prog_5_method_13_code 43 = .ok (.ireturn, 1) := by decide +kernel
theorem d_29_44 : decode prog_5_method_13_code 44 = .ok (.aload_n 0, 1) := by decide +kernel
theorem d_29_45 : decode prog_5_method_13_code 45 = .ok (.iload_n 2, 1) := by decide +kernel
theorem d_29_46 : decode prog_5_method_13_code 46 = .ok (.iload_n 3, 1) := by decide +kernel
theorem d_29_47 : decode prog_5_method_13_code 47 = .ok (.iastore, 1) := by decide +kernel
theorem d_29_48 : decode prog_5_method_13_code 48 = .ok (.iconst 0, 1) := by decide +kernel
theorem d_29_49 : decode prog_5_method_13_code 49 = .ok (.ireturn, 1) := by decide +kernel
theorem d_30_0 : decode prog_5_method_11_code 0 = .ok (.aload_n 0, 1) := by decide +kernel
theorem d_30_1 : decode prog_5_method_11_code 1 = .ok (.getfield 18, 3) := by decide +kernel
theorem d_30_4 : decode prog_5_method_11_code 4 = .ok (.aload_n 0, 1) := by decide +kernel
theorem d_30_5 : decode prog_5_method_11_code 5 = .ok (.getfield 15, 3) := by decide +kernel
theorem d_30_8 : decode prog_5_method_11_code 8 = .ok (.iload_n 1, 1) := by decide +kernel
theorem d_30_9 : decode prog_5_method_11_code 9 = .ok (.iload_n 2, 1) := by decide +kernel
theorem d_30_10 : decode prog_5_method_11_code 10 = .ok (.invokestatic 86, 3) := by decide +kernel
theorem d_30_13 : decode prog_5_method_11_code 13 = .ok (.ireturn, 1) := by decide +kernel
theorem d_31_0 : decode prog_1_method_7_code 0 = .ok (.aload_n 0, 1) := by decide +kernel
theorem d_31_1 : decode prog_1_method_7_code 1 = .ok (.getfield 19, 3) := by decide +kernel
theorem d_31_4 : decode prog_1_method_7_code 4 = .ok (.ifCond .ne 5, 3) := by decide +kernel
theorem d_31_7 : decode prog_1_method_7_code 7 = .ok (.iconst (-1), 1) := by decide +kernel
theorem d_31_8 : decode prog_1_method_7_code 8 = .ok (.ireturn, 1) := by decide +kernel
theorem d_31_9 : decode prog_1_method_7_code 9 = .ok (.aload_n 0, 1) := by decide +kernel
theorem d_31_10 : decode prog_1_method_7_code 10 = .ok (.getfield 10, 3) := by decide +kernel
theorem d_31_13 : decode prog_1_method_7_code 13 = .ok (.aload_n 0, 1) := by decide +kernel
theorem d_31_14 : decode prog_1_method_7_code 14 = .ok (.getfield 10, 3) := by decide +kernel
theorem d_31_17 : decode prog_1_method_7_code 17 = .ok (.getfield 73, 3) := by decide +kernel
theorem d_31_20 : decode prog_1_method_7_code 20 = .ok (.i2l, 1) := by decide +kernel
theorem d_31_21 : decode prog_1_method_7_code 21 = .ok (.invokevirtual 77, 3) := by decide +kernel
theorem d_31_24 : decode prog_1_method_7_code 24 = .ok (.lstore_n 1, 1) := by decide +kernel
theorem d_31_25 : decode prog_1_method_7_code 25 = .ok (.lload_n 1, 1) := by decide +kernel
theorem d_31_26 : decode prog_1_method_7_code 26 = .ok (.ldc2_w 81, 3) := by decide +kernel
theorem d_31_29 : decode prog_1_method_7_code 29 = .ok (.lcmp, 1) := by decide +kernel
theorem d_31_30 : decode prog_1_method_7_code 30 = .ok (.ifCond .le 6, 3) := by decide +kernel
theorem d_31_33 : decode prog_1_method_7_code 33 = .ok (.bipush (-8), 2) := by decide +kernel
theorem d_31_35 : decode prog_1_method_7_code 35 = .ok (.ireturn, 1) := by decide +kernel
theorem d_31_36 : decode prog_1_method_7_code 36 = .ok (.aload_n 0, 1) := by decide +kernel
theorem d_31_37 : decode prog_1_method_7_code 37 = .ok (.iconst 0, 1) := by decide +kernel
theorem d_31_38 : decode prog_1_method_7_code 38 = .ok (.putfield 19, 3) := by decide +kernel
theorem d_31_41 : decode prog_1_method_7_code 41 = .ok (.lload_n 1, 1) := by decide +kernel
theorem d_31_42 : decode prog_1_method_7_code 42 = .ok (.l2i, 1) := by decide +kernel
theorem d_31_43 : decode prog_1_method_7_code 43 = .ok (.ireturn, 1) := by decide +kernel
theorem d_32_0 : decode prog_5_method_20_code 0 = .ok (.aload_n 0, 1) := by decide +kernel
theorem d_32_1 : decode prog_5_method_20_code 1 = .ok (.invokevirtual 122, 3) := by decide +kernel
theorem d_32_4 : decode prog_5_method_20_code 4 = .ok (.aload_n 0, 1) := by decide +kernel
theorem d_32_5 : decode prog_5_method_20_code 5 = .ok (.aload_n 0, 1) := by decide +kernel
theorem d_32_6 : decode prog_5_method_20_code 6 = .ok (.getfield 25, 3) := by decide +kernel
theorem d_32_9 : decode prog_5_method_20_code 9 = .ok (.iconst 0, 1) := by decide +kernel
theorem d_32_10 : decode prog_5_method_20_code 10 = .ok (.invokevirtual 115, 3) := by decide +kernel
theorem d_32_13 : decode prog_5_method_20_code 13 = .ok (.iadd, 1) := by decide +kernel
theorem d_32_14 : decode prog_5_method_20_code 14 = .ok (.i2l, 1) := by decide +kernel
theorem d_32_15 : decode prog_5_method_20_code 15 = .ok (.lload_n 1, 1) := by decide +kernel
theorem d_32_16 : decode prog_5_method_20_code 16 = .ok (.aload_n 0, 1) := by decide +kernel
theorem d_32_17 : decode prog_5_method_20_code 17 = .ok (.invokevirtual 123, 3) := by decide +kernel
theorem d_32_20 : decode prog_5_method_20_code 20 = .ok (.i2l, 1) := by decide +kernel
theorem d_32_21 : decode prog_5_method_20_code 21 = .ok (.lmul, 1) := by decide +kernel
theorem d_32_22 : decode prog_5_method_20_code 22 = .ok (.ladd, 1) := by decide +kernel
theorem d_32_23 : decode prog_5_method_20_code 23 = .ok (.lreturn, 1) := by decide +kernel
theorem d_33_0 : decode prog_5_method_17_code 0 = .ok (.bipush 24, 2) := by decide +kernel
theorem d_33_2 : decode prog_5_method_17_code 2 = .ok (.aload_n 0, 1) := by decide +kernel
theorem d_33_3 : decode prog_5_method_17_code 3 = .ok (.getfield 41, 3) := by decide +kernel
theorem d_33_6 : decode prog_5_method_17_code 6 = .ok (.invokevirtual 104, 3) := by decide +kernel
theorem d_33_9 : decode prog_5_method_17_code 9 = .ok (.iadd, 1) := by decide +kernel
theorem d_33_10 : decode prog_5_method_17_code 10 = .ok (.istore_n 1, 1) := by decide +kernel
theorem d_33_11 : decode prog_5_method_17_code 11 = .ok (.iload_n 1, 1) := by decide +kernel
theorem d_33_12 : decode prog_5_method_17_code 12 = .ok (.aload_n 0, 1) := by decide +kernel
theorem d_33_13 : decode prog_5_method_17_code 13 = .ok (.getfield 15, 3) := by decide +kernel
theorem d_33_16 : decode prog_5_method_17_code 16 = .ok (.bipush 12, 2) := by decide +kernel
theorem d_33_18 : decode prog_5_method_17_code 18 = .ok (.imul, 1) := by decide +kernel
theorem d_33_19 : decode prog_5_method_17_code 19 = .ok (.iadd, 1) := by decide +kernel
theorem d_33_20 : decode prog_5_method_17_code 20 = .ok (.istore_n 1, 1) := by decide +kernel
theorem d_33_21 : decode prog_5_method_17_code 21 = .ok (.iconst 0, 1) := by decide +kernel
theorem d_33_22 : decode prog_5_method_17_code 22 = .ok (.istore_n 2, 1) := by decide +kernel
theorem d_33_23 : decode prog_5_method_17_code 23 = .ok (.iload_n 2, 1) := by decide +kernel
theorem d_33_24 : decode prog_5_method_17_code 24 = .ok (.aload_n 0, 1) := by decide +kernel
theorem d_33_25 : decode prog_5_method_17_code 25 = .ok (.getfield 25, 3) := by decide +kernel
theorem d_33_28 : decode prog_5_method_17_code 28 = .ok (.if_icmp .ge 21, 3) := by decide +kernel
theorem d_33_31 : decode prog_5_method_17_code 31 = .ok (.iload_n 1, 1) := by decide +kernel
theorem d_33_32 : decode prog_5_method_17_code 32 = .ok (.aload_n 0, 1) := by decide +kernel
theorem d_33_33 : decode prog_5_method_17_code 33 = .ok (.getfield 33, 3) := by decide +kernel
theorem d_33_36 : decode prog_5_method_17_code 36 = .ok (.iload_n 2, 1) := by decide +kernel
theorem d_33_37 : decode prog_5_method_17_code 37 = .ok (.aaload, 1) := by decide +kernel
theorem d_33_38 : decode prog_5_method_17_code 38 = .ok (.invokevirtual 108, 3) := by decide +kernel
theorem d_33_41 : decode prog_5_method_17_code 41 = .ok (.iadd, 1) := by decide +kernel
theorem d_33_42 : decode prog_5_method_17_code 42 = .ok (.istore_n 1, 1) := by decide +kernel
theorem d_33_43 : decode prog_5_method_17_code 43 = .ok (.iinc 2 1, 3) := by decide +kernel
theorem d_33_46 : decode prog_5_method_17_code 46 = .ok (.goto (-23), 3) := by decide +kernel
theorem d_33_49 : decode prog_5_method_17_code 49 = .ok (.iload_n 1, 1) := by decide +kernel
theorem d_33_50 : decode prog_5_method_17_code 50 = .ok (.ireturn, 1) := by decide +kernel
theorem d_34_0 : decode prog_2_method_5_code 0 = .ok (.bipush 8, 2) := by decide +kernel
theorem d_34_2 : decode prog_2_method_5_code 2 = .ok (.istore_n 1, 1) := by decide +kernel
theorem d_34_3 : decode prog_2_method_5_code 3 = .ok (.iconst 0, 1) := by decide +kernel
theorem d_34_4 : decode prog_2_method_5_code 4 = .ok (.istore_n 2, 1) := by decide +kernel
theorem d_34_5 : decode prog_2_method_5_code 5 = .ok (.iload_n 2, 1) := by decide +kernel
theorem d_34_6 : decode prog_2_method_5_code 6 = .ok (.aload_n 0, 1) := by decide +kernel
theorem d_34_7 : decode prog_2_method_5_code 7 = .ok (.getfield 9, 3) := by decide +kernel
theorem d_34_10 : decode prog_2_method_5_code 10 = .ok (.if_icmp .ge 30, 3) := by decide +kernel
theorem d_34_13 : decode prog_2_method_5_code 13 = .ok (.iload_n 1, 1) := by decide +kernel
theorem d_34_14 : decode prog_2_method_5_code 14 = .ok (.bipush 16, 2) := by decide +kernel
theorem d_34_16 : decode prog_2_method_5_code 16 = .ok (.iconst 2, 1) := by decide +kernel
theorem d_34_17 : decode prog_2_method_5_code 17 = .ok (.getstatic 43, 3) := by decide +kernel
theorem d_34_20 : decode prog_2_method_5_code 20 = .ok (.aload_n 0, 1) := by decide +kernel
theorem d_34_21 : decode prog_2_method_5_code 21 = .ok (.getfield 19, 3) := by decide +kernel
theorem d_34_24 : decode prog_2_method_5_code 24 = .ok (.iload_n 2, 1) := by decide +kernel
theorem d_34_25 : decode prog_2_method_5_code 25 = .ok (.iaload, 1) := by decide +kernel
theorem d_34_26 : decode prog_2_method_5_code 26 = .ok (.iaload, 1) := by decide +kernel
theorem d_34_27 : decode prog_2_method_5_code 27 = .ok (.imul, 1) := by decide +kernel
theorem d_34_28 : decode prog_2_method_5_code 28 = .ok (.invokestatic 46, 3) := by decide +kernel
theorem d_34_31 : decode prog_2_method_5_code 31 = .ok (.iadd, 1) := by decide +kernel
theorem d_34_32 : decode prog_2_method_5_code 32 = .ok (.iadd, 1) := by decide +kernel
theorem d_34_33 : decode prog_2_method_5_code 33 = .ok (.istore_n 1, 1) := by decide +kernel
theorem d_34_34 : decode prog_2_method_5_code 34 = .ok (.iinc 2 1, 3) := by decide +kernel
theorem d_34_37 : decode prog_2_method_5_code 37 = .ok (.goto (-32), 3) := by decide +kernel
theorem d_34_40 : decode prog_2_method_5_code 40 = .ok (.iload_n 1, 1) := by decide +kernel
theorem d_34_41 : decode prog_2_method_5_code 41 = .ok (.ireturn, 1) := by decide +kernel
theorem d_35_0 : decode prog_1_method_27_code 0 = .ok (.iload_n 0, 1) := by decide +kernel
theorem d_35_1 : decode prog_1_method_27_code 1 = .ok (.iconst 4, 1) := by decide +kernel
theorem d_35_2 : decode prog_1_method_27_code 2 = .ok (.iadd, 1) := by decide +kernel
theorem d_35_3 : decode prog_1_method_27_code 3 = .ok (.iconst 1, 1) := by decide +kernel
theorem d_35_4 : decode prog_1_method_27_code 4 = .ok (.isub, 1) := by decide +kernel
theorem d_35_5 : decode prog_1_method_27_code 5 = .ok (.iconst 4, 1) := by decide +kernel
theorem d_35_6 : decode prog_1_method_27_code 6 = .ok (.idiv, 1) := by decide +kernel
theorem d_35_7 : decode prog_1_method_27_code 7 = .ok (.iconst 4, 1) := by decide +kernel
theorem d_35_8 : decode prog_1_method_27_code 8 = .ok (.imul, 1) := by decide +kernel
theorem d_35_9 : decode prog_1_method_27_code 9 = .ok (.ireturn, 1) := by decide +kernel
theorem d_36_0 : decode prog_6_method_11_code 0 = .ok (.bipush 12, 2) := by decide +kernel
theorem d_36_2 : decode prog_6_method_11_code 2 = .ok (.aload_n 0, 1) := by decide +kernel
theorem d_36_3 : decode prog_6_method_11_code 3 = .ok (.invokevirtual 74, 3) := by decide +kernel
theorem d_36_6 : decode prog_6_method_11_code 6 = .ok (.iconst 4, 1) := by decide +kernel
theorem d_36_7 : decode prog_6_method_11_code 7 = .ok (.imul, 1) := by decide +kernel
theorem d_36_8 : decode prog_6_method_11_code 8 = .ok (.iadd, 1) := by decide +kernel
theorem d_36_9 : decode prog_6_method_11_code 9 = .ok (.aload_n 0, 1) := by decide +kernel
theorem d_36_10 : decode prog_6_method_11_code 10 = .ok (.getfield 34, 3) := by decide +kernel
theorem d_36_13 : decode prog_6_method_11_code 13 = .ok (.invokevirtual 77, 3) := by decide +kernel
theorem d_36_16 : decode prog_6_method_11_code 16 = .ok (.iadd, 1) := by decide +kernel
theorem d_36_17 : decode prog_6_method_11_code 17 = .ok (.bipush 12, 2) := by decide +kernel
theorem d_36_19 : decode prog_6_method_11_code 19 = .ok (.iadd, 1) := by decide +kernel
theorem d_36_20 : decode prog_6_method_11_code 20 = .ok (.ireturn, 1) := by decide +kernel
theorem d_37_0 : decode prog_6_method_4_code 0 = .ok (.aload_n 0, 1) := by decide +kernel
theorem d_37_1 : decode prog_6_method_4_code 1 = .ok (.getfield 15, 3) := by decide +kernel
theorem d_37_4 : decode prog_6_method_4_code 4 = .ok (.iconst (-1), 1) := by decide +kernel
theorem d_37_5 : decode prog_6_method_4_code 5 = .ok (.if_icmp .ne 5, 3) := by decide +kernel
theorem d_37_8 : decode prog_6_method_4_code 8 = .ok (.iconst 0, 1) := by decide +kernel
theorem d_37_9 : decode prog_6_method_4_code 9 = .ok (.ireturn, 1) := by decide +kernel
theorem d_37_10 : decode prog_6_method_4_code 10 = .ok (.aload_n 0, 1) := by decide +kernel
theorem d_37_11 : decode prog_6_method_4_code 11 = .ok (.getfield 18, 3) := by decide +kernel
theorem d_37_14 : decode prog_6_method_4_code 14 = .ok (.iconst (-1), 1) := by decide +kernel
theorem d_37_15 : decode prog_6_method_4_code 15 = .ok (.if_icmp .ne 7, 3) := by decide +kernel
theorem d_37_18 : decode prog_6_method_4_code 18 = .ok (.iconst 1, 1) := by decide +kernel
theorem d_37_19 : decode prog_6_method_4_code 19 = .ok (.goto 4, 3) := by decide +kernel
theorem d_37_22 : decode prog_6_method_4_code 22 = .ok (.iconst 2, 1) := by decide +kernel
theorem d_37_23 : decode prog_6_method_4_code 23 = .ok (.ireturn, 1) := by decide +kernel
theorem d_38_0 : decode prog_5_method_18_code 0 = .ok (.iconst 0, 1) := by decide +kernel
theorem d_38_1 : decode prog_5_method_18_code 1 = .ok (.istore_n 3, 1) := by decide +kernel
theorem d_38_2 : decode prog_5_method_18_code 2 = .ok (.iconst 0, 1) := by decide +kernel
theorem d_38_3 : decode prog_5_method_18_code 3 = .ok (.istore 4, 2) := by decide +kernel
theorem d_38_5 : decode prog_5_method_18_code 5 = .ok (.iload 4, 2) := by decide +kernel
theorem d_38_7 : decode prog_5_method_18_code 7 = .ok (.iload_n 1, 1) := by decide +kernel
theorem d_38_8 : decode prog_5_method_18_code 8 = .ok (.if_icmp .ge 45, 3) := by decide +kernel
theorem d_38_11 : decode prog_5_method_18_code 11 = .ok (.iload 4, 2) := by decide +kernel
theorem d_38_13 : decode prog_5_method_18_code 13 = .ok (.aload_n 0, 1) := by decide +kernel
theorem d_38_14 : decode prog_5_method_18_code 14 = .ok (.getfield 25, 3) := by decide +kernel
theorem d_38_17 : decode prog_5_method_18_code 17 = .ok (.if_icmp .ge 36, 3) := by decide +kernel
theorem d_38_20 : decode prog_5_method_18_code 20 = .ok (.aload_n 0, 1) := by decide +kernel
theorem d_38_21 : decode prog_5_method_18_code 21 = .ok (.getfield 33, 3) := by decide +kernel
theorem d_38_24 : decode prog_5_method_18_code 24 = .ok (.iload 4, 2) := by decide +kernel
theorem d_38_26 : decode prog_5_method_18_code 26 = .ok (.aaload, 1) := by decide +kernel
theorem d_38_27 : decode prog_5_method_18_code 27 = .ok (.getfield 94, 3) := by decide +kernel
theorem d_38_30 : decode prog_5_method_18_code 30 = .ok (.iload_n 2, 1) := by decide +kernel
theorem d_38_31 : decode prog_5_method_18_code 31 = .ok (.if_icmp .ne 16, 3) := by decide +kernel
theorem d_38_34 : decode prog_5_method_18_code 34 = .ok (.iload_n 3, 1) := by decide +kernel
theorem d_38_35 : decode prog_5_method_18_code 35 = .ok (.aload_n 0, 1) := by decide +kernel
theorem d_38_36 : decode prog_5_method_18_code 36 = .ok (.getfield 33, 3) := by decide +kernel
theorem d_38_39 : decode prog_5_method_18_code 39 = .ok (.iload 4, 2) := by decide +kernel
theorem d_38_41 : decode prog_5_method_18_code 41 = .ok (.aaload, 1) := by decide +kernel
theorem d_38_42 : decode prog_5_method_18_code 42 = .ok (.invokevirtual 109, 3) := by decide +kernel
theorem d_38_45 : decode prog_5_method_18_code 45 = .ok (.iadd, 1) := by decide +kernel
theorem d_38_46 : decode prog_5_method_18_code 46 = .ok (.istore_n 3, 1) := by decide +kernel
theorem d_38_47 : decode prog_5_method_18_code 47 = .ok (.iinc 4 1, 3) := by decide +kernel
theorem d_38_50 : decode prog_5_method_18_code 50 = .ok (.goto (-45), 3) := by decide +kernel
theorem d_38_53 : decode prog_5_method_18_code 53 = .ok (.iload_n 3, 1) := by decide +kernel
theorem d_38_54 : decode prog_5_method_18_code 54 = .ok (.ireturn, 1) := by decide +kernel
theorem d_39_0 : decode prog_6_method_10_code 0 = .ok (.aload_n 0, 1) := by decide +kernel
theorem d_39_1 : decode prog_6_method_10_code 1 = .ok (.getfield 21, 3) := by decide +kernel
theorem d_39_4 : decode prog_6_method_10_code 4 = .ok (.ifCond .eq 10, 3) := by decide +kernel
theorem d_39_7 : decode prog_6_method_10_code 7 = .ok (.aload_n 0, 1) := by decide +kernel
theorem d_39_8 : decode prog_6_method_10_code 8 = .ok (.invokevirtual 67, 3) := by decide +kernel
theorem d_39_11 : decode prog_6_method_10_code 11 = .ok (.goto 12, 3) := by decide +kernel
theorem d_39_14 : decode prog_6_method_10_code 14 = .ok (.aload_n 0, 1) := by decide +kernel
theorem d_39_15 : decode prog_6_method_10_code 15 = .ok (.getfield 25, 3) := by decide +kernel
theorem d_39_18 : decode prog_6_method_10_code 18 = .ok (.aload_n 0, 1) := by decide +kernel
theorem d_39_19 : decode prog_6_method_10_code 19 = .ok (.invokevirtual 67, 3) := by decide +kernel
theorem d_39_22 : decode prog_6_method_10_code 22 = .ok (.imul, 1) := by decide +kernel
theorem d_39_23 : decode prog_6_method_10_code 23 = .ok (.invokestatic 71, 3) := by decide +kernel
theorem d_39_26 : decode prog_6_method_10_code 26 = .ok (.ireturn, 1) := by decide +kernel
theorem d_40_0 : decode prog_6_method_9_code 0 = .ok (.aload_n 0, 1) := by decide +kernel
theorem d_40_1 : decode prog_6_method_9_code 1 = .ok (.getfield 28, 3) := by decide +kernel
theorem d_40_4 : decode prog_6_method_9_code 4 = .ok (.getstatic 64, 3) := by decide +kernel
theorem d_40_7 : decode prog_6_method_9_code 7 = .ok (.aload_n 0, 1) := by decide +kernel
theorem d_40_8 : decode prog_6_method_9_code 8 = .ok (.getfield 9, 3) := by decide +kernel
theorem d_40_11 : decode prog_6_method_9_code 11 = .ok (.iaload, 1) := by decide +kernel
theorem d_40_12 : decode prog_6_method_9_code 12 = .ok (.imul, 1) := by decide +kernel
theorem d_40_13 : decode prog_6_method_9_code 13 = .ok (.ireturn, 1) := by decide +kernel
theorem d_41_0 : decode prog_5_method_19_code 0 = .ok (.aload_n 0, 1) := by decide +kernel
theorem d_41_1 : decode prog_5_method_19_code 1 = .ok (.invokevirtual 112, 3) := by decide +kernel
theorem d_41_4 : decode prog_5_method_19_code 4 = .ok (.iconst 1, 1) := by decide +kernel
theorem d_41_5 : decode prog_5_method_19_code 5 = .ok (.if_icmp .eq 13, 3) := by decide +kernel
theorem d_41_8 : decode prog_5_method_19_code 8 = .ok (.aload_n 0, 1) := by decide +kernel
theorem d_41_9 : decode prog_5_method_19_code 9 = .ok (.aload_n 0, 1) := by decide +kernel
theorem d_41_10 : decode prog_5_method_19_code 10 = .ok (.getfield 25, 3) := by decide +kernel
theorem d_41_13 : decode prog_5_method_19_code 13 = .ok (.iconst 1, 1) := by decide +kernel
theorem d_41_14 : decode prog_5_method_19_code 14 = .ok (.invokevirtual 115, 3) := by decide +kernel
theorem d_41_17 : decode prog_5_method_19_code 17 = .ok (.ireturn, 1) := by decide +kernel
theorem d_41_18 : decode prog_5_method_19_code 18 = .ok (.iconst 0, 1) := by decide +kernel
theorem d_41_19 : decode prog_5_method_19_code 19 = .ok (.istore_n 1, 1) := by decide +kernel
theorem d_41_20 : decode prog_5_method_19_code 20 = .ok (.iconst 0, 1) := by decide +kernel
theorem d_41_21 : decode prog_5_method_19_code 21 = .ok (.istore_n 2, 1) := by decide +kernel
theorem d_41_22 : decode prog_5_method_19_code 22 = .ok (.iload_n 2, 1) := by decide +kernel
theorem d_41_23 : decode prog_5_method_19_code 23 = .ok (.aload_n 0, 1) := by decide +kernel
theorem d_41_24 : decode prog_5_method_19_code 24 = .ok (.getfield 25, 3) := by decide +kernel
theorem d_41_27 : decode prog_5_method_19_code 27 = .ok (.if_icmp .ge 31, 3) := by decide +kernel
theorem d_41_30 : decode prog_5_method_19_code 30 = .ok (.aload_n 0, 1) := by decide +kernel
theorem d_41_31 : decode prog_5_method_19_code 31 = .ok (.getfield 33, 3) := by decide +kernel
theorem d_41_34 : decode prog_5_method_19_code 34 = .ok (.iload_n 2, 1) := by decide +kernel
theorem d_41_35 : decode prog_5_method_19_code 35 = .ok (.aaload, 1) := by decide +kernel
theorem d_41_36 : decode prog_5_method_19_code 36 = .ok (.getfield 94, 3) := by decide +kernel
theorem d_41_39 : decode prog_5_method_19_code 39 = .ok (.ifCond .eq 13, 3) := by decide +kernel
theorem d_41_42 : decode prog_5_method_19_code 42 = .ok (.aload_n 0, 1) := by decide +kernel
theorem d_41_43 : decode prog_5_method_19_code 43 = .ok (.getfield 33, 3) := by decide +kernel
theorem d_41_46 : decode prog_5_method_19_code 46 = .ok (.iload_n 2, 1) := by decide +kernel
theorem d_41_47 : decode prog_5_method_19_code 47 = .ok (.aaload, 1) := by decide +kernel
theorem d_41_48 : decode prog_5_method_19_code 48 = .ok (.invokevirtual 119, 3) := by decide +kernel
theorem d_41_51 : decode prog_5_method_19_code 51 = .ok (.istore_n 1, 1) := by decide +kernel
theorem d_41_52 : decode prog_5_method_19_code 52 = .ok (.iinc 2 1, 3) := by decide +kernel
theorem d_41_55 : decode prog_5_method_19_code 55 = .ok (.goto (-33), 3) := by decide +kernel
theorem d_41_58 : decode prog_5_method_19_code 58 = .ok (.iload_n 1, 1) := by decide +kernel
theorem d_41_59 : decode prog_5_method_19_code 59 = .ok (.ireturn, 1) := by decide +kernel
theorem d_42_0 : decode prog_5_method_16_code 0 = .ok (.iconst 0, 1) := by decide +kernel
theorem d_42_1 : decode prog_5_method_16_code 1 = .ok (.istore_n 1, 1) := by decide +kernel
theorem d_42_2 : decode prog_5_method_16_code 2 = .ok (.iconst 0, 1) := by decide +kernel
theorem d_42_3 : decode prog_5_method_16_code 3 = .ok (.istore_n 2, 1) := by decide +kernel
theorem d_42_4 : decode prog_5_method_16_code 4 = .ok (.iload_n 2, 1) := by decide +kernel
theorem d_42_5 : decode prog_5_method_16_code 5 = .ok (.aload_n 0, 1) := by decide +kernel
theorem d_42_6 : decode prog_5_method_16_code 6 = .ok (.getfield 25, 3) := by decide +kernel
theorem d_42_9 : decode prog_5_method_16_code 9 = .ok (.if_icmp .ge 24, 3) := by decide +kernel
theorem d_42_12 : decode prog_5_method_16_code 12 = .ok (.aload_n 0, 1) := by decide +kernel
theorem d_42_13 : decode prog_5_method_16_code 13 = .ok (.getfield 33, 3) := by decide +kernel
theorem d_42_16 : decode prog_5_method_16_code 16 = .ok (.iload_n 2, 1) := by decide +kernel
theorem d_42_17 : decode prog_5_method_16_code 17 = .ok (.aaload, 1) := by decide +kernel
theorem d_42_18 : decode prog_5_method_16_code 18 = .ok (.getfield 94, 3) := by decide +kernel
theorem d_42_21 : decode prog_5_method_16_code 21 = .ok (.ifCond .eq 6, 3) := by decide +kernel
theorem d_42_24 : decode prog_5_method_16_code 24 = .ok (.iinc 1 1, 3) := by decide +kernel
theorem d_42_27 : decode prog_5_method_16_code 27 = .ok (.iinc 2 1, 3) := by decide +kernel
theorem d_42_30 : decode prog_5_method_16_code 30 = .ok (.goto (-26), 3) := by decide +kernel
theorem d_42_33 : decode prog_5_method_16_code 33 = .ok (.iload_n 1, 1) := by decide +kernel
theorem d_42_34 : decode prog_5_method_16_code 34 = .ok (.ireturn, 1) := by decide +kernel
theorem d_43_0 : decode prog_1_method_8_code 0 = .ok (.aload_n 0, 1) := by decide +kernel
theorem d_43_1 : decode prog_1_method_8_code 1 = .ok (.getfield 19, 3) := by decide +kernel
theorem d_43_4 : decode prog_1_method_8_code 4 = .ok (.ifCond .eq 5, 3) := by decide +kernel
theorem d_43_7 : decode prog_1_method_8_code 7 = .ok (.iconst (-1), 1) := by decide +kernel
theorem d_43_8 : decode prog_1_method_8_code 8 = .ok (.ireturn, 1) := by decide +kernel
theorem d_43_9 : decode prog_1_method_8_code 9 = .ok (.aload_n 0, 1) := by decide +kernel
theorem d_43_10 : decode prog_1_method_8_code 10 = .ok (.iconst 1, 1) := by decide +kernel
theorem d_43_11 : decode prog_1_method_8_code 11 = .ok (.putfield 19, 3) := by decide +kernel
theorem d_43_14 : decode prog_1_method_8_code 14 = .ok (.iconst 0, 1) := by decide +kernel
theorem d_43_15 : decode prog_1_method_8_code 15 = .ok (.ireturn, 1) := by decide +kernel
theorem d_44_0 : decode prog_1_method_9_code 0 = .ok (.aload_n 0, 1) := by decide +kernel
theorem d_44_1 : decode prog_1_method_9_code 1 = .ok (.getfield 19, 3) := by decide +kernel
theorem d_44_4 : decode prog_1_method_9_code 4 = .ok (.ifCond .eq 5, 3) := by decide +kernel
theorem d_44_7 : decode prog_1_method_9_code 7 = .ok (.iconst (-1), 1) := by decide +kernel
theorem d_44_8 : decode prog_1_method_9_code 8 = .ok (.ireturn, 1) := by decide +kernel
theorem d_44_9 : decode prog_1_method_9_code 9 = .ok (.aload_n 0, 1) := by decide +kernel
theorem d_44_10 : decode prog_1_method_9_code 10 = .ok (.getfield 10, 3) := by decide +kernel
theorem d_44_13 : decode prog_1_method_9_code 13 = .ok (.iload_n 1, 1) := by decide +kernel
theorem d_44_14 : decode prog_1_method_9_code 14 = .ok (.invokevirtual 83, 3) := by decide +kernel
theorem d_44_17 : decode prog_1_method_9_code 17 = .ok (.astore 5, 2) := by decide +kernel
theorem d_44_19 : decode prog_1_method_9_code 19 = .ok (.aload 5, 2) := by decide +kernel
