theorem d_44_21 : decode prog_1_method_9_code 21 = .ok (.ifnonnull 6, 3) := by decide +kernel
theorem d_44_24 : decode prog_1_method_9_code 24 = .ok (.bipush (-3), 2) := by decide +kernel
theorem d_44_26 : decode prog_1_method_9_code 26 = .ok (.ireturn, 1) := by decide +kernel
theorem d_44_27 : decode prog_1_method_9_code 27 = .ok (.aload 5, 2) := by decide +kernel
theorem d_44_29 : decode prog_1_method_9_code 29 = .ok (.iload_n 2, 1) := by decide +kernel
theorem d_44_30 : decode prog_1_method_9_code 30 = .ok (.i2l, 1) := by decide +kernel
theorem d_44_31 : decode prog_1_method_9_code 31 = .ok (.iload_n 3, 1) := by decide +kernel
theorem d_44_32 : decode prog_1_method_9_code 32 = .ok (.i2l, 1) := by decide +kernel
theorem d_44_33 : decode prog_1_method_9_code 33 = .ok (.invokevirtual 87, 3) := by decide +kernel
theorem d_44_36 : decode prog_1_method_9_code 36 = .ok (.ifCond .ne 6, 3) := by decide +kernel
theorem d_44_39 : decode prog_1_method_9_code 39 = .ok (.bipush (-7), 2) := by decide +kernel
theorem d_44_41 : decode prog_1_method_9_code 41 = .ok (.ireturn, 1) := by decide +kernel
theorem d_44_42 : decode prog_1_method_9_code 42 = .ok (.aload 5, 2) := by decide +kernel
theorem d_44_44 : decode prog_1_method_9_code 44 = .ok (.getfield 93, 3) := by decide +kernel
theorem d_44_47 : decode prog_1_method_9_code 47 = .ok (.iload 4, 2) := by decide +kernel
theorem d_44_49 : decode prog_1_method_9_code 49 = .ok (.invokestatic 96, 3) := by decide +kernel
theorem d_44_52 : decode prog_1_method_9_code 52 = .ok (.ifCond .ne 6, 3) := by decide +kernel
theorem d_44_55 : decode prog_1_method_9_code 55 = .ok (.bipush (-6), 2) := by decide +kernel
theorem d_44_57 : decode prog_1_method_9_code 57 = .ok (.ireturn, 1) := by decide +kernel
theorem d_44_58 : decode prog_1_method_9_code 58 = .ok (.aload_n 0, 1) := by decide +kernel
theorem d_44_59 : decode prog_1_method_9_code 59 = .ok (.getfield 10, 3) := by decide +kernel
theorem d_44_62 : decode prog_1_method_9_code 62 = .ok (.aload 5, 2) := by decide +kernel
theorem d_44_64 : decode prog_1_method_9_code 64 = .ok (.iload_n 2, 1) := by decide +kernel
theorem d_44_65 : decode prog_1_method_9_code 65 = .ok (.i2l, 1) := by decide +kernel
theorem d_44_66 : decode prog_1_method_9_code 66 = .ok (.invokevirtual 100, 3) := by decide +kernel
theorem d_44_69 : decode prog_1_method_9_code 69 = .ok (.ifCond .ne 6, 3) := by decide +kernel
theorem d_44_72 : decode prog_1_method_9_code 72 = .ok (.bipush (-8), 2) := by decide +kernel
theorem d_44_74 : decode prog_1_method_9_code 74 = .ok (.ireturn, 1) := by decide +kernel
theorem d_44_75 : decode prog_1_method_9_code 75 = .ok (.aload 5, 2) := by decide +kernel
theorem d_44_77 : decode prog_1_method_9_code 77 = .ok (.iload_n 2, 1) := by decide +kernel
theorem d_44_78 : decode prog_1_method_9_code 78 = .ok (.iload_n 3, 1) := by decide +kernel
theorem d_44_79 : decode prog_1_method_9_code 79 = .ok (.iload 4, 2) := by decide +kernel
theorem d_44_81 : decode prog_1_method_9_code 81 = .ok (.invokevirtual 104, 3) := by decide +kernel
theorem d_44_84 : decode prog_1_method_9_code 84 = .ok (.iconst 0, 1) := by decide +kernel
theorem d_44_85 : decode prog_1_method_9_code 85 = .ok (.ireturn, 1) := by decide +kernel
theorem d_45_0 : decode prog_6_method_5_code 0 = .ok (.lload_n 1, 1) := by decide +kernel
theorem d_45_1 : decode prog_6_method_5_code 1 = .ok (.lconst 0, 1) := by decide +kernel
theorem d_45_2 : decode prog_6_method_5_code 2 = .ok (.lcmp, 1) := by decide +kernel
theorem d_45_3 : decode prog_6_method_5_code 3 = .ok (.ifCond .lt 40, 3) := by decide +kernel
theorem d_45_6 : decode prog_6_method_5_code 6 = .ok (.aload_n 0, 1) := by decide +kernel
theorem d_45_7 : decode prog_6_method_5_code 7 = .ok (.getfield 21, 3) := by decide +kernel
theorem d_45_10 : decode prog_6_method_5_code 10 = .ok (.ifCond .ne 13, 3) := by decide +kernel
theorem d_45_13 : decode prog_6_method_5_code 13 = .ok (.lload_n 1, 1) := by decide +kernel
theorem d_45_14 : decode prog_6_method_5_code 14 = .ok (.aload_n 0, 1) := by decide +kernel
theorem d_45_15 : decode prog_6_method_5_code 15 = .ok (.getfield 25, 3) := by decide +kernel
theorem d_45_18 : decode prog_6_method_5_code 18 = .ok (.i2l, 1) := by decide +kernel
theorem d_45_19 : decode prog_6_method_5_code 19 = .ok (.lcmp, 1) := by decide +kernel
theorem d_45_20 : decode prog_6_method_5_code 20 = .ok (.ifCond .ge 23, 3) := by decide +kernel
theorem d_45_23 : decode prog_6_method_5_code 23 = .ok (.lload_n 3, 1) := by decide +kernel
theorem d_45_24 : decode prog_6_method_5_code 24 = .ok (.lconst 0, 1) := by decide +kernel
theorem d_45_25 : decode prog_6_method_5_code 25 = .ok (.lcmp, 1) := by decide +kernel
theorem d_45_26 : decode prog_6_method_5_code 26 = .ok (.ifCond .lt 17, 3) := by decide +kernel
theorem d_45_29 : decode prog_6_method_5_code 29 = .ok (.lload_n 3, 1) := by decide +kernel
theorem d_45_30 : decode prog_6_method_5_code 30 = .ok (.aload_n 0, 1) := by decide +kernel
theorem d_45_31 : decode prog_6_method_5_code 31 = .ok (.getfield 28, 3) := by decide +kernel
theorem d_45_34 : decode prog_6_method_5_code 34 = .ok (.i2l, 1) := by decide +kernel
theorem d_45_35 : decode prog_6_method_5_code 35 = .ok (.lcmp, 1) := by decide +kernel
theorem d_45_36 : decode prog_6_method_5_code 36 = .ok (.ifCond .ge 7, 3) := by decide +kernel
theorem d_45_39 : decode prog_6_method_5_code 39 = .ok (.iconst 1, 1) := by decide +kernel
theorem d_45_40 : decode prog_6_method_5_code 40 = .ok (.goto 4, 3) := by decide +kernel
theorem d_45_43 : decode prog_6_method_5_code 43 = .ok (.iconst 0, 1) := by decide +kernel
theorem d_45_44 : decode prog_6_method_5_code 44 = .ok (.ireturn, 1) := by decide +kernel
theorem d_46_0 : decode prog_5_method_15_code 0 = .ok (.aload_n 1, 1) := by decide +kernel
theorem d_46_1 : decode prog_5_method_15_code 1 = .ok (.getfield 94, 3) := by decide +kernel
theorem d_46_4 : decode prog_5_method_15_code 4 = .ok (.ifCond .eq 13, 3) := by decide +kernel
theorem d_46_7 : decode prog_5_method_15_code 7 = .ok (.lload_n 2, 1) := by decide +kernel
theorem d_46_8 : decode prog_5_method_15_code 8 = .ok (.aload_n 0, 1) := by decide +kernel
theorem d_46_9 : decode prog_5_method_15_code 9 = .ok (.getfield 9, 3) := by decide +kernel
theorem d_46_12 : decode prog_5_method_15_code 12 = .ok (.i2l, 1) := by decide +kernel
theorem d_46_13 : decode prog_5_method_15_code 13 = .ok (.lcmp, 1) := by decide +kernel
theorem d_46_14 : decode prog_5_method_15_code 14 = .ok (.ifCond .ge 5, 3) := by decide +kernel
theorem d_46_17 : decode prog_5_method_15_code 17 = .ok (.iconst 1, 1) := by decide +kernel
theorem d_46_18 : decode prog_5_method_15_code 18 = .ok (.ireturn, 1) := by decide +kernel
theorem d_46_19 : decode prog_5_method_15_code 19 = .ok (.aload_n 0, 1) := by decide +kernel
theorem d_46_20 : decode prog_5_method_15_code 20 = .ok (.lload_n 2, 1) := by decide +kernel
theorem d_46_21 : decode prog_5_method_15_code 21 = .ok (.lconst 1, 1) := by decide +kernel
theorem d_46_22 : decode prog_5_method_15_code 22 = .ok (.ladd, 1) := by decide +kernel
theorem d_46_23 : decode prog_5_method_15_code 23 = .ok (.invokevirtual 98, 3) := by decide +kernel
theorem d_46_26 : decode prog_5_method_15_code 26 = .ok (.ldc2_w 102, 3) := by decide +kernel
theorem d_46_29 : decode prog_5_method_15_code 29 = .ok (.lcmp, 1) := by decide +kernel
theorem d_46_30 : decode prog_5_method_15_code 30 = .ok (.ifCond .le 5, 3) := by decide +kernel
theorem d_46_33 : decode prog_5_method_15_code 33 = .ok (.iconst 0, 1) := by decide +kernel
theorem d_46_34 : decode prog_5_method_15_code 34 = .ok (.ireturn, 1) := by decide +kernel
theorem d_46_35 : decode prog_5_method_15_code 35 = .ok (.aload_n 0, 1) := by decide +kernel
theorem d_46_36 : decode prog_5_method_15_code 36 = .ok (.lload_n 2, 1) := by decide +kernel
theorem d_46_37 : decode prog_5_method_15_code 37 = .ok (.lconst 1, 1) := by decide +kernel
theorem d_46_38 : decode prog_5_method_15_code 38 = .ok (.ladd, 1) := by decide +kernel
theorem d_46_39 : decode prog_5_method_15_code 39 = .ok (.l2i, 1) := by decide +kernel
theorem d_46_40 : decode prog_5_method_15_code 40 = .ok (.putfield 9, 3) := by decide +kernel
theorem d_46_43 : decode prog_5_method_15_code 43 = .ok (.iconst 1, 1) := by decide +kernel
theorem d_46_44 : decode prog_5_method_15_code 44 = .ok (.ireturn, 1) := by decide +kernel
theorem d_47_0 : decode prog_6_method_7_code 0 = .ok (.iload_n 1, 1) := by decide +kernel
theorem d_47_1 : decode prog_6_method_7_code 1 = .ok (.aload_n 0, 1) := by decide +kernel
theorem d_47_2 : decode prog_6_method_7_code 2 = .ok (.getfield 28, 3) := by decide +kernel
theorem d_47_5 : decode prog_6_method_7_code 5 = .ok (.imul, 1) := by decide +kernel
theorem d_47_6 : decode prog_6_method_7_code 6 = .ok (.iload_n 2, 1) := by decide +kernel
theorem d_47_7 : decode prog_6_method_7_code 7 = .ok (.iadd, 1) := by decide +kernel
theorem d_47_8 : decode prog_6_method_7_code 8 = .ok (.istore 4, 2) := by decide +kernel
theorem d_47_10 : decode prog_6_method_7_code 10 = .ok (.iload 4, 2) := by decide +kernel
theorem d_47_12 : decode prog_6_method_7_code 12 = .ok (.ifCond .lt 21, 3) := by decide +kernel
theorem d_47_15 : decode prog_6_method_7_code 15 = .ok (.iload 4, 2) := by decide +kernel
theorem d_47_17 : decode prog_6_method_7_code 17 = .ok (.aload_n 0, 1) := by decide +kernel
theorem d_47_18 : decode prog_6_method_7_code 18 = .ok (.getfield 38, 3) := by decide +kernel
theorem d_47_21 : decode prog_6_method_7_code 21 = .ok (.arraylength, 1) := by decide +kernel
theorem d_47_22 : decode prog_6_method_7_code 22 = .ok (.if_icmp .ge 11, 3) := by decide +kernel
theorem d_47_25 : decode prog_6_method_7_code 25 = .ok (.aload_n 0, 1) := by decide +kernel
theorem d_47_26 : decode prog_6_method_7_code 26 = .ok (.getfield 38, 3) := by decide +kernel
theorem d_47_29 : decode prog_6_method_7_code 29 = .ok (.iload 4, 2) := by decide +kernel
theorem d_47_31 : decode prog_6_method_7_code 31 = .ok (.iload_n 3, 1) := by decide +kernel
theorem d_47_32 : decode prog_6_method_7_code 32 = .ok (.iastore, 1) := by decide +kernel
theorem d_47_33 : decode prog_6_method_7_code 33 = .ok (.return_, 1) := by decide +kernel
theorem d_48_0 : decode prog_1_method_10_code 0 = .ok (.aload_n 0, 1) := by decide +kernel
theorem d_48_1 : decode prog_1_method_10_code 1 = .ok (.getfield 19, 3) := by decide +kernel
theorem d_48_4 : decode prog_1_method_10_code 4 = .ok (.ifCond .eq 7, 3) := by decide +kernel
theorem d_48_7 : decode prog_1_method_10_code 7 = .ok (.ldc2_w 108, 3) := by decide +kernel
theorem d_48_10 : decode prog_1_method_10_code 10 = .ok (.lreturn, 1) := by decide +kernel
theorem d_48_11 : decode prog_1_method_10_code 11 = .ok (.aload_n 0, 1) := by decide +kernel
theorem d_48_12 : decode prog_1_method_10_code 12 = .ok (.getfield 10, 3) := by decide +kernel
theorem d_48_15 : decode prog_1_method_10_code 15 = .ok (.iload_n 1, 1) := by decide +kernel
theorem d_48_16 : decode prog_1_method_10_code 16 = .ok (.invokevirtual 83, 3) := by decide +kernel
theorem d_48_19 : decode prog_1_method_10_code 19 = .ok (.astore 4, 2) := by decide +kernel
theorem d_48_21 : decode prog_1_method_10_code 21 = .ok (.aload 4, 2) := by decide +kernel
theorem d_48_23 : decode prog_1_method_10_code 23 = .ok (.ifnull 19, 3) := by decide +kernel
theorem d_48_26 : decode prog_1_method_10_code 26 = .ok (.aload_n 0, 1) := by decide +kernel
theorem d_48_27 : decode prog_1_method_10_code 27 = .ok (.getfield 10, 3) := by decide +kernel
theorem d_48_30 : decode prog_1_method_10_code 30 = .ok (.aload 4, 2) := by decide +kernel
theorem d_48_32 : decode prog_1_method_10_code 32 = .ok (.iload_n 2, 1) := by decide +kernel
theorem d_48_33 : decode prog_1_method_10_code 33 = .ok (.i2l, 1) := by decide +kernel
theorem d_48_34 : decode prog_1_method_10_code 34 = .ok (.iload_n 3, 1) := by decide +kernel
theorem d_48_35 : decode prog_1_method_10_code 35 = .ok (.i2l, 1) := by decide +kernel
theorem d_48_36 : decode prog_1_method_10_code 36 = .ok (.invokevirtual 110, 3) := by decide +kernel
theorem d_48_39 : decode prog_1_method_10_code 39 = .ok (.ifCond .ne 7, 3) := by decide +kernel
theorem d_48_42 : decode prog_1_method_10_code 42 = .ok (.ldc2_w 108, 3) := by decide +kernel
theorem d_48_45 : decode prog_1_method_10_code 45 = .ok (.lreturn, 1) := by decide +kernel
theorem d_48_46 : decode prog_1_method_10_code 46 = .ok (.aload 4, 2) := by decide +kernel
theorem d_48_48 : decode prog_1_method_10_code 48 = .ok (.iload_n 2, 1) := by decide +kernel
theorem d_48_49 : decode prog_1_method_10_code 49 = .ok (.iload_n 3, 1) := by decide +kernel
theorem d_48_50 : decode prog_1_method_10_code 50 = .ok (.invokevirtual 114, 3) := by decide +kernel
theorem d_48_53 : decode prog_1_method_10_code 53 = .ok (.i2l, 1) := by decide +kernel
theorem d_48_54 : decode prog_1_method_10_code 54 = .ok (.lreturn, 1) := by decide +kernel
theorem d_49_0 : decode prog_5_method_14_code 0 = .ok (.aload_n 1, 1) := by decide +kernel
theorem d_49_1 : decode prog_5_method_14_code 1 = .ok (.lload_n 2, 1) := by decide +kernel
theorem d_49_2 : decode prog_5_method_14_code 2 = .ok (.lload 4, 2) := by decide +kernel
theorem d_49_4 : decode prog_5_method_14_code 4 = .ok (.invokevirtual 90, 3) := by decide +kernel
theorem d_49_7 : decode prog_5_method_14_code 7 = .ok (.ifCond .eq 24, 3) := by decide +kernel
theorem d_49_10 : decode prog_5_method_14_code 10 = .ok (.aload_n 1, 1) := by decide +kernel
theorem d_49_11 : decode prog_5_method_14_code 11 = .ok (.getfield 94, 3) := by decide +kernel
theorem d_49_14 : decode prog_5_method_14_code 14 = .ok (.ifCond .eq 13, 3) := by decide +kernel
theorem d_49_17 : decode prog_5_method_14_code 17 = .ok (.lload_n 2, 1) := by decide +kernel
theorem d_49_18 : decode prog_5_method_14_code 18 = .ok (.aload_n 0, 1) := by decide +kernel
theorem d_49_19 : decode prog_5_method_14_code 19 = .ok (.getfield 9, 3) := by decide +kernel
theorem d_49_22 : decode prog_5_method_14_code 22 = .ok (.i2l, 1) := by decide +kernel
theorem d_49_23 : decode prog_5_method_14_code 23 = .ok (.lcmp, 1) := by decide +kernel
theorem d_49_24 : decode prog_5_method_14_code 24 = .ok (.ifCond .ge 7, 3) := by decide +kernel
theorem d_49_27 : decode prog_5_method_14_code 27 = .ok (.iconst 1, 1) := by decide +kernel
theorem d_49_28 : decode prog_5_method_14_code 28 = .ok (.goto 4, 3) := by decide +kernel
theorem d_49_31 : decode prog_5_method_14_code 31 = .ok (.iconst 0, 1) := by decide +kernel
theorem d_49_32 : decode prog_5_method_14_code 32 = .ok (.ireturn, 1) := by decide +kernel
theorem d_50_0 : decode prog_6_method_6_code 0 = .ok (.iload_n 1, 1) := by decide +kernel
theorem d_50_1 : decode prog_6_method_6_code 1 = .ok (.aload_n 0, 1) := by decide +kernel
theorem d_50_2 : decode prog_6_method_6_code 2 = .ok (.getfield 28, 3) := by decide +kernel
theorem d_50_5 : decode prog_6_method_6_code 5 = .ok (.imul, 1) := by decide +kernel
theorem d_50_6 : decode prog_6_method_6_code 6 = .ok (.iload_n 2, 1) := by decide +kernel
theorem d_50_7 : decode prog_6_method_6_code 7 = .ok (.iadd, 1) := by decide +kernel
theorem d_50_8 : decode prog_6_method_6_code 8 = .ok (.istore_n 3, 1) := by decide +kernel
theorem d_50_9 : decode prog_6_method_6_code 9 = .ok (.iload_n 3, 1) := by decide +kernel
theorem d_50_10 : decode prog_6_method_6_code 10 = .ok (.ifCond .lt 21, 3) := by decide +kernel
theorem d_50_13 : decode prog_6_method_6_code 13 = .ok (.iload_n 3, 1) := by decide +kernel
theorem d_50_14 : decode prog_6_method_6_code 14 = .ok (.aload_n 0, 1) := by decide +kernel
theorem d_50_15 : decode prog_6_method_6_code 15 = .ok (.getfield 38, 3) := by decide +kernel
theorem d_50_18 : decode prog_6_method_6_code 18 = .ok (.arraylength, 1) := by decide +kernel
theorem d_50_19 : decode prog_6_method_6_code 19 = .ok (.if_icmp .ge 12, 3) := by decide +kernel
theorem d_50_22 : decode prog_6_method_6_code 22 = .ok (.aload_n 0, 1) := by decide +kernel
theorem d_50_23 : decode prog_6_method_6_code 23 = .ok (.getfield 38, 3) := by decide +kernel
theorem d_50_26 : decode prog_6_method_6_code 26 = .ok (.iload_n 3, 1) := by decide +kernel
theorem d_50_27 : decode prog_6_method_6_code 27 = .ok (.iaload, 1) := by decide +kernel
theorem d_50_28 : decode prog_6_method_6_code 28 = .ok (.goto 11, 3) := by decide +kernel
theorem d_50_31 : decode prog_6_method_6_code 31 = .ok (.getstatic 42, 3) := by decide +kernel
theorem d_50_34 : decode prog_6_method_6_code 34 = .ok (.aload_n 0, 1) := by decide +kernel
theorem d_50_35 : decode prog_6_method_6_code 35 = .ok (.getfield 9, 3) := by decide +kernel
theorem d_50_38 : decode prog_6_method_6_code 38 = .ok (.iaload, 1) := by decide +kernel
theorem d_50_39 : decode prog_6_method_6_code 39 = .ok (.ireturn, 1) := by decide +kernel
theorem d_51_0 : decode prog_1_method_11_code 0 = .ok (.iload_n 1, 1) := by decide +kernel
theorem d_51_1 : decode prog_1_method_11_code 1 = .ok (.ifCond .eq 11, 3) := by decide +kernel
theorem d_51_4 : decode prog_1_method_11_code 4 = .ok (.iload_n 1, 1) := by decide +kernel
theorem d_51_5 : decode prog_1_method_11_code 5 = .ok (.iconst 1, 1) := by decide +kernel
theorem d_51_6 : decode prog_1_method_11_code 6 = .ok (.if_icmp .eq 6, 3) := by decide +kernel
theorem d_51_9 : decode prog_1_method_11_code 9 = .ok (.bipush (-3), 2) := by decide +kernel
theorem d_51_11 : decode prog_1_method_11_code 11 = .ok (.ireturn, 1) := by decide +kernel
theorem d_51_12 : decode prog_1_method_11_code 12 = .ok (.iload_n 2, 1) := by decide +kernel
theorem d_51_13 : decode prog_1_method_11_code 13 = .ok (.ifCond .lt 27, 3) := by decide +kernel
theorem d_51_16 : decode prog_1_method_11_code 16 = .ok (.iload_n 3, 1) := by decide +kernel
theorem d_51_17 : decode prog_1_method_11_code 17 = .ok (.iconst 1, 1) := by decide +kernel
theorem d_51_18 : decode prog_1_method_11_code 18 = .ok (.if_icmp .lt 22, 3) := by decide +kernel
theorem d_51_21 : decode prog_1_method_11_code 21 = .ok (.iload_n 3, 1) := by decide +kernel
theorem d_51_22 : decode prog_1_method_11_code 22 = .ok (.bipush 8, 2) := by decide +kernel
theorem d_51_24 : decode prog_1_method_11_code 24 = .ok (.if_icmp .gt 16, 3) := by decide +kernel
theorem d_51_27 : decode prog_1_method_11_code 27 = .ok (.iload 4, 2) := by decide +kernel
theorem d_51_29 : decode prog_1_method_11_code 29 = .ok (.iconst 1, 1) := by decide +kernel
theorem d_51_30 : decode prog_1_method_11_code 30 = .ok (.if_icmp .lt 10, 3) := by decide +kernel
theorem d_51_33 : decode prog_1_method_11_code 33 = .ok (.iload 4, 2) := by decide +kernel
theorem d_51_35 : decode prog_1_method_11_code 35 = .ok (.bipush 8, 2) := by decide +kernel
theorem d_51_37 : decode prog_1_method_11_code 37 = .ok (.if_icmp .le 6, 3) := by decide +kernel
theorem d_51_40 : decode prog_1_method_11_code 40 = .ok (.bipush (-2), 2) := by decide +kernel
theorem d_51_42 : decode prog_1_method_11_code 42 = .ok (.ireturn, 1) := by decide +kernel
theorem d_51_43 : decode prog_1_method_11_code 43 = .ok (.iload_n 1, 1) := by decide +kernel
theorem d_51_44 : decode prog_1_method_11_code 44 = .ok (.ifCond .ne 10, 3) := by decide +kernel
theorem d_51_47 : decode prog_1_method_11_code 47 = .ok (.aload_n 0, 1) := by decide +kernel
theorem d_51_48 : decode prog_1_method_11_code 48 = .ok (.getfield 26, 3) := by decide +kernel
theorem d_51_51 : decode prog_1_method_11_code 51 = .ok (.goto 7, 3) := by decide +kernel
theorem d_51_54 : decode prog_1_method_11_code 54 = .ok (.aload_n 0, 1) := by decide +kernel
theorem d_51_55 : decode prog_1_method_11_code 55 = .ok (.getfield 30, 3) := by decide +kernel
theorem d_51_58 : decode prog_1_method_11_code 58 = .ok (.astore 5, 2) := by decide +kernel
theorem d_51_60 : decode prog_1_method_11_code 60 = .ok (.aload 5, 2) := by decide +kernel
theorem d_51_62 : decode prog_1_method_11_code 62 = .ok (.iload_n 2, 1) := by decide +kernel
theorem d_51_63 : decode prog_1_method_11_code 63 = .ok (.iload_n 3, 1) := by decide +kernel
theorem d_51_64 : decode prog_1_method_11_code 64 = .ok (.iload 4, 2) := by decide +kernel
theorem d_51_66 : decode prog_1_method_11_code 66 = .ok (.invokevirtual 117, 3) := by decide +kernel
theorem d_51_69 : decode prog_1_method_11_code 69 = .ok (.iconst 0, 1) := by decide +kernel
theorem d_51_70 : decode prog_1_method_11_code 70 = .ok (.ireturn, 1) := by decide +kernel
theorem d_52_0 : decode prog_4_method_2_code 0 = .ok (.aload_n 0, 1) := by decide +kernel
theorem d_52_1 : decode prog_4_method_2_code 1 = .ok (.iload_n 1, 1) := by decide +kernel
theorem d_52_2 : decode prog_4_method_2_code 2 = .ok (.putfield 7, 3) := by decide +kernel
theorem d_52_5 : decode prog_4_method_2_code 5 = .ok (.aload_n 0, 1) := by decide +kernel
theorem d_52_6 : decode prog_4_method_2_code 6 = .ok (.iload_n 2, 1) := by decide +kernel
theorem d_52_7 : decode prog_4_method_2_code 7 = .ok (.putfield 13, 3) := by decide +kernel
theorem d_52_10 : decode prog_4_method_2_code 10 = .ok (.aload_n 0, 1) := by decide +kernel
theorem d_52_11 : decode prog_4_method_2_code 11 = .ok (.iload_n 3, 1) := by decide +kernel
theorem d_52_12 : decode prog_4_method_2_code 12 = .ok (.putfield 16, 3) := by decide +kernel
theorem d_52_15 : decode prog_4_method_2_code 15 = .ok (.return_, 1) := by decide +kernel
theorem d_53_0 : decode prog_1_method_12_code 0 = .ok (.aload_n 0, 1) := by decide +kernel
theorem d_53_1 : decode prog_1_method_12_code 1 = .ok (.getfield 19, 3) := by decide +kernel
theorem d_53_4 : decode prog_1_method_12_code 4 = .ok (.ifCond .eq 5, 3) := by decide +kernel
theorem d_53_7 : decode prog_1_method_12_code 7 = .ok (.iconst (-1), 1) := by decide +kernel
theorem d_53_8 : decode prog_1_method_12_code 8 = .ok (.ireturn, 1) := by decide +kernel
theorem d_53_9 : decode prog_1_method_12_code 9 = .ok (.aload_n 0, 1) := by decide +kernel
theorem d_53_10 : decode prog_1_method_12_code 10 = .ok (.getfield 10, 3) := by decide +kernel
theorem d_53_13 : decode prog_1_method_12_code 13 = .ok (.iload_n 1, 1) := by decide +kernel
theorem d_53_14 : decode prog_1_method_12_code 14 = .ok (.invokevirtual 83, 3) := by decide +kernel
theorem d_53_17 : decode prog_1_method_12_code 17 = .ok (.astore 4, 2) := by decide +kernel
theorem d_53_19 : decode prog_1_method_12_code 19 = .ok (.aload 4, 2) := by decide +kernel
theorem d_53_21 : decode prog_1_method_12_code 21 = .ok (.ifnonnull 6, 3) := by decide +kernel
theorem d_53_24 : decode prog_1_method_12_code 24 = .ok (.bipush (-3), 2) := by decide +kernel
theorem d_53_26 : decode prog_1_method_12_code 26 = .ok (.ireturn, 1) := by decide +kernel
theorem d_53_27 : decode prog_1_method_12_code 27 = .ok (.aload_n 0, 1) := by decide +kernel
theorem d_53_28 : decode prog_1_method_12_code 28 = .ok (.aload 4, 2) := by decide +kernel
theorem d_53_30 : decode prog_1_method_12_code 30 = .ok (.invokevirtual 120, 3) := by decide +kernel
theorem d_53_33 : decode prog_1_method_12_code 33 = .ok (.astore 5, 2) := by decide +kernel
theorem d_53_35 : decode prog_1_method_12_code 35 = .ok (.aload_n 0, 1) := by decide +kernel
theorem d_53_36 : decode prog_1_method_12_code 36 = .ok (.aload 4, 2) := by decide +kernel
theorem d_53_38 : decode prog_1_method_12_code 38 = .ok (.invokevirtual 124, 3) := by decide +kernel
theorem d_53_41 : decode prog_1_method_12_code 41 = .ok (.astore 6, 2) := by decide +kernel
theorem d_53_43 : decode prog_1_method_12_code 43 = .ok (.aload 4, 2) := by decide +kernel
theorem d_53_45 : decode prog_1_method_12_code 45 = .ok (.aload 5, 2) := by decide +kernel
theorem d_53_47 : decode prog_1_method_12_code 47 = .ok (.invokevirtual 127, 3) := by decide +kernel
theorem d_53_50 : decode prog_1_method_12_code 50 = .ok (.aload 6, 2) := by decide +kernel
theorem d_53_52 : decode prog_1_method_12_code 52 = .ok (.invokevirtual 127, 3) := by decide +kernel
theorem d_53_55 : decode prog_1_method_12_code 55 = .ok (.invokevirtual 87, 3) := by decide +kernel
theorem d_53_58 : decode prog_1_method_12_code 58 = .ok (.ifCond .ne 6, 3) := by decide +kernel
theorem d_53_61 : decode prog_1_method_12_code 61 = .ok (.bipush (-7), 2) := by decide +kernel
theorem d_53_63 : decode prog_1_method_12_code 63 = .ok (.ireturn, 1) := by decide +kernel
theorem d_53_64 : decode prog_1_method_12_code 64 = .ok (.aload 5, 2) := by decide +kernel
theorem d_53_66 : decode prog_1_method_12_code 66 = .ok (.getfield 131, 3) := by decide +kernel
theorem d_53_69 : decode prog_1_method_12_code 69 = .ok (.aload 6, 2) := by decide +kernel
theorem d_53_71 : decode prog_1_method_12_code 71 = .ok (.getfield 131, 3) := by decide +kernel
theorem d_53_74 : decode prog_1_method_12_code 74 = .ok (.imul, 1) := by decide +kernel
theorem d_53_75 : decode prog_1_method_12_code 75 = .ok (.istore 7, 2) := by decide +kernel
theorem d_53_77 : decode prog_1_method_12_code 77 = .ok (.aload 4, 2) := by decide +kernel
theorem d_53_79 : decode prog_1_method_12_code 79 = .ok (.getfield 93, 3) := by decide +kernel
theorem d_53_82 : decode prog_1_method_12_code 82 = .ok (.iload 7, 2) := by decide +kernel
theorem d_53_84 : decode prog_1_method_12_code 84 = .ok (.iload_n 2, 1) := by decide +kernel
theorem d_53_85 : decode prog_1_method_12_code 85 = .ok (.iload_n 3, 1) := by decide +kernel
theorem d_53_86 : decode prog_1_method_12_code 86 = .ok (.invokestatic 134, 3) := by decide +kernel
theorem d_53_89 : decode prog_1_method_12_code 89 = .ok (.ifCond .ne 6, 3) := by decide +kernel
theorem d_53_92 : decode prog_1_method_12_code 92 = .ok (.bipush (-6), 2) := by decide +kernel
theorem d_53_94 : decode prog_1_method_12_code 94 = .ok (.ireturn, 1) := by decide +kernel
theorem d_53_95 : decode prog_1_method_12_code 95 = .ok (.aload_n 0, 1) := by decide +kernel
theorem d_53_96 : decode prog_1_method_12_code 96 = .ok (.getfield 10, 3) := by decide +kernel
theorem d_53_99 : decode prog_1_method_12_code 99 = .ok (.aload 4, 2) := by decide +kernel
theorem d_53_101 : decode prog_1_method_12_code 101 = .ok (.aload 5, 2) := by decide +kernel
theorem d_53_103 : decode prog_1_method_12_code 103 = .ok (.invokevirtual 127, 3) := by decide +kernel
theorem d_53_106 : decode prog_1_method_12_code 106 = .ok (.invokevirtual 100, 3) := by decide +kernel
theorem d_53_109 : decode prog_1_method_12_code 109 = .ok (.ifCond .ne 6, 3) := by decide +kernel
theorem d_53_112 : decode prog_1_method_12_code 112 = .ok (.bipush (-8), 2) := by decide +kernel
theorem d_53_114 : decode prog_1_method_12_code 114 = .ok (.ireturn, 1) := by decide +kernel
theorem d_53_115 : decode prog_1_method_12_code 115 = .ok (.aload 4, 2) := by decide +kernel
theorem d_53_117 : decode prog_1_method_12_code 117 = .ok (.aload 5, 2) := by decide +kernel
theorem d_53_119 : decode prog_1_method_12_code 119 = .ok (.aload 6, 2) := by decide +kernel
theorem d_53_121 : decode prog_1_method_12_code 121 = .ok (.iload_n 2, 1) := by decide +kernel
theorem d_53_122 : decode prog_1_method_12_code 122 = .ok (.iload_n 3, 1) := by decide +kernel
theorem d_53_123 : decode prog_1_method_12_code 123 = .ok (.invokevirtual 138, 3) := by decide +kernel
theorem d_53_126 : decode prog_1_method_12_code 126 = .ok (.iload 7, 2) := by decide +kernel
theorem d_53_128 : decode prog_1_method_12_code 128 = .ok (.ireturn, 1) := by decide +kernel
theorem d_54_0 : decode prog_1_method_21_code 0 = .ok (.aload_n 1, 1) := by decide +kernel
theorem d_54_1 : decode prog_1_method_21_code 1 = .ok (.invokevirtual 171, 3) := by decide +kernel
theorem d_54_4 : decode prog_1_method_21_code 4 = .ok (.ifCond .le 10, 3) := by decide +kernel
theorem d_54_7 : decode prog_1_method_21_code 7 = .ok (.aload_n 0, 1) := by decide +kernel
theorem d_54_8 : decode prog_1_method_21_code 8 = .ok (.getfield 26, 3) := by decide +kernel
theorem d_54_11 : decode prog_1_method_21_code 11 = .ok (.goto 7, 3) := by decide +kernel
theorem d_54_14 : decode prog_1_method_21_code 14 = .ok (.aload_n 0, 1) := by decide +kernel
theorem d_54_15 : decode prog_1_method_21_code 15 = .ok (.getfield 33, 3) := by decide +kernel
theorem d_54_18 : decode prog_1_method_21_code 18 = .ok (.areturn, 1) := by decide +kernel
theorem d_55_0 : decode prog_1_method_22_code 0 = .ok (.aload_n 1, 1) := by decide +kernel
theorem d_55_1 : decode prog_1_method_22_code 1 = .ok (.invokevirtual 171, 3) := by decide +kernel
theorem d_55_4 : decode prog_1_method_22_code 4 = .ok (.iconst 1, 1) := by decide +kernel
theorem d_55_5 : decode prog_1_method_22_code 5 = .ok (.if_icmp .le 10, 3) := by decide +kernel
theorem d_55_8 : decode prog_1_method_22_code 8 = .ok (.aload_n 0, 1) := by decide +kernel
theorem d_55_9 : decode prog_1_method_22_code 9 = .ok (.getfield 30, 3) := by decide +kernel
theorem d_55_12 : decode prog_1_method_22_code 12 = .ok (.goto 7, 3) := by decide +kernel
theorem d_55_15 : decode prog_1_method_22_code 15 = .ok (.aload_n 0, 1) := by decide +kernel
theorem d_55_16 : decode prog_1_method_22_code 16 = .ok (.getfield 33, 3) := by decide +kernel
theorem d_55_19 : decode prog_1_method_22_code 19 = .ok (.areturn, 1) := by decide +kernel
theorem d_56_0 : decode prog_4_method_3_code 0 = .ok (.aload_n 0, 1) := by decide +kernel
theorem d_56_1 : decode prog_4_method_3_code 1 = .ok (.getfield 7, 3) := by decide +kernel
theorem d_56_4 : decode prog_4_method_3_code 4 = .ok (.i2l, 1) := by decide +kernel
theorem d_56_5 : decode prog_4_method_3_code 5 = .ok (.aload_n 0, 1) := by decide +kernel
theorem d_56_6 : decode prog_4_method_3_code 6 = .ok (.getfield 13, 3) := by decide +kernel
theorem d_56_9 : decode prog_4_method_3_code 9 = .ok (.i2l, 1) := by decide +kernel
theorem d_56_10 : decode prog_4_method_3_code 10 = .ok (.lconst 1, 1) := by decide +kernel
theorem d_56_11 : decode prog_4_method_3_code 11 = .ok (.lsub, 1) := by decide +kernel
theorem d_56_12 : decode prog_4_method_3_code 12 = .ok (.aload_n 0, 1) := by decide +kernel
theorem d_56_13 : decode prog_4_method_3_code 13 = .ok (.getfield 16, 3) := by decide +kernel
theorem d_56_16 : decode prog_4_method_3_code 16 = .ok (.i2l, 1) := by decide +kernel
theorem d_56_17 : decode prog_4_method_3_code 17 = .ok (.lmul, 1) := by decide +kernel
theorem d_56_18 : decode prog_4_method_3_code 18 = .ok (.ladd, 1) := by decide +kernel
theorem d_56_19 : decode prog_4_method_3_code 19 = .ok (.lreturn, 1) := by decide +kernel
theorem d_57_0 : decode prog_1_method_26_code 0 = .ok (.iconst 0, 1) := by decide +kernel
theorem d_57_1 : decode prog_1_method_26_code 1 = .ok (.istore 4, 2) := by decide +kernel
theorem d_57_3 : decode prog_1_method_26_code 3 = .ok (.iload 4, 2) := by decide +kernel
theorem d_57_5 : decode prog_1_method_26_code 5 = .ok (.iload_n 1, 1) := by decide +kernel
theorem d_57_6 : decode prog_1_method_26_code 6 = .ok (.if_icmp .ge 24, 3) := by decide +kernel
theorem d_57_9 : decode prog_1_method_26_code 9 = .ok (.iload_n 0, 1) := by decide +kernel
theorem d_57_10 : decode prog_1_method_26_code 10 = .ok (.iload_n 2, 1) := by decide +kernel
theorem d_57_11 : decode prog_1_method_26_code 11 = .ok (.iload 4, 2) := by decide +kernel
theorem d_57_13 : decode prog_1_method_26_code 13 = .ok (.iload_n 3, 1) := by decide +kernel
theorem d_57_14 : decode prog_1_method_26_code 14 = .ok (.imul, 1) := by decide +kernel
theorem d_57_15 : decode prog_1_method_26_code 15 = .ok (.iadd, 1) := by decide +kernel
theorem d_57_16 : decode prog_1_method_26_code 16 = .ok (.invokestatic 96, 3) := by decide +kernel
theorem d_57_19 : decode prog_1_method_26_code 19 = .ok (.ifCond .ne 5, 3) := by decide +kernel
theorem d_57_22 : decode prog_1_method_26_code 22 = .ok (.iconst 0, 1) := by decide +kernel
theorem d_57_23 : decode prog_1_method_26_code 23 = .ok (.ireturn, 1) := by decide +kernel
theorem d_57_24 : decode prog_1_method_26_code 24 = .ok (.iinc 4 1, 3) := by decide +kernel
theorem d_57_27 : decode prog_1_method_26_code 27 = .ok (.goto (-24), 3) := by decide +kernel
theorem d_57_30 : decode prog_1_method_26_code 30 = .ok (.iconst 1, 1) := by decide +kernel
theorem d_57_31 : decode prog_1_method_26_code 31 = .ok (.ireturn, 1) := by decide +kernel
theorem d_58_0 : decode prog_6_method_8_code 0 = .ok (.iload_n 3, 1) := by decide +kernel
theorem d_58_1 : decode prog_6_method_8_code 1 = .ok (.istore 5, 2) := by decide +kernel
theorem d_58_3 : decode prog_6_method_8_code 3 = .ok (.iconst 0, 1) := by decide +kernel
theorem d_58_4 : decode prog_6_method_8_code 4 = .ok (.istore 6, 2) := by decide +kernel
theorem d_58_6 : decode prog_6_method_8_code 6 = .ok (.iload 6, 2) := by decide +kernel
theorem d_58_8 : decode prog_6_method_8_code 8 = .ok (.aload_n 1, 1) := by decide +kernel
theorem d_58_9 : decode prog_6_method_8_code 9 = .ok (.getfield 51, 3) := by decide +kernel
theorem d_58_12 : decode prog_6_method_8_code 12 = .ok (.if_icmp .ge 52, 3) := by decide +kernel
theorem d_58_15 : decode prog_6_method_8_code 15 = .ok (.iconst 0, 1) := by decide +kernel
theorem d_58_16 : decode prog_6_method_8_code 16 = .ok (.istore 7, 2) := by decide +kernel
theorem d_58_18 : decode prog_6_method_8_code 18 = .ok (.iload 7, 2) := by decide +kernel
theorem d_58_20 : decode prog_6_method_8_code 20 = .ok (.aload_n 2, 1) := by decide +kernel
theorem d_58_21 : decode prog_6_method_8_code 21 = .ok (.getfield 51, 3) := by decide +kernel
theorem d_58_24 : decode prog_6_method_8_code 24 = .ok (.if_icmp .ge 34, 3) := by decide +kernel
theorem d_58_27 : decode prog_6_method_8_code 27 = .ok (.aload_n 0, 1) := by decide +kernel
theorem d_58_28 : decode prog_6_method_8_code 28 = .ok (.aload_n 1, 1) := by decide +kernel
theorem d_58_29 : decode prog_6_method_8_code 29 = .ok (.iload 6, 2) := by decide +kernel
theorem d_58_31 : decode prog_6_method_8_code 31 = .ok (.invokevirtual 56, 3) := by decide +kernel
theorem d_58_34 : decode prog_6_method_8_code 34 = .ok (.aload_n 2, 1) := by decide +kernel
theorem d_58_35 : decode prog_6_method_8_code 35 = .ok (.iload 7, 2) := by decide +kernel
theorem d_58_37 : decode prog_6_method_8_code 37 = .ok (.invokevirtual 56, 3) := by decide +kernel
theorem d_58_40 : decode prog_6_method_8_code 40 = .ok (.iload 5, 2) := by decide +kernel
theorem d_58_42 : decode prog_6_method_8_code 42 = .ok (.invokevirtual 60, 3) := by decide +kernel
theorem d_58_45 : decode prog_6_method_8_code 45 = .ok (.iload 5, 2) := by decide +kernel
theorem d_58_47 : decode prog_6_method_8_code 47 = .ok (.iload 4, 2) := by decide +kernel
theorem d_58_49 : decode prog_6_method_8_code 49 = .ok (.iadd, 1) := by decide +kernel
theorem d_58_50 : decode prog_6_method_8_code 50 = .ok (.istore 5, 2) := by decide +kernel
theorem d_58_52 : decode prog_6_method_8_code 52 = .ok (.iinc 7 1, 3) := by decide +kernel
theorem d_58_55 : decode prog_6_method_8_code 55 = .ok (.goto (-37), 3) := by decide +kernel
theorem d_58_58 : decode prog_6_method_8_code 58 = .ok (.iinc 6 1, 3) := by decide +kernel
theorem d_58_61 : decode prog_6_method_8_code 61 = .ok (.goto (-55), 3) := by decide +kernel
theorem d_58_64 : decode prog_6_method_8_code 64 = .ok (.return_, 1) := by decide +kernel
theorem d_59_0 : decode prog_4_method_4_code 0 = .ok (.aload_n 0, 1) := by decide +kernel
theorem d_59_1 : decode prog_4_method_4_code 1 = .ok (.getfield 7, 3) := by decide +kernel
theorem d_59_4 : decode prog_4_method_4_code 4 = .ok (.iload_n 1, 1) := by decide +kernel
theorem d_59_5 : decode prog_4_method_4_code 5 = .ok (.aload_n 0, 1) := by decide +kernel
theorem d_59_6 : decode prog_4_method_4_code 6 = .ok (.getfield 16, 3) := by decide +kernel
theorem d_59_9 : decode prog_4_method_4_code 9 = .ok (.imul, 1) := by decide +kernel
theorem d_59_10 : decode prog_4_method_4_code 10 = .ok (.iadd, 1) := by decide +kernel
theorem d_59_11 : decode prog_4_method_4_code 11 = .ok (.ireturn, 1) := by decide +kernel
theorem d_60_0 : decode prog_1_method_13_code 0 = .ok (.aload_n 0, 1) := by decide +kernel
theorem d_60_1 : decode prog_1_method_13_code 1 = .ok (.getfield 19, 3) := by decide +kernel
theorem d_60_4 : decode prog_1_method_13_code 4 = .ok (.ifCond .eq 7, 3) := by decide +kernel
theorem d_60_7 : decode prog_1_method_13_code 7 = .ok (.ldc2_w 108, 3) := by decide +kernel
theorem d_60_10 : decode prog_1_method_13_code 10 = .ok (.lreturn, 1) := by decide +kernel
theorem d_60_11 : decode prog_1_method_13_code 11 = .ok (.aload_n 0, 1) := by decide +kernel
theorem d_60_12 : decode prog_1_method_13_code 12 = .ok (.getfield 10, 3) := by decide +kernel
theorem d_60_15 : decode prog_1_method_13_code 15 = .ok (.iload_n 1, 1) := by decide +kernel
theorem d_60_16 : decode prog_1_method_13_code 16 = .ok (.invokevirtual 83, 3) := by decide +kernel
theorem d_60_19 : decode prog_1_method_13_code 19 = .ok (.astore_n 3, 1) := by decide +kernel
theorem d_60_20 : decode prog_1_method_13_code 20 = .ok (.aload_n 3, 1) := by decide +kernel
theorem d_60_21 : decode prog_1_method_13_code 21 = .ok (.ifnonnull 7, 3) := by decide +kernel
theorem d_60_24 : decode prog_1_method_13_code 24 = .ok (.ldc2_w 108, 3) := by decide +kernel
theorem d_60_27 : decode prog_1_method_13_code 27 = .ok (.lreturn, 1) := by decide +kernel
theorem d_60_28 : decode prog_1_method_13_code 28 = .ok (.aload_n 0, 1) := by decide +kernel
theorem d_60_29 : decode prog_1_method_13_code 29 = .ok (.aload_n 3, 1) := by decide +kernel
theorem d_60_30 : decode prog_1_method_13_code 30 = .ok (.invokevirtual 120, 3) := by decide +kernel
theorem d_60_33 : decode prog_1_method_13_code 33 = .ok (.astore 4, 2) := by decide +kernel
theorem d_60_35 : decode prog_1_method_13_code 35 = .ok (.aload_n 0, 1) := by decide +kernel
theorem d_60_36 : decode prog_1_method_13_code 36 = .ok (.aload_n 3, 1) := by decide +kernel
theorem d_60_37 : decode prog_1_method_13_code 37 = .ok (.invokevirtual 124, 3) := by decide +kernel
theorem d_60_40 : decode prog_1_method_13_code 40 = .ok (.astore 5, 2) := by decide +kernel
theorem d_60_42 : decode prog_1_method_13_code 42 = .ok (.aload_n 0, 1) := by decide +kernel
theorem d_60_43 : decode prog_1_method_13_code 43 = .ok (.getfield 10, 3) := by decide +kernel
theorem d_60_46 : decode prog_1_method_13_code 46 = .ok (.aload_n 3, 1) := by decide +kernel
theorem d_60_47 : decode prog_1_method_13_code 47 = .ok (.aload 4, 2) := by decide +kernel
theorem d_60_49 : decode prog_1_method_13_code 49 = .ok (.invokevirtual 127, 3) := by decide +kernel
theorem d_60_52 : decode prog_1_method_13_code 52 = .ok (.aload 5, 2) := by decide +kernel
theorem d_60_54 : decode prog_1_method_13_code 54 = .ok (.invokevirtual 127, 3) := by decide +kernel
theorem d_60_57 : decode prog_1_method_13_code 57 = .ok (.invokevirtual 110, 3) := by decide +kernel
theorem d_60_60 : decode prog_1_method_13_code 60 = .ok (.ifCond .ne 7, 3) := by decide +kernel
theorem d_60_63 : decode prog_1_method_13_code 63 = .ok (.ldc2_w 108, 3) := by decide +kernel
theorem d_60_66 : decode prog_1_method_13_code 66 = .ok (.lreturn, 1) := by decide +kernel
theorem d_60_67 : decode prog_1_method_13_code 67 = .ok (.iload_n 2, 1) := by decide +kernel
theorem d_60_68 : decode prog_1_method_13_code 68 = .ok (.ifCond .lt 18, 3) := by decide +kernel
theorem d_60_71 : decode prog_1_method_13_code 71 = .ok (.iload_n 2, 1) := by decide +kernel
theorem d_60_72 : decode prog_1_method_13_code 72 = .ok (.aload 4, 2) := by decide +kernel
theorem d_60_74 : decode prog_1_method_13_code 74 = .ok (.getfield 131, 3) := by decide +kernel
theorem d_60_77 : decode prog_1_method_13_code 77 = .ok (.aload 5, 2) := by decide +kernel
theorem d_60_79 : decode prog_1_method_13_code 79 = .ok (.getfield 131, 3) := by decide +kernel
theorem d_60_82 : decode prog_1_method_13_code 82 = .ok (.imul, 1) := by decide +kernel
theorem d_60_83 : decode prog_1_method_13_code 83 = .ok (.if_icmp .lt 7, 3) := by decide +kernel
theorem d_60_86 : decode prog_1_method_13_code 86 = .ok (.ldc2_w 108, 3) := by decide +kernel
theorem d_60_89 : decode prog_1_method_13_code 89 = .ok (.lreturn, 1) := by decide +kernel
theorem d_60_90 : decode prog_1_method_13_code 90 = .ok (.aload_n 3, 1) := by decide +kernel
theorem d_60_91 : decode prog_1_method_13_code 91 = .ok (.aload 4, 2) := by decide +kernel
theorem d_60_93 : decode prog_1_method_13_code 93 = .ok (.iload_n 2, 1) := by decide +kernel
theorem d_60_94 : decode prog_1_method_13_code 94 = .ok (.aload 5, 2) := by decide +kernel
theorem d_60_96 : decode prog_1_method_13_code 96 = .ok (.getfield 131, 3) := by decide +kernel
theorem d_60_99 : decode prog_1_method_13_code 99 = .ok (.idiv, 1) := by decide +kernel
theorem d_60_100 : decode prog_1_method_13_code 100 = .ok (.invokevirtual 142, 3) := by decide +kernel
theorem d_60_103 : decode prog_1_method_13_code 103 = .ok (.aload 5, 2) := by decide +kernel
theorem d_60_105 : decode prog_1_method_13_code 105 = .ok (.iload_n 2, 1) := by decide +kernel
theorem d_60_106 : decode prog_1_method_13_code 106 = .ok (.aload 5, 2) := by decide +kernel
theorem d_60_108 : decode prog_1_method_13_code 108 = .ok (.getfield 131, 3) := by decide +kernel
theorem d_60_111 : decode prog_1_method_13_code 111 = .ok (.irem, 1) := by decide +kernel
theorem d_60_112 : decode prog_1_method_13_code 112 = .ok (.invokevirtual 142, 3) := by decide +kernel
theorem d_60_115 : decode prog_1_method_13_code 115 = .ok (.invokevirtual 114, 3) := by decide +kernel
theorem d_60_118 : decode prog_1_method_13_code 118 = .ok (.i2l, 1) := by decide +kernel
theorem d_60_119 : decode prog_1_method_13_code 119 = .ok (.lreturn, 1) := by decide +kernel
theorem d_61_0 : decode prog_1_method_14_code 0 = .ok (.aload_n 0, 1) := by decide +kernel
theorem d_61_1 : decode prog_1_method_14_code 1 = .ok (.getfield 10, 3) := by decide +kernel
theorem d_61_4 : decode prog_1_method_14_code 4 = .ok (.getfield 73, 3) := by decide +kernel
theorem d_61_7 : decode prog_1_method_14_code 7 = .ok (.ireturn, 1) := by decide +kernel
theorem d_62_0 : decode prog_1_method_15_code 0 = .ok (.aload_n 0, 1) := by decide +kernel
theorem d_62_1 : decode prog_1_method_15_code 1 = .ok (.getfield 19, 3) := by decide +kernel
theorem d_62_4 : decode prog_1_method_15_code 4 = .ok (.ifCond .eq 7, 3) := by decide +kernel
theorem d_62_7 : decode prog_1_method_15_code 7 = .ok (.iconst (-1), 1) := by decide +kernel
theorem d_62_8 : decode prog_1_method_15_code 8 = .ok (.goto 19, 3) := by decide +kernel
theorem d_62_11 : decode prog_1_method_15_code 11 = .ok (.aload_n 0, 1) := by decide +kernel
theorem d_62_12 : decode prog_1_method_15_code 12 = .ok (.getfield 10, 3) := by decide +kernel
theorem d_62_15 : decode prog_1_method_15_code 15 = .ok (.aload_n 0, 1) := by decide +kernel
theorem d_62_16 : decode prog_1_method_15_code 16 = .ok (.getfield 10, 3) := by decide +kernel
theorem d_62_19 : decode prog_1_method_15_code 19 = .ok (.getfield 73, 3) := by decide +kernel
theorem d_62_22 : decode prog_1_method_15_code 22 = .ok (.i2l, 1) := by decide +kernel
theorem d_62_23 : decode prog_1_method_15_code 23 = .ok (.invokevirtual 77, 3) := by decide +kernel
theorem d_62_26 : decode prog_1_method_15_code 26 = .ok (.l2i, 1) := by decide +kernel
theorem d_62_27 : decode prog_1_method_15_code 27 = .ok (.ireturn, 1) := by decide +kernel
theorem d_63_0 : decode prog_1_method_16_code 0 = .ok (.aload_n 0, 1) := by decide +kernel
theorem d_63_1 : decode prog_1_method_16_code 1 = .ok (.getfield 19, 3) := by decide +kernel
theorem d_63_4 : decode prog_1_method_16_code 4 = .ok (.ifCond .eq 5, 3) := by decide +kernel
theorem d_63_7 : decode prog_1_method_16_code 7 = .ok (.iconst (-1), 1) := by decide +kernel
theorem d_63_8 : decode prog_1_method_16_code 8 = .ok (.ireturn, 1) := by decide +kernel
theorem d_63_9 : decode prog_1_method_16_code 9 = .ok (.aload_n 0, 1) := by decide +kernel
theorem d_63_10 : decode prog_1_method_16_code 10 = .ok (.getfield 10, 3) := by decide +kernel
theorem d_63_13 : decode prog_1_method_16_code 13 = .ok (.iload_n 1, 1) := by decide +kernel
theorem d_63_14 : decode prog_1_method_16_code 14 = .ok (.invokevirtual 83, 3) := by decide +kernel
theorem d_63_17 : decode prog_1_method_16_code 17 = .ok (.ifnonnull 8, 3) := by decide +kernel
theorem d_63_20 : decode prog_1_method_16_code 20 = .ok (.bipush (-3), 2) := by decide +kernel
theorem d_63_22 : decode prog_1_method_16_code 22 = .ok (.goto 11, 3) := by decide +kernel
theorem d_63_25 : decode prog_1_method_16_code 25 = .ok (.aload_n 0, 1) := by decide +kernel
theorem d_63_26 : decode prog_1_method_16_code 26 = .ok (.getfield 10, 3) := by decide +kernel
theorem d_63_29 : decode prog_1_method_16_code 29 = .ok (.iload_n 1, 1) := by decide +kernel
theorem d_63_30 : decode prog_1_method_16_code 30 = .ok (.invokevirtual 145, 3) := by decide +kernel
theorem d_63_33 : decode prog_1_method_16_code 33 = .ok (.ireturn, 1) := by decide +kernel
theorem d_64_0 : decode prog_5_method_21_code 0 = .ok (.aload_n 0, 1) := by decide +kernel
theorem d_64_1 : decode prog_5_method_21_code 1 = .ok (.getfield 33, 3) := by decide +kernel
theorem d_64_4 : decode prog_5_method_21_code 4 = .ok (.iload_n 1, 1) := by decide +kernel
theorem d_64_5 : decode prog_5_method_21_code 5 = .ok (.aaload, 1) := by decide +kernel
theorem d_64_6 : decode prog_5_method_21_code 6 = .ok (.getfield 94, 3) := by decide +kernel
theorem d_64_9 : decode prog_5_method_21_code 9 = .ok (.ifCond .ne 15, 3) := by decide +kernel
theorem d_64_12 : decode prog_5_method_21_code 12 = .ok (.aload_n 0, 1) := by decide +kernel
theorem d_64_13 : decode prog_5_method_21_code 13 = .ok (.invokevirtual 122, 3) := by decide +kernel
theorem d_64_16 : decode prog_5_method_21_code 16 = .ok (.aload_n 0, 1) := by decide +kernel
theorem d_64_17 : decode prog_5_method_21_code 17 = .ok (.iload_n 1, 1) := by decide +kernel
theorem d_64_18 : decode prog_5_method_21_code 18 = .ok (.iconst 0, 1) := by decide +kernel
theorem d_64_19 : decode prog_5_method_21_code 19 = .ok (.invokevirtual 115, 3) := by decide +kernel
theorem d_64_22 : decode prog_5_method_21_code 22 = .ok (.iadd, 1) := by decide +kernel
theorem d_64_23 : decode prog_5_method_21_code 23 = .ok (.ireturn, 1) := by decide +kernel
theorem d_64_24 : decode prog_5_method_21_code 24 = .ok (.aload_n 0, 1) := by decide +kernel
theorem d_64_25 : decode prog_5_method_21_code 25 = .ok (.invokevirtual 122, 3) := by decide +kernel
theorem d_64_28 : decode prog_5_method_21_code 28 = .ok (.aload_n 0, 1) := by decide +kernel
theorem d_64_29 : decode prog_5_method_21_code 29 = .ok (.aload_n 0, 1) := by decide +kernel
theorem d_64_30 : decode prog_5_method_21_code 30 = .ok (.getfield 25, 3) := by decide +kernel
theorem d_64_33 : decode prog_5_method_21_code 33 = .ok (.iconst 0, 1) := by decide +kernel
theorem d_64_34 : decode prog_5_method_21_code 34 = .ok (.invokevirtual 115, 3) := by decide +kernel
theorem d_64_37 : decode prog_5_method_21_code 37 = .ok (.iadd, 1) := by decide +kernel
theorem d_64_38 : decode prog_5_method_21_code 38 = .ok (.aload_n 0, 1) := by decide +kernel
theorem d_64_39 : decode prog_5_method_21_code 39 = .ok (.iload_n 1, 1) := by decide +kernel
theorem d_64_40 : decode prog_5_method_21_code 40 = .ok (.iconst 1, 1) := by decide +kernel
theorem d_64_41 : decode prog_5_method_21_code 41 = .ok (.invokevirtual 115, 3) := by decide +kernel
theorem d_64_44 : decode prog_5_method_21_code 44 = .ok (.iadd, 1) := by decide +kernel
theorem d_64_45 : decode prog_5_method_21_code 45 = .ok (.ireturn, 1) := by decide +kernel
theorem d_65_0 : decode prog_1_method_17_code 0 = .ok (.aload_n 0, 1) := by decide +kernel
theorem d_65_1 : decode prog_1_method_17_code 1 = .ok (.getfield 19, 3) := by decide +kernel
theorem d_65_4 : decode prog_1_method_17_code 4 = .ok (.ifCond .ne 13, 3) := by decide +kernel
theorem d_65_7 : decode prog_1_method_17_code 7 = .ok (.iload_n 1, 1) := by decide +kernel
theorem d_65_8 : decode prog_1_method_17_code 8 = .ok (.ifCond .lt 9, 3) := by decide +kernel
theorem d_65_11 : decode prog_1_method_17_code 11 = .ok (.iload_n 1, 1) := by decide +kernel
theorem d_65_12 : decode prog_1_method_17_code 12 = .ok (.bipush 100, 2) := by decide +kernel
theorem d_65_14 : decode prog_1_method_17_code 14 = .ok (.if_icmp .lt 5, 3) := by decide +kernel
theorem d_65_17 : decode prog_1_method_17_code 17 = .ok (.lconst 0, 1) := by decide +kernel
theorem d_65_18 : decode prog_1_method_17_code 18 = .ok (.lreturn, 1) := by decide +kernel
theorem d_65_19 : decode prog_1_method_17_code 19 = .ok (.aload_n 0, 1) := by decide +kernel
theorem d_65_20 : decode prog_1_method_17_code 20 = .ok (.getfield 10, 3) := by decide +kernel
theorem d_65_23 : decode prog_1_method_17_code 23 = .ok (.aload_n 0, 1) := by decide +kernel
theorem d_65_24 : decode prog_1_method_17_code 24 = .ok (.getfield 43, 3) := by decide +kernel
theorem d_65_27 : decode prog_1_method_17_code 27 = .ok (.invokevirtual 148, 3) := by decide +kernel
theorem d_65_30 : decode prog_1_method_17_code 30 = .ok (.lconst 0, 1) := by decide +kernel
theorem d_65_31 : decode prog_1_method_17_code 31 = .ok (.lstore_n 2, 1) := by decide +kernel
theorem d_65_32 : decode prog_1_method_17_code 32 = .ok (.iconst 0, 1) := by decide +kernel
theorem d_65_33 : decode prog_1_method_17_code 33 = .ok (.istore 4, 2) := by decide +kernel
theorem d_65_35 : decode prog_1_method_17_code 35 = .ok (.iload 4, 2) := by decide +kernel
theorem d_65_37 : decode prog_1_method_17_code 37 = .ok (.bipush 8, 2) := by decide +kernel
theorem d_65_39 : decode prog_1_method_17_code 39 = .ok (.if_icmp .ge 30, 3) := by decide +kernel
theorem d_65_42 : decode prog_1_method_17_code 42 = .ok (.lload_n 2, 1) := by decide +kernel
theorem d_65_43 : decode prog_1_method_17_code 43 = .ok (.bipush 8, 2) := by decide +kernel
theorem d_65_45 : decode prog_1_method_17_code 45 = .ok (.lshl, 1) := by decide +kernel
theorem d_65_46 : decode prog_1_method_17_code 46 = .ok (.aload_n 0, 1) := by decide +kernel
theorem d_65_47 : decode prog_1_method_17_code 47 = .ok (.getfield 43, 3) := by decide +kernel
theorem d_65_50 : decode prog_1_method_17_code 50 = .ok (.bipush 8, 2) := by decide +kernel
theorem d_65_52 : decode prog_1_method_17_code 52 = .ok (.iload_n 1, 1) := by decide +kernel
theorem d_65_53 : decode prog_1_method_17_code 53 = .ok (.imul, 1) := by decide +kernel
theorem d_65_54 : decode prog_1_method_17_code 54 = .ok (.iload 4, 2) := by decide +kernel
theorem d_65_56 : decode prog_1_method_17_code 56 = .ok (.iadd, 1) := by decide +kernel
theorem d_65_57 : decode prog_1_method_17_code 57 = .ok (.invokevirtual 152, 3) := by decide +kernel
theorem d_65_60 : decode prog_1_method_17_code 60 = .ok (.i2l, 1) := by decide +kernel
theorem d_65_61 : decode prog_1_method_17_code 61 = .ok (.lor, 1) := by decide +kernel
theorem d_65_62 : decode prog_1_method_17_code 62 = .ok (.lstore_n 2, 1) := by decide +kernel
theorem d_65_63 : decode prog_1_method_17_code 63 = .ok (.iinc 4 1, 3) := by decide +kernel
theorem d_65_66 : decode prog_1_method_17_code 66 = .ok (.goto (-31), 3) := by decide +kernel
theorem d_65_69 : decode prog_1_method_17_code 69 = .ok (.lload_n 2, 1) := by decide +kernel
theorem d_65_70 : decode prog_1_method_17_code 70 = .ok (.lreturn, 1) := by decide +kernel
theorem d_66_0 : decode prog_5_method_22_code 0 = .ok (.aload_n 1, 1) := by decide +kernel
theorem d_66_1 : decode prog_5_method_22_code 1 = .ok (.invokevirtual 126, 3) := by decide +kernel
theorem d_66_4 : decode prog_5_method_22_code 4 = .ok (.aload_n 1, 1) := by decide +kernel
theorem d_66_5 : decode prog_5_method_22_code 5 = .ok (.ldc 129, 2) := by decide +kernel
theorem d_66_7 : decode prog_5_method_22_code 7 = .ok (.invokevirtual 130, 3) := by decide +kernel
theorem d_66_10 : decode prog_5_method_22_code 10 = .ok (.aload_n 1, 1) := by decide +kernel
theorem d_66_11 : decode prog_5_method_22_code 11 = .ok (.aload_n 0, 1) := by decide +kernel
theorem d_66_12 : decode prog_5_method_22_code 12 = .ok (.getfield 9, 3) := by decide +kernel
theorem d_66_15 : decode prog_5_method_22_code 15 = .ok (.invokevirtual 130, 3) := by decide +kernel
theorem d_66_18 : decode prog_5_method_22_code 18 = .ok (.aload_n 1, 1) := by decide +kernel
theorem d_66_19 : decode prog_5_method_22_code 19 = .ok (.bipush 10, 2) := by decide +kernel
theorem d_66_21 : decode prog_5_method_22_code 21 = .ok (.aload_n 0, 1) := by decide +kernel
theorem d_66_22 : decode prog_5_method_22_code 22 = .ok (.getfield 15, 3) := by decide +kernel
theorem d_66_25 : decode prog_5_method_22_code 25 = .ok (.invokevirtual 133, 3) := by decide +kernel
theorem d_66_28 : decode prog_5_method_22_code 28 = .ok (.iconst 0, 1) := by decide +kernel
theorem d_66_29 : decode prog_5_method_22_code 29 = .ok (.istore_n 2, 1) := by decide +kernel
theorem d_66_30 : decode prog_5_method_22_code 30 = .ok (.iload_n 2, 1) := by decide +kernel
theorem d_66_31 : decode prog_5_method_22_code 31 = .ok (.aload_n 0, 1) := by decide +kernel
theorem d_66_32 : decode prog_5_method_22_code 32 = .ok (.getfield 15, 3) := by decide +kernel
theorem d_66_35 : decode prog_5_method_22_code 35 = .ok (.if_icmp .ge 29, 3) := by decide +kernel
theorem d_66_38 : decode prog_5_method_22_code 38 = .ok (.aload_n 1, 1) := by decide +kernel
theorem d_66_39 : decode prog_5_method_22_code 39 = .ok (.aload_n 0, 1) := by decide +kernel
theorem d_66_40 : decode prog_5_method_22_code 40 = .ok (.getfield 18, 3) := by decide +kernel
theorem d_66_43 : decode prog_5_method_22_code 43 = .ok (.iload_n 2, 1) := by decide +kernel
theorem d_66_44 : decode prog_5_method_22_code 44 = .ok (.iaload, 1) := by decide +kernel
theorem d_66_45 : decode prog_5_method_22_code 45 = .ok (.invokevirtual 137, 3) := by decide +kernel
theorem d_66_48 : decode prog_5_method_22_code 48 = .ok (.aload_n 1, 1) := by decide +kernel
theorem d_66_49 : decode prog_5_method_22_code 49 = .ok (.aload_n 0, 1) := by decide +kernel
theorem d_66_50 : decode prog_5_method_22_code 50 = .ok (.getfield 22, 3) := by decide +kernel
theorem d_66_53 : decode prog_5_method_22_code 53 = .ok (.iload_n 2, 1) := by decide +kernel
theorem d_66_54 : decode prog_5_method_22_code 54 = .ok (.iaload, 1) := by decide +kernel
theorem d_66_55 : decode prog_5_method_22_code 55 = .ok (.invokevirtual 130, 3) := by decide +kernel
theorem d_66_58 : decode prog_5_method_22_code 58 = .ok (.iinc 2 1, 3) := by decide +kernel
theorem d_66_61 : decode prog_5_method_22_code 61 = .ok (.goto (-31), 3) := by decide +kernel
theorem d_66_64 : decode prog_5_method_22_code 64 = .ok (.aload_n 0, 1) := by decide +kernel
theorem d_66_65 : decode prog_5_method_22_code 65 = .ok (.getfield 41, 3) := by decide +kernel
theorem d_66_68 : decode prog_5_method_22_code 68 = .ok (.aload_n 1, 1) := by decide +kernel
theorem d_66_69 : decode prog_5_method_22_code 69 = .ok (.invokevirtual 140, 3) := by decide +kernel
theorem d_66_72 : decode prog_5_method_22_code 72 = .ok (.aload_n 1, 1) := by decide +kernel
theorem d_66_73 : decode prog_5_method_22_code 73 = .ok (.bipush 11, 2) := by decide +kernel
theorem d_66_75 : decode prog_5_method_22_code 75 = .ok (.aload_n 0, 1) := by decide +kernel
theorem d_66_76 : decode prog_5_method_22_code 76 = .ok (.getfield 25, 3) := by decide +kernel
theorem d_66_79 : decode prog_5_method_22_code 79 = .ok (.invokevirtual 133, 3) := by decide +kernel
theorem d_66_82 : decode prog_5_method_22_code 82 = .ok (.iconst 0, 1) := by decide +kernel
theorem d_66_83 : decode prog_5_method_22_code 83 = .ok (.istore_n 2, 1) := by decide +kernel
theorem d_66_84 : decode prog_5_method_22_code 84 = .ok (.iload_n 2, 1) := by decide +kernel
theorem d_66_85 : decode prog_5_method_22_code 85 = .ok (.aload_n 0, 1) := by decide +kernel
theorem d_66_86 : decode prog_5_method_22_code 86 = .ok (.getfield 25, 3) := by decide +kernel
theorem d_66_89 : decode prog_5_method_22_code 89 = .ok (.if_icmp .ge 20, 3) := by decide +kernel
theorem d_66_92 : decode prog_5_method_22_code 92 = .ok (.aload_n 0, 1) := by decide +kernel
theorem d_66_93 : decode prog_5_method_22_code 93 = .ok (.aload_n 1, 1) := by decide +kernel
theorem d_66_94 : decode prog_5_method_22_code 94 = .ok (.iload_n 2, 1) := by decide +kernel
theorem d_66_95 : decode prog_5_method_22_code 95 = .ok (.aload_n 0, 1) := by decide +kernel
theorem d_66_96 : decode prog_5_method_22_code 96 = .ok (.iload_n 2, 1) := by decide +kernel
theorem d_66_97 : decode prog_5_method_22_code 97 = .ok (.invokevirtual 144, 3) := by decide +kernel
theorem d_66_100 : decode prog_5_method_22_code 100 = .ok (.invokevirtual 147, 3) := by decide +kernel
theorem d_66_103 : decode prog_5_method_22_code 103 = .ok (.iinc 2 1, 3) := by decide +kernel
theorem d_66_106 : decode prog_5_method_22_code 106 = .ok (.goto (-22), 3) := by decide +kernel
theorem d_66_109 : decode prog_5_method_22_code 109 = .ok (.aload_n 0, 1) := by decide +kernel
theorem d_66_110 : decode prog_5_method_22_code 110 = .ok (.aload_n 1, 1) := by decide +kernel
theorem d_66_111 : decode prog_5_method_22_code 111 = .ok (.invokevirtual 151, 3) := by decide +kernel
theorem d_66_114 : decode prog_5_method_22_code 114 = .ok (.return_, 1) := by decide +kernel
theorem d_67_0 : decode prog_3_method_2_code 0 = .ok (.aload_n 0, 1) := by decide +kernel
theorem d_67_1 : decode prog_3_method_2_code 1 = .ok (.iconst 0, 1) := by decide +kernel
theorem d_67_2 : decode prog_3_method_2_code 2 = .ok (.putfield 15, 3) := by decide +kernel
theorem d_67_5 : decode prog_3_method_2_code 5 = .ok (.aload_n 0, 1) := by decide +kernel
theorem d_67_6 : decode prog_3_method_2_code 6 = .ok (.iconst 0, 1) := by decide +kernel
theorem d_67_7 : decode prog_3_method_2_code 7 = .ok (.putfield 19, 3) := by decide +kernel
theorem d_67_10 : decode prog_3_method_2_code 10 = .ok (.return_, 1) := by decide +kernel
theorem d_68_0 : decode prog_3_method_5_code 0 = .ok (.aload_n 0, 1) := by decide +kernel
theorem d_68_1 : decode prog_3_method_5_code 1 = .ok (.iload_n 1, 1) := by decide +kernel
theorem d_68_2 : decode prog_3_method_5_code 2 = .ok (.iconst 4, 1) := by decide +kernel
theorem d_68_3 : decode prog_3_method_5_code 3 = .ok (.invokevirtual 26, 3) := by decide +kernel
theorem d_68_6 : decode prog_3_method_5_code 6 = .ok (.return_, 1) := by decide +kernel
theorem d_69_0 : decode prog_3_method_4_code 0 = .ok (.iload_n 2, 1) := by decide +kernel
theorem d_69_1 : decode prog_3_method_4_code 1 = .ok (.iconst 1, 1) := by decide +kernel
theorem d_69_2 : decode prog_3_method_4_code 2 = .ok (.isub, 1) := by decide +kernel
theorem d_69_3 : decode prog_3_method_4_code 3 = .ok (.istore_n 3, 1) := by decide +kernel
theorem d_69_4 : decode prog_3_method_4_code 4 = .ok (.iload_n 3, 1) := by decide +kernel
theorem d_69_5 : decode prog_3_method_4_code 5 = .ok (.ifCond .lt 19, 3) := by decide +kernel
theorem d_69_8 : decode prog_3_method_4_code 8 = .ok (.aload_n 0, 1) := by decide +kernel
theorem d_69_9 : decode prog_3_method_4_code 9 = .ok (.iload_n 1, 1) := by decide +kernel
theorem d_69_10 : decode prog_3_method_4_code 10 = .ok (.bipush 8, 2) := by decide +kernel
theorem d_69_12 : decode prog_3_method_4_code 12 = .ok (.iload_n 3, 1) := by decide +kernel
theorem d_69_13 : decode prog_3_method_4_code 13 = .ok (.imul, 1) := by decide +kernel
theorem d_69_14 : decode prog_3_method_4_code 14 = .ok (.ishr, 1) := by decide +kernel
theorem d_69_15 : decode prog_3_method_4_code 15 = .ok (.invokevirtual 22, 3) := by decide +kernel
theorem d_69_18 : decode prog_3_method_4_code 18 = .ok (.iinc 3 (-1), 3) := by decide +kernel
theorem d_69_21 : decode prog_3_method_4_code 21 = .ok (.goto (-17), 3) := by decide +kernel
theorem d_69_24 : decode prog_3_method_4_code 24 = .ok (.return_, 1) := by decide +kernel
theorem d_70_0 : decode prog_3_method_3_code 0 = .ok (.aload_n 0, 1) := by decide +kernel
theorem d_70_1 : decode prog_3_method_3_code 1 = .ok (.getfield 15, 3) := by decide +kernel
theorem d_70_4 : decode prog_3_method_3_code 4 = .ok (.aload_n 0, 1) := by decide +kernel
theorem d_70_5 : decode prog_3_method_3_code 5 = .ok (.getfield 9, 3) := by decide +kernel
theorem d_70_8 : decode prog_3_method_3_code 8 = .ok (.arraylength, 1) := by decide +kernel
theorem d_70_9 : decode prog_3_method_3_code 9 = .ok (.if_icmp .ge 24, 3) := by decide +kernel
theorem d_70_12 : decode prog_3_method_3_code 12 = .ok (.aload_n 0, 1) := by decide +kernel
theorem d_70_13 : decode prog_3_method_3_code 13 = .ok (.getfield 9, 3) := by decide +kernel
theorem d_70_16 : decode prog_3_method_3_code 16 = .ok (.aload_n 0, 1) := by decide +kernel
theorem d_70_17 : decode prog_3_method_3_code 17 = .ok (.getfield 15, 3) := by decide +kernel
theorem d_70_20 : decode prog_3_method_3_code 20 = .ok (.iload_n 1, 1) := by decide +kernel
theorem d_70_21 : decode prog_3_method_3_code 21 = .ok (.i2b, 1) := by decide +kernel
theorem d_70_22 : decode prog_3_method_3_code 22 = .ok (.bastore, 1) := by decide +kernel
theorem d_70_23 : decode prog_3_method_3_code 23 = .ok (.aload_n 0, 1) := by decide +kernel
theorem d_70_24 : decode prog_3_method_3_code 24 = .ok (.dup, 1) := by decide +kernel
theorem d_70_25 : decode prog_3_method_3_code 25 = .ok (.getfield 15, 3) := by decide +kernel
theorem d_70_28 : decode prog_3_method_3_code 28 = .ok (.iconst 1, 1) := by decide +kernel
theorem d_70_29 : decode prog_3_method_3_code 29 = .ok (.iadd, 1) := by decide +kernel
theorem d_70_30 : decode prog_3_method_3_code 30 = .ok (.putfield 15, 3) := by decide +kernel
theorem d_70_33 : decode prog_3_method_3_code 33 = .ok (.return_, 1) := by decide +kernel
theorem d_71_0 : decode prog_3_method_7_code 0 = .ok (.aload_n 0, 1) := by decide +kernel
theorem d_71_1 : decode prog_3_method_7_code 1 = .ok (.iload_n 2, 1) := by decide +kernel
theorem d_71_2 : decode prog_3_method_7_code 2 = .ok (.ifCond .ne 7, 3) := by decide +kernel
theorem d_71_5 : decode prog_3_method_7_code 5 = .ok (.iconst 0, 1) := by decide +kernel
theorem d_71_6 : decode prog_3_method_7_code 6 = .ok (.goto 4, 3) := by decide +kernel
theorem d_71_9 : decode prog_3_method_7_code 9 = .ok (.iload_n 1, 1) := by decide +kernel
theorem d_71_10 : decode prog_3_method_7_code 10 = .ok (.iconst 4, 1) := by decide +kernel
theorem d_71_11 : decode prog_3_method_7_code 11 = .ok (.invokevirtual 26, 3) := by decide +kernel
theorem d_71_14 : decode prog_3_method_7_code 14 = .ok (.aload_n 0, 1) := by decide +kernel
theorem d_71_15 : decode prog_3_method_7_code 15 = .ok (.iload_n 2, 1) := by decide +kernel
theorem d_71_16 : decode prog_3_method_7_code 16 = .ok (.iconst 4, 1) := by decide +kernel
theorem d_71_17 : decode prog_3_method_7_code 17 = .ok (.invokevirtual 26, 3) := by decide +kernel
theorem d_71_20 : decode prog_3_method_7_code 20 = .ok (.return_, 1) := by decide +kernel
theorem d_72_0 : decode prog_3_method_6_code 0 = .ok (.aload_n 0, 1) := by decide +kernel
theorem d_72_1 : decode prog_3_method_6_code 1 = .ok (.iconst 1, 1) := by decide +kernel
theorem d_72_2 : decode prog_3_method_6_code 2 = .ok (.iconst 4, 1) := by decide +kernel
theorem d_72_3 : decode prog_3_method_6_code 3 = .ok (.invokevirtual 26, 3) := by decide +kernel
theorem d_72_6 : decode prog_3_method_6_code 6 = .ok (.aload_n 0, 1) := by decide +kernel
theorem d_72_7 : decode prog_3_method_6_code 7 = .ok (.iload_n 1, 1) := by decide +kernel
theorem d_72_8 : decode prog_3_method_6_code 8 = .ok (.bipush 24, 2) := by decide +kernel
theorem d_72_10 : decode prog_3_method_6_code 10 = .ok (.ishl, 1) := by decide +kernel
theorem d_72_11 : decode prog_3_method_6_code 11 = .ok (.iconst 4, 1) := by decide +kernel
theorem d_72_12 : decode prog_3_method_6_code 12 = .ok (.invokevirtual 26, 3) := by decide +kernel
theorem d_72_15 : decode prog_3_method_6_code 15 = .ok (.return_, 1) := by decide +kernel
theorem d_73_0 : decode prog_2_method_6_code 0 = .ok (.aload_n 1, 1) := by decide +kernel
theorem d_73_1 : decode prog_2_method_6_code 1 = .ok (.bipush 12, 2) := by decide +kernel
theorem d_73_3 : decode prog_2_method_6_code 3 = .ok (.aload_n 0, 1) := by decide +kernel
theorem d_73_4 : decode prog_2_method_6_code 4 = .ok (.getfield 9, 3) := by decide +kernel
theorem d_73_7 : decode prog_2_method_6_code 7 = .ok (.invokevirtual 50, 3) := by decide +kernel
theorem d_73_10 : decode prog_2_method_6_code 10 = .ok (.iconst 0, 1) := by decide +kernel
theorem d_73_11 : decode prog_2_method_6_code 11 = .ok (.istore_n 2, 1) := by decide +kernel
theorem d_73_12 : decode prog_2_method_6_code 12 = .ok (.iload_n 2, 1) := by decide +kernel
theorem d_73_13 : decode prog_2_method_6_code 13 = .ok (.aload_n 0, 1) := by decide +kernel
theorem d_73_14 : decode prog_2_method_6_code 14 = .ok (.getfield 9, 3) := by decide +kernel
theorem d_73_17 : decode prog_2_method_6_code 17 = .ok (.if_icmp .ge 78, 3) := by decide +kernel
theorem d_73_20 : decode prog_2_method_6_code 20 = .ok (.aload_n 1, 1) := by decide +kernel
theorem d_73_21 : decode prog_2_method_6_code 21 = .ok (.aload_n 0, 1) := by decide +kernel
theorem d_73_22 : decode prog_2_method_6_code 22 = .ok (.getfield 15, 3) := by decide +kernel
theorem d_73_25 : decode prog_2_method_6_code 25 = .ok (.iload_n 2, 1) := by decide +kernel
theorem d_73_26 : decode prog_2_method_6_code 26 = .ok (.iaload, 1) := by decide +kernel
theorem d_73_27 : decode prog_2_method_6_code 27 = .ok (.invokevirtual 56, 3) := by decide +kernel
theorem d_73_30 : decode prog_2_method_6_code 30 = .ok (.aload_n 1, 1) := by decide +kernel
theorem d_73_31 : decode prog_2_method_6_code 31 = .ok (.aload_n 0, 1) := by decide +kernel
theorem d_73_32 : decode prog_2_method_6_code 32 = .ok (.getfield 19, 3) := by decide +kernel
theorem d_73_35 : decode prog_2_method_6_code 35 = .ok (.iload_n 2, 1) := by decide +kernel
theorem d_73_36 : decode prog_2_method_6_code 36 = .ok (.iaload, 1) := by decide +kernel
theorem d_73_37 : decode prog_2_method_6_code 37 = .ok (.invokevirtual 60, 3) := by decide +kernel
theorem d_73_40 : decode prog_2_method_6_code 40 = .ok (.aload_n 1, 1) := by decide +kernel
theorem d_73_41 : decode prog_2_method_6_code 41 = .ok (.iconst 2, 1) := by decide +kernel
theorem d_73_42 : decode prog_2_method_6_code 42 = .ok (.invokevirtual 60, 3) := by decide +kernel
theorem d_73_45 : decode prog_2_method_6_code 45 = .ok (.aload_n 1, 1) := by decide +kernel
theorem d_73_46 : decode prog_2_method_6_code 46 = .ok (.aload_n 0, 1) := by decide +kernel
theorem d_73_47 : decode prog_2_method_6_code 47 = .ok (.getfield 22, 3) := by decide +kernel
theorem d_73_50 : decode prog_2_method_6_code 50 = .ok (.iload_n 2, 1) := by decide +kernel
theorem d_73_51 : decode prog_2_method_6_code 51 = .ok (.iaload, 1) := by decide +kernel
theorem d_73_52 : decode prog_2_method_6_code 52 = .ok (.getstatic 43, 3) := by decide +kernel
theorem d_73_55 : decode prog_2_method_6_code 55 = .ok (.aload_n 0, 1) := by decide +kernel
theorem d_73_56 : decode prog_2_method_6_code 56 = .ok (.getfield 19, 3) := by decide +kernel
theorem d_73_59 : decode prog_2_method_6_code 59 = .ok (.iload_n 2, 1) := by decide +kernel
theorem d_73_60 : decode prog_2_method_6_code 60 = .ok (.iaload, 1) := by decide +kernel
theorem d_73_61 : decode prog_2_method_6_code 61 = .ok (.iaload, 1) := by decide +kernel
theorem d_73_62 : decode prog_2_method_6_code 62 = .ok (.invokevirtual 63, 3) := by decide +kernel
theorem d_73_65 : decode prog_2_method_6_code 65 = .ok (.aload_n 1, 1) := by decide +kernel
theorem d_73_66 : decode prog_2_method_6_code 66 = .ok (.aload_n 0, 1) := by decide +kernel
theorem d_73_67 : decode prog_2_method_6_code 67 = .ok (.getfield 25, 3) := by decide +kernel
theorem d_73_70 : decode prog_2_method_6_code 70 = .ok (.iload_n 2, 1) := by decide +kernel
theorem d_73_71 : decode prog_2_method_6_code 71 = .ok (.iaload, 1) := by decide +kernel
theorem d_73_72 : decode prog_2_method_6_code 72 = .ok (.getstatic 43, 3) := by decide +kernel
theorem d_73_75 : decode prog_2_method_6_code 75 = .ok (.aload_n 0, 1) := by decide +kernel
theorem d_73_76 : decode prog_2_method_6_code 76 = .ok (.getfield 19, 3) := by decide +kernel
theorem d_73_79 : decode prog_2_method_6_code 79 = .ok (.iload_n 2, 1) := by decide +kernel
theorem d_73_80 : decode prog_2_method_6_code 80 = .ok (.iaload, 1) := by decide +kernel
theorem d_73_81 : decode prog_2_method_6_code 81 = .ok (.iaload, 1) := by decide +kernel
theorem d_73_82 : decode prog_2_method_6_code 82 = .ok (.invokevirtual 63, 3) := by decide +kernel
theorem d_73_85 : decode prog_2_method_6_code 85 = .ok (.aload_n 1, 1) := by decide +kernel
theorem d_73_86 : decode prog_2_method_6_code 86 = .ok (.invokevirtual 66, 3) := by decide +kernel
theorem d_73_89 : decode prog_2_method_6_code 89 = .ok (.iinc 2 1, 3) := by decide +kernel
theorem d_73_92 : decode prog_2_method_6_code 92 = .ok (.goto (-80), 3) := by decide +kernel
theorem d_73_95 : decode prog_2_method_6_code 95 = .ok (.return_, 1) := by decide +kernel
theorem d_74_0 : decode prog_3_method_8_code 0 = .ok (.aload_n 0, 1) := by decide +kernel
theorem d_74_1 : decode prog_3_method_8_code 1 = .ok (.getfield 15, 3) := by decide +kernel
theorem d_74_4 : decode prog_3_method_8_code 4 = .ok (.invokestatic 30, 3) := by decide +kernel
theorem d_74_7 : decode prog_3_method_8_code 7 = .ok (.aload_n 0, 1) := by decide +kernel
theorem d_74_8 : decode prog_3_method_8_code 8 = .ok (.getfield 15, 3) := by decide +kernel
theorem d_74_11 : decode prog_3_method_8_code 11 = .ok (.isub, 1) := by decide +kernel
theorem d_74_12 : decode prog_3_method_8_code 12 = .ok (.istore_n 1, 1) := by decide +kernel
theorem d_74_13 : decode prog_3_method_8_code 13 = .ok (.iconst 0, 1) := by decide +kernel
theorem d_74_14 : decode prog_3_method_8_code 14 = .ok (.istore_n 2, 1) := by decide +kernel
theorem d_74_15 : decode prog_3_method_8_code 15 = .ok (.iload_n 2, 1) := by decide +kernel
theorem d_74_16 : decode prog_3_method_8_code 16 = .ok (.iload_n 1, 1) := by decide +kernel
theorem d_74_17 : decode prog_3_method_8_code 17 = .ok (.if_icmp .ge 14, 3) := by decide +kernel
theorem d_74_20 : decode prog_3_method_8_code 20 = .ok (.aload_n 0, 1) := by decide +kernel
theorem d_74_21 : decode prog_3_method_8_code 21 = .ok (.iconst 0, 1) := by decide +kernel
theorem d_74_22 : decode prog_3_method_8_code 22 = .ok (.invokevirtual 22, 3) := by decide +kernel
theorem d_74_25 : decode prog_3_method_8_code 25 = .ok (.iinc 2 1, 3) := by decide +kernel
theorem d_74_28 : decode prog_3_method_8_code 28 = .ok (.goto (-13), 3) := by decide +kernel
theorem d_74_31 : decode prog_3_method_8_code 31 = .ok (.return_, 1) := by decide +kernel
theorem d_75_0 : decode prog_5_method_23_code 0 = .ok (.aload_n 0, 1) := by decide +kernel
theorem d_75_1 : decode prog_5_method_23_code 1 = .ok (.getfield 33, 3) := by decide +kernel
theorem d_75_4 : decode prog_5_method_23_code 4 = .ok (.iload_n 2, 1) := by decide +kernel
theorem d_75_5 : decode prog_5_method_23_code 5 = .ok (.aaload, 1) := by decide +kernel
theorem d_75_6 : decode prog_5_method_23_code 6 = .ok (.astore 4, 2) := by decide +kernel
theorem d_75_8 : decode prog_5_method_23_code 8 = .ok (.aload_n 1, 1) := by decide +kernel
theorem d_75_9 : decode prog_5_method_23_code 9 = .ok (.aload_n 0, 1) := by decide +kernel
theorem d_75_10 : decode prog_5_method_23_code 10 = .ok (.getfield 28, 3) := by decide +kernel
theorem d_75_13 : decode prog_5_method_23_code 13 = .ok (.iload_n 2, 1) := by decide +kernel
theorem d_75_14 : decode prog_5_method_23_code 14 = .ok (.iaload, 1) := by decide +kernel
theorem d_75_15 : decode prog_5_method_23_code 15 = .ok (.invokevirtual 137, 3) := by decide +kernel
theorem d_75_18 : decode prog_5_method_23_code 18 = .ok (.aload_n 1, 1) := by decide +kernel
theorem d_75_19 : decode prog_5_method_23_code 19 = .ok (.aload 4, 2) := by decide +kernel
theorem d_75_21 : decode prog_5_method_23_code 21 = .ok (.invokevirtual 154, 3) := by decide +kernel
theorem d_75_24 : decode prog_5_method_23_code 24 = .ok (.invokevirtual 130, 3) := by decide +kernel
theorem d_75_27 : decode prog_5_method_23_code 27 = .ok (.aload 4, 2) := by decide +kernel
theorem d_75_29 : decode prog_5_method_23_code 29 = .ok (.invokevirtual 154, 3) := by decide +kernel
theorem d_75_32 : decode prog_5_method_23_code 32 = .ok (.ifCond .le 12, 3) := by decide +kernel
theorem d_75_35 : decode prog_5_method_23_code 35 = .ok (.aload_n 1, 1) := by decide +kernel
theorem d_75_36 : decode prog_5_method_23_code 36 = .ok (.aload 4, 2) := by decide +kernel
theorem d_75_38 : decode prog_5_method_23_code 38 = .ok (.getfield 157, 3) := by decide +kernel
theorem d_75_41 : decode prog_5_method_23_code 41 = .ok (.invokevirtual 130, 3) := by decide +kernel
theorem d_75_44 : decode prog_5_method_23_code 44 = .ok (.aload 4, 2) := by decide +kernel
theorem d_75_46 : decode prog_5_method_23_code 46 = .ok (.invokevirtual 154, 3) := by decide +kernel
theorem d_75_49 : decode prog_5_method_23_code 49 = .ok (.iconst 1, 1) := by decide +kernel
theorem d_75_50 : decode prog_5_method_23_code 50 = .ok (.if_icmp .le 12, 3) := by decide +kernel
theorem d_75_53 : decode prog_5_method_23_code 53 = .ok (.aload_n 1, 1) := by decide +kernel
theorem d_75_54 : decode prog_5_method_23_code 54 = .ok (.aload 4, 2) := by decide +kernel
theorem d_75_56 : decode prog_5_method_23_code 56 = .ok (.getfield 160, 3) := by decide +kernel
theorem d_75_59 : decode prog_5_method_23_code 59 = .ok (.invokevirtual 130, 3) := by decide +kernel
theorem d_75_62 : decode prog_5_method_23_code 62 = .ok (.aload 4, 2) := by decide +kernel
theorem d_75_64 : decode prog_5_method_23_code 64 = .ok (.getfield 48, 3) := by decide +kernel
theorem d_75_67 : decode prog_5_method_23_code 67 = .ok (.aload_n 1, 1) := by decide +kernel
theorem d_75_68 : decode prog_5_method_23_code 68 = .ok (.invokevirtual 140, 3) := by decide +kernel
theorem d_75_71 : decode prog_5_method_23_code 71 = .ok (.aload_n 1, 1) := by decide +kernel
theorem d_75_72 : decode prog_5_method_23_code 72 = .ok (.aload 4, 2) := by decide +kernel
theorem d_75_74 : decode prog_5_method_23_code 74 = .ok (.getfield 163, 3) := by decide +kernel
theorem d_75_77 : decode prog_5_method_23_code 77 = .ok (.invokevirtual 130, 3) := by decide +kernel
theorem d_75_80 : decode prog_5_method_23_code 80 = .ok (.aload_n 1, 1) := by decide +kernel
theorem d_75_81 : decode prog_5_method_23_code 81 = .ok (.aload 4, 2) := by decide +kernel
theorem d_75_83 : decode prog_5_method_23_code 83 = .ok (.invokevirtual 109, 3) := by decide +kernel
theorem d_75_86 : decode prog_5_method_23_code 86 = .ok (.invokevirtual 130, 3) := by decide +kernel
theorem d_75_89 : decode prog_5_method_23_code 89 = .ok (.aload_n 1, 1) := by decide +kernel
theorem d_75_90 : decode prog_5_method_23_code 90 = .ok (.iload_n 3, 1) := by decide +kernel
theorem d_75_91 : decode prog_5_method_23_code 91 = .ok (.invokevirtual 130, 3) := by decide +kernel
theorem d_75_94 : decode prog_5_method_23_code 94 = .ok (.return_, 1) := by decide +kernel
theorem d_76_0 : decode prog_5_method_24_code 0 = .ok (.iconst 0, 1) := by decide +kernel
theorem d_76_1 : decode prog_5_method_24_code 1 = .ok (.istore_n 2, 1) := by decide +kernel
theorem d_76_2 : decode prog_5_method_24_code 2 = .ok (.iload_n 2, 1) := by decide +kernel
theorem d_76_3 : decode prog_5_method_24_code 3 = .ok (.aload_n 0, 1) := by decide +kernel
theorem d_76_4 : decode prog_5_method_24_code 4 = .ok (.getfield 25, 3) := by decide +kernel
theorem d_76_7 : decode prog_5_method_24_code 7 = .ok (.if_icmp .ge 57, 3) := by decide +kernel
theorem d_76_10 : decode prog_5_method_24_code 10 = .ok (.aload_n 0, 1) := by decide +kernel
theorem d_76_11 : decode prog_5_method_24_code 11 = .ok (.getfield 33, 3) := by decide +kernel
theorem d_76_14 : decode prog_5_method_24_code 14 = .ok (.iload_n 2, 1) := by decide +kernel
theorem d_76_15 : decode prog_5_method_24_code 15 = .ok (.aaload, 1) := by decide +kernel
theorem d_76_16 : decode prog_5_method_24_code 16 = .ok (.getfield 94, 3) := by decide +kernel
theorem d_76_19 : decode prog_5_method_24_code 19 = .ok (.ifCond .ne 39, 3) := by decide +kernel
theorem d_76_22 : decode prog_5_method_24_code 22 = .ok (.iconst 0, 1) := by decide +kernel
theorem d_76_23 : decode prog_5_method_24_code 23 = .ok (.istore_n 3, 1) := by decide +kernel
theorem d_76_24 : decode prog_5_method_24_code 24 = .ok (.iload_n 3, 1) := by decide +kernel
theorem d_76_25 : decode prog_5_method_24_code 25 = .ok (.aload_n 0, 1) := by decide +kernel
theorem d_76_26 : decode prog_5_method_24_code 26 = .ok (.getfield 33, 3) := by decide +kernel
theorem d_76_29 : decode prog_5_method_24_code 29 = .ok (.iload_n 2, 1) := by decide +kernel
theorem d_76_30 : decode prog_5_method_24_code 30 = .ok (.aaload, 1) := by decide +kernel
theorem d_76_31 : decode prog_5_method_24_code 31 = .ok (.getfield 166, 3) := by decide +kernel
theorem d_76_34 : decode prog_5_method_24_code 34 = .ok (.if_icmp .ge 20, 3) := by decide +kernel
theorem d_76_37 : decode prog_5_method_24_code 37 = .ok (.aload_n 0, 1) := by decide +kernel
theorem d_76_38 : decode prog_5_method_24_code 38 = .ok (.getfield 33, 3) := by decide +kernel
theorem d_76_41 : decode prog_5_method_24_code 41 = .ok (.iload_n 2, 1) := by decide +kernel
theorem d_76_42 : decode prog_5_method_24_code 42 = .ok (.aaload, 1) := by decide +kernel
theorem d_76_43 : decode prog_5_method_24_code 43 = .ok (.aload_n 1, 1) := by decide +kernel
theorem d_76_44 : decode prog_5_method_24_code 44 = .ok (.iload_n 3, 1) := by decide +kernel
theorem d_76_45 : decode prog_5_method_24_code 45 = .ok (.invokevirtual 169, 3) := by decide +kernel
theorem d_76_48 : decode prog_5_method_24_code 48 = .ok (.iinc 3 1, 3) := by decide +kernel
theorem d_76_51 : decode prog_5_method_24_code 51 = .ok (.goto (-27), 3) := by decide +kernel
theorem d_76_54 : decode prog_5_method_24_code 54 = .ok (.aload_n 1, 1) := by decide +kernel
theorem d_76_55 : decode prog_5_method_24_code 55 = .ok (.invokevirtual 173, 3) := by decide +kernel
theorem d_76_58 : decode prog_5_method_24_code 58 = .ok (.iinc 2 1, 3) := by decide +kernel
theorem d_76_61 : decode prog_5_method_24_code 61 = .ok (.goto (-59), 3) := by decide +kernel
theorem d_76_64 : decode prog_5_method_24_code 64 = .ok (.aload_n 0, 1) := by decide +kernel
theorem d_76_65 : decode prog_5_method_24_code 65 = .ok (.invokevirtual 112, 3) := by decide +kernel
theorem d_76_68 : decode prog_5_method_24_code 68 = .ok (.iconst 1, 1) := by decide +kernel
theorem d_76_69 : decode prog_5_method_24_code 69 = .ok (.if_icmp .le 7, 3) := by decide +kernel
theorem d_76_72 : decode prog_5_method_24_code 72 = .ok (.iconst 1, 1) := by decide +kernel
theorem d_76_73 : decode prog_5_method_24_code 73 = .ok (.goto 4, 3) := by decide +kernel
theorem d_76_76 : decode prog_5_method_24_code 76 = .ok (.iconst 0, 1) := by decide +kernel
theorem d_76_77 : decode prog_5_method_24_code 77 = .ok (.istore_n 2, 1) := by decide +kernel
theorem d_76_78 : decode prog_5_method_24_code 78 = .ok (.iconst 0, 1) := by decide +kernel
theorem d_76_79 : decode prog_5_method_24_code 79 = .ok (.istore_n 3, 1) := by decide +kernel
theorem d_76_80 : decode prog_5_method_24_code 80 = .ok (.iload_n 3, 1) := by decide +kernel
theorem d_76_81 : decode prog_5_method_24_code 81 = .ok (.aload_n 0, 1) := by decide +kernel
theorem d_76_82 : decode prog_5_method_24_code 82 = .ok (.getfield 9, 3) := by decide +kernel
theorem d_76_85 : decode prog_5_method_24_code 85 = .ok (.if_icmp .ge 16, 3) := by decide +kernel
theorem d_76_88 : decode prog_5_method_24_code 88 = .ok (.aload_n 0, 1) := by decide +kernel
theorem d_76_89 : decode prog_5_method_24_code 89 = .ok (.aload_n 1, 1) := by decide +kernel
theorem d_76_90 : decode prog_5_method_24_code 90 = .ok (.iload_n 3, 1) := by decide +kernel
theorem d_76_91 : decode prog_5_method_24_code 91 = .ok (.iload_n 2, 1) := by decide +kernel
theorem d_76_92 : decode prog_5_method_24_code 92 = .ok (.invokevirtual 176, 3) := by decide +kernel
theorem d_76_95 : decode prog_5_method_24_code 95 = .ok (.iinc 3 1, 3) := by decide +kernel
theorem d_76_98 : decode prog_5_method_24_code 98 = .ok (.goto (-18), 3) := by decide +kernel
theorem d_76_101 : decode prog_5_method_24_code 101 = .ok (.return_, 1) := by decide +kernel
theorem d_77_0 : decode prog_6_method_12_code 0 = .ok (.iconst 0, 1) := by decide +kernel
theorem d_77_1 : decode prog_6_method_12_code 1 = .ok (.istore_n 3, 1) := by decide +kernel
theorem d_77_2 : decode prog_6_method_12_code 2 = .ok (.iload_n 3, 1) := by decide +kernel
theorem d_77_3 : decode prog_6_method_12_code 3 = .ok (.aload_n 0, 1) := by decide +kernel
theorem d_77_4 : decode prog_6_method_12_code 4 = .ok (.getfield 28, 3) := by decide +kernel
theorem d_77_7 : decode prog_6_method_12_code 7 = .ok (.if_icmp .ge 27, 3) := by decide +kernel
theorem d_77_10 : decode prog_6_method_12_code 10 = .ok (.aload_n 1, 1) := by decide +kernel
theorem d_77_11 : decode prog_6_method_12_code 11 = .ok (.aload_n 0, 1) := by decide +kernel
theorem d_77_12 : decode prog_6_method_12_code 12 = .ok (.iload_n 2, 1) := by decide +kernel
theorem d_77_13 : decode prog_6_method_12_code 13 = .ok (.iload_n 3, 1) := by decide +kernel
theorem d_77_14 : decode prog_6_method_12_code 14 = .ok (.invokevirtual 80, 3) := by decide +kernel
theorem d_77_17 : decode prog_6_method_12_code 17 = .ok (.getstatic 64, 3) := by decide +kernel
theorem d_77_20 : decode prog_6_method_12_code 20 = .ok (.aload_n 0, 1) := by decide +kernel
theorem d_77_21 : decode prog_6_method_12_code 21 = .ok (.getfield 9, 3) := by decide +kernel
theorem d_77_24 : decode prog_6_method_12_code 24 = .ok (.iaload, 1) := by decide +kernel
theorem d_77_25 : decode prog_6_method_12_code 25 = .ok (.invokevirtual 84, 3) := by decide +kernel
theorem d_77_28 : decode prog_6_method_12_code 28 = .ok (.iinc 3 1, 3) := by decide +kernel
theorem d_77_31 : decode prog_6_method_12_code 31 = .ok (.goto (-29), 3) := by decide +kernel
theorem d_77_34 : decode prog_6_method_12_code 34 = .ok (.return_, 1) := by decide +kernel
theorem d_78_0 : decode prog_5_method_25_code 0 = .ok (.iconst 0, 1) := by decide +kernel
theorem d_78_1 : decode prog_5_method_25_code 1 = .ok (.istore 4, 2) := by decide +kernel
theorem d_78_3 : decode prog_5_method_25_code 3 = .ok (.iload 4, 2) := by decide +kernel
theorem d_78_5 : decode prog_5_method_25_code 5 = .ok (.aload_n 0, 1) := by decide +kernel
theorem d_78_6 : decode prog_5_method_25_code 6 = .ok (.getfield 25, 3) := by decide +kernel
theorem d_78_9 : decode prog_5_method_25_code 9 = .ok (.if_icmp .ge 42, 3) := by decide +kernel
theorem d_78_12 : decode prog_5_method_25_code 12 = .ok (.aload_n 0, 1) := by decide +kernel
theorem d_78_13 : decode prog_5_method_25_code 13 = .ok (.getfield 33, 3) := by decide +kernel
theorem d_78_16 : decode prog_5_method_25_code 16 = .ok (.iload 4, 2) := by decide +kernel
theorem d_78_18 : decode prog_5_method_25_code 18 = .ok (.aaload, 1) := by decide +kernel
theorem d_78_19 : decode prog_5_method_25_code 19 = .ok (.getfield 94, 3) := by decide +kernel
theorem d_78_22 : decode prog_5_method_25_code 22 = .ok (.ifCond .eq 23, 3) := by decide +kernel
theorem d_78_25 : decode prog_5_method_25_code 25 = .ok (.aload_n 0, 1) := by decide +kernel
theorem d_78_26 : decode prog_5_method_25_code 26 = .ok (.getfield 33, 3) := by decide +kernel
theorem d_78_29 : decode prog_5_method_25_code 29 = .ok (.iload 4, 2) := by decide +kernel
theorem d_78_31 : decode prog_5_method_25_code 31 = .ok (.aaload, 1) := by decide +kernel
theorem d_78_32 : decode prog_5_method_25_code 32 = .ok (.aload_n 1, 1) := by decide +kernel
theorem d_78_33 : decode prog_5_method_25_code 33 = .ok (.iload_n 2, 1) := by decide +kernel
theorem d_78_34 : decode prog_5_method_25_code 34 = .ok (.invokevirtual 169, 3) := by decide +kernel
theorem d_78_37 : decode prog_5_method_25_code 37 = .ok (.iload_n 3, 1) := by decide +kernel
theorem d_78_38 : decode prog_5_method_25_code 38 = .ok (.ifCond .eq 7, 3) := by decide +kernel
theorem d_78_41 : decode prog_5_method_25_code 41 = .ok (.aload_n 1, 1) := by decide +kernel
theorem d_78_42 : decode prog_5_method_25_code 42 = .ok (.invokevirtual 173, 3) := by decide +kernel
theorem d_78_45 : decode prog_5_method_25_code 45 = .ok (.iinc 4 1, 3) := by decide +kernel
theorem d_78_48 : decode prog_5_method_25_code 48 = .ok (.goto (-45), 3) := by decide +kernel
theorem d_78_51 : decode prog_5_method_25_code 51 = .ok (.return_, 1) := by decide +kernel
theorem d_79_0 : decode prog_3_method_9_code 0 = .ok (.iload_n 1, 1) := by decide +kernel
theorem d_79_1 : decode prog_3_method_9_code 1 = .ok (.ifCond .lt 24, 3) := by decide +kernel
theorem d_79_4 : decode prog_3_method_9_code 4 = .ok (.iload_n 1, 1) := by decide +kernel
theorem d_79_5 : decode prog_3_method_9_code 5 = .ok (.aload_n 0, 1) := by decide +kernel
theorem d_79_6 : decode prog_3_method_9_code 6 = .ok (.getfield 15, 3) := by decide +kernel
theorem d_79_9 : decode prog_3_method_9_code 9 = .ok (.if_icmp .ge 16, 3) := by decide +kernel
theorem d_79_12 : decode prog_3_method_9_code 12 = .ok (.aload_n 0, 1) := by decide +kernel
theorem d_79_13 : decode prog_3_method_9_code 13 = .ok (.getfield 9, 3) := by decide +kernel
theorem d_79_16 : decode prog_3_method_9_code 16 = .ok (.iload_n 1, 1) := by decide +kernel
theorem d_79_17 : decode prog_3_method_9_code 17 = .ok (.baload, 1) := by decide +kernel
theorem d_79_18 : decode prog_3_method_9_code 18 = .ok (.sipush 255, 3) := by decide +kernel
theorem d_79_21 : decode prog_3_method_9_code 21 = .ok (.iand, 1) := by decide +kernel
theorem d_79_22 : decode prog_3_method_9_code 22 = .ok (.goto 4, 3) := by decide +kernel
theorem d_79_25 : decode prog_3_method_9_code 25 = .ok (.iconst 0, 1) := by decide +kernel
theorem d_79_26 : decode prog_3_method_9_code 26 = .ok (.ireturn, 1) := by decide +kernel
theorem d_80_0 : decode prog_1_method_18_code 0 = .ok (.iload_n 3, 1) := by decide +kernel
theorem d_80_1 : decode prog_1_method_18_code 1 = .ok (.iconst 1, 1) := by decide +kernel
theorem d_80_2 : decode prog_1_method_18_code 2 = .ok (.if_icmp .lt 24, 3) := by decide +kernel
theorem d_80_5 : decode prog_1_method_18_code 5 = .ok (.iload_n 3, 1) := by decide +kernel
theorem d_80_6 : decode prog_1_method_18_code 6 = .ok (.bipush 8, 2) := by decide +kernel
theorem d_80_8 : decode prog_1_method_18_code 8 = .ok (.if_icmp .gt 18, 3) := by decide +kernel
theorem d_80_11 : decode prog_1_method_18_code 11 = .ok (.aload_n 0, 1) := by decide +kernel
theorem d_80_12 : decode prog_1_method_18_code 12 = .ok (.getfield 39, 3) := by decide +kernel
theorem d_80_15 : decode prog_1_method_18_code 15 = .ok (.getfield 153, 3) := by decide +kernel
theorem d_80_18 : decode prog_1_method_18_code 18 = .ok (.iload_n 3, 1) := by decide +kernel
theorem d_80_19 : decode prog_1_method_18_code 19 = .ok (.iadd, 1) := by decide +kernel
theorem d_80_20 : decode prog_1_method_18_code 20 = .ok (.sipush 800, 3) := by decide +kernel
theorem d_80_23 : decode prog_1_method_18_code 23 = .ok (.if_icmp .le 5, 3) := by decide +kernel
theorem d_80_26 : decode prog_1_method_18_code 26 = .ok (.iconst 0, 1) := by decide +kernel
theorem d_80_27 : decode prog_1_method_18_code 27 = .ok (.ireturn, 1) := by decide +kernel
theorem d_80_28 : decode prog_1_method_18_code 28 = .ok (.iconst 0, 1) := by decide +kernel
theorem d_80_29 : decode prog_1_method_18_code 29 = .ok (.istore 4, 2) := by decide +kernel
theorem d_80_31 : decode prog_1_method_18_code 31 = .ok (.iload 4, 2) := by decide +kernel
theorem d_80_33 : decode prog_1_method_18_code 33 = .ok (.iload_n 3, 1) := by decide +kernel
theorem d_80_34 : decode prog_1_method_18_code 34 = .ok (.if_icmp .ge 27, 3) := by decide +kernel
theorem d_80_37 : decode prog_1_method_18_code 37 = .ok (.aload_n 0, 1) := by decide +kernel
theorem d_80_38 : decode prog_1_method_18_code 38 = .ok (.getfield 39, 3) := by decide +kernel
theorem d_80_41 : decode prog_1_method_18_code 41 = .ok (.lload_n 1, 1) := by decide +kernel
theorem d_80_42 : decode prog_1_method_18_code 42 = .ok (.bipush 56, 2) := by decide +kernel
theorem d_80_44 : decode prog_1_method_18_code 44 = .ok (.bipush 8, 2) := by decide +kernel
theorem d_80_46 : decode prog_1_method_18_code 46 = .ok (.iload 4, 2) := by decide +kernel
theorem d_80_48 : decode prog_1_method_18_code 48 = .ok (.imul, 1) := by decide +kernel
theorem d_80_49 : decode prog_1_method_18_code 49 = .ok (.isub, 1) := by decide +kernel
theorem d_80_50 : decode prog_1_method_18_code 50 = .ok (.lushr, 1) := by decide +kernel
theorem d_80_51 : decode prog_1_method_18_code 51 = .ok (.l2i, 1) := by decide +kernel
theorem d_80_52 : decode prog_1_method_18_code 52 = .ok (.invokevirtual 156, 3) := by decide +kernel
theorem d_80_55 : decode prog_1_method_18_code 55 = .ok (.iinc 4 1, 3) := by decide +kernel
theorem d_80_58 : decode prog_1_method_18_code 58 = .ok (.goto (-27), 3) := by decide +kernel
theorem d_80_61 : decode prog_1_method_18_code 61 = .ok (.iconst 1, 1) := by decide +kernel
theorem d_80_62 : decode prog_1_method_18_code 62 = .ok (.ireturn, 1) := by decide +kernel
theorem d_81_0 : decode prog_1_method_19_code 0 = .ok (.aload_n 0, 1) := by decide +kernel
theorem d_81_1 : decode prog_1_method_19_code 1 = .ok (.getfield 39, 3) := by decide +kernel
theorem d_81_4 : decode prog_1_method_19_code 4 = .ok (.invokevirtual 160, 3) := by decide +kernel
theorem d_81_7 : decode prog_1_method_19_code 7 = .ok (.return_, 1) := by decide +kernel
theorem d_82_0 : decode prog_1_method_20_code 0 = .ok (.aload_n 0, 1) := by decide +kernel
theorem d_82_1 : decode prog_1_method_20_code 1 = .ok (.getfield 16, 3) := by decide +kernel
theorem d_82_4 : decode prog_1_method_20_code 4 = .ok (.invokevirtual 163, 3) := by decide +kernel
theorem d_82_7 : decode prog_1_method_20_code 7 = .ok (.aload_n 0, 1) := by decide +kernel
theorem d_82_8 : decode prog_1_method_20_code 8 = .ok (.getfield 16, 3) := by decide +kernel
theorem d_82_11 : decode prog_1_method_20_code 11 = .ok (.aload_n 0, 1) := by decide +kernel
theorem d_82_12 : decode prog_1_method_20_code 12 = .ok (.getfield 39, 3) := by decide +kernel
theorem d_82_15 : decode prog_1_method_20_code 15 = .ok (.invokevirtual 164, 3) := by decide +kernel
theorem d_82_18 : decode prog_1_method_20_code 18 = .ok (.ifCond .ne 6, 3) := by decide +kernel
theorem d_82_21 : decode prog_1_method_20_code 21 = .ok (.bipush (-9), 2) := by decide +kernel
theorem d_82_23 : decode prog_1_method_20_code 23 = .ok (.ireturn, 1) := by decide +kernel
theorem d_82_24 : decode prog_1_method_20_code 24 = .ok (.aload_n 0, 1) := by decide +kernel
theorem d_82_25 : decode prog_1_method_20_code 25 = .ok (.getfield 16, 3) := by decide +kernel
theorem d_82_28 : decode prog_1_method_20_code 28 = .ok (.aload_n 0, 1) := by decide +kernel
theorem d_82_29 : decode prog_1_method_20_code 29 = .ok (.getfield 43, 3) := by decide +kernel
theorem d_82_32 : decode prog_1_method_20_code 32 = .ok (.invokevirtual 148, 3) := by decide +kernel
theorem d_82_35 : decode prog_1_method_20_code 35 = .ok (.aload_n 0, 1) := by decide +kernel
theorem d_82_36 : decode prog_1_method_20_code 36 = .ok (.getfield 43, 3) := by decide +kernel
theorem d_82_39 : decode prog_1_method_20_code 39 = .ok (.aload_n 0, 1) := by decide +kernel
theorem d_82_40 : decode prog_1_method_20_code 40 = .ok (.getfield 39, 3) := by decide +kernel
theorem d_82_43 : decode prog_1_method_20_code 43 = .ok (.invokevirtual 168, 3) := by decide +kernel
theorem d_82_46 : decode prog_1_method_20_code 46 = .ok (.ifCond .ne 6, 3) := by decide +kernel
theorem d_82_49 : decode prog_1_method_20_code 49 = .ok (.bipush (-9), 2) := by decide +kernel
theorem d_82_51 : decode prog_1_method_20_code 51 = .ok (.ireturn, 1) := by decide +kernel
theorem d_82_52 : decode prog_1_method_20_code 52 = .ok (.aload_n 0, 1) := by decide +kernel
theorem d_82_53 : decode prog_1_method_20_code 53 = .ok (.getfield 10, 3) := by decide +kernel
theorem d_82_56 : decode prog_1_method_20_code 56 = .ok (.astore_n 1, 1) := by decide +kernel
theorem d_82_57 : decode prog_1_method_20_code 57 = .ok (.aload_n 0, 1) := by decide +kernel
theorem d_82_58 : decode prog_1_method_20_code 58 = .ok (.aload_n 0, 1) := by decide +kernel
theorem d_82_59 : decode prog_1_method_20_code 59 = .ok (.getfield 16, 3) := by decide +kernel
theorem d_82_62 : decode prog_1_method_20_code 62 = .ok (.putfield 10, 3) := by decide +kernel
theorem d_82_65 : decode prog_1_method_20_code 65 = .ok (.aload_n 0, 1) := by decide +kernel
theorem d_82_66 : decode prog_1_method_20_code 66 = .ok (.aload_n 1, 1) := by decide +kernel
theorem d_82_67 : decode prog_1_method_20_code 67 = .ok (.putfield 16, 3) := by decide +kernel
theorem d_82_70 : decode prog_1_method_20_code 70 = .ok (.aload_n 0, 1) := by decide +kernel
theorem d_82_71 : decode prog_1_method_20_code 71 = .ok (.iconst 0, 1) := by decide +kernel
theorem d_82_72 : decode prog_1_method_20_code 72 = .ok (.putfield 19, 3) := by decide +kernel
theorem d_82_75 : decode prog_1_method_20_code 75 = .ok (.aload_n 0, 1) := by decide +kernel
theorem d_82_76 : decode prog_1_method_20_code 76 = .ok (.getfield 39, 3) := by decide +kernel
theorem d_82_79 : decode prog_1_method_20_code 79 = .ok (.getfield 153, 3) := by decide +kernel
theorem d_82_82 : decode prog_1_method_20_code 82 = .ok (.ireturn, 1) := by decide +kernel
theorem d_83_0 : decode prog_5_method_2_code 0 = .ok (.aload_n 0, 1) := by decide +kernel
theorem d_83_1 : decode prog_5_method_2_code 1 = .ok (.iconst 0, 1) := by decide +kernel
theorem d_83_2 : decode prog_5_method_2_code 2 = .ok (.putfield 9, 3) := by decide +kernel
