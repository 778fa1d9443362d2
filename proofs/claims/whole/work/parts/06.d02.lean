theorem d_83_5 : decode prog_5_method_2_code 5 = .ok (.aload_n 0, 1) := by decide +kernel
theorem d_83_6 : decode prog_5_method_2_code 6 = .ok (.iconst 0, 1) := by decide +kernel
theorem d_83_7 : decode prog_5_method_2_code 7 = .ok (.putfield 15, 3) := by decide +kernel
theorem d_83_10 : decode prog_5_method_2_code 10 = .ok (.aload_n 0, 1) := by decide +kernel
theorem d_83_11 : decode prog_5_method_2_code 11 = .ok (.iconst 0, 1) := by decide +kernel
theorem d_83_12 : decode prog_5_method_2_code 12 = .ok (.putfield 25, 3) := by decide +kernel
theorem d_83_15 : decode prog_5_method_2_code 15 = .ok (.aload_n 0, 1) := by decide +kernel
theorem d_83_16 : decode prog_5_method_2_code 16 = .ok (.getfield 41, 3) := by decide +kernel
theorem d_83_19 : decode prog_5_method_2_code 19 = .ok (.invokevirtual 45, 3) := by decide +kernel
theorem d_83_22 : decode prog_5_method_2_code 22 = .ok (.iconst 0, 1) := by decide +kernel
theorem d_83_23 : decode prog_5_method_2_code 23 = .ok (.istore_n 1, 1) := by decide +kernel
theorem d_83_24 : decode prog_5_method_2_code 24 = .ok (.iload_n 1, 1) := by decide +kernel
theorem d_83_25 : decode prog_5_method_2_code 25 = .ok (.iconst 5, 1) := by decide +kernel
theorem d_83_26 : decode prog_5_method_2_code 26 = .ok (.if_icmp .ge 21, 3) := by decide +kernel
theorem d_83_29 : decode prog_5_method_2_code 29 = .ok (.aload_n 0, 1) := by decide +kernel
theorem d_83_30 : decode prog_5_method_2_code 30 = .ok (.getfield 33, 3) := by decide +kernel
theorem d_83_33 : decode prog_5_method_2_code 33 = .ok (.iload_n 1, 1) := by decide +kernel
theorem d_83_34 : decode prog_5_method_2_code 34 = .ok (.aaload, 1) := by decide +kernel
theorem d_83_35 : decode prog_5_method_2_code 35 = .ok (.getfield 48, 3) := by decide +kernel
theorem d_83_38 : decode prog_5_method_2_code 38 = .ok (.invokevirtual 45, 3) := by decide +kernel
theorem d_83_41 : decode prog_5_method_2_code 41 = .ok (.iinc 1 1, 3) := by decide +kernel
theorem d_83_44 : decode prog_5_method_2_code 44 = .ok (.goto (-20), 3) := by decide +kernel
theorem d_83_47 : decode prog_5_method_2_code 47 = .ok (.return_, 1) := by decide +kernel
theorem d_84_0 : decode prog_2_method_2_code 0 = .ok (.aload_n 0, 1) := by decide +kernel
theorem d_84_1 : decode prog_2_method_2_code 1 = .ok (.iconst 0, 1) := by decide +kernel
theorem d_84_2 : decode prog_2_method_2_code 2 = .ok (.putfield 9, 3) := by decide +kernel
theorem d_84_5 : decode prog_2_method_2_code 5 = .ok (.return_, 1) := by decide +kernel
theorem d_85_0 : decode prog_5_method_26_code 0 = .ok (.aload_n 1, 1) := by decide +kernel
theorem d_85_1 : decode prog_5_method_26_code 1 = .ok (.invokevirtual 180, 3) := by decide +kernel
theorem d_85_4 : decode prog_5_method_26_code 4 = .ok (.aload_n 1, 1) := by decide +kernel
theorem d_85_5 : decode prog_5_method_26_code 5 = .ok (.invokevirtual 183, 3) := by decide +kernel
theorem d_85_8 : decode prog_5_method_26_code 8 = .ok (.pop, 1) := by decide +kernel
theorem d_85_9 : decode prog_5_method_26_code 9 = .ok (.aload_n 1, 1) := by decide +kernel
theorem d_85_10 : decode prog_5_method_26_code 10 = .ok (.invokevirtual 183, 3) := by decide +kernel
theorem d_85_13 : decode prog_5_method_26_code 13 = .ok (.istore_n 2, 1) := by decide +kernel
theorem d_85_14 : decode prog_5_method_26_code 14 = .ok (.aload_n 0, 1) := by decide +kernel
theorem d_85_15 : decode prog_5_method_26_code 15 = .ok (.aload_n 1, 1) := by decide +kernel
theorem d_85_16 : decode prog_5_method_26_code 16 = .ok (.invokevirtual 186, 3) := by decide +kernel
theorem d_85_19 : decode prog_5_method_26_code 19 = .ok (.ifCond .eq 22, 3) := by decide +kernel
theorem d_85_22 : decode prog_5_method_26_code 22 = .ok (.aload_n 0, 1) := by decide +kernel
theorem d_85_23 : decode prog_5_method_26_code 23 = .ok (.getfield 41, 3) := by decide +kernel
theorem d_85_26 : decode prog_5_method_26_code 26 = .ok (.aload_n 1, 1) := by decide +kernel
theorem d_85_27 : decode prog_5_method_26_code 27 = .ok (.invokevirtual 190, 3) := by decide +kernel
theorem d_85_30 : decode prog_5_method_26_code 30 = .ok (.ifCond .eq 11, 3) := by decide +kernel
theorem d_85_33 : decode prog_5_method_26_code 33 = .ok (.aload_n 0, 1) := by decide +kernel
theorem d_85_34 : decode prog_5_method_26_code 34 = .ok (.aload_n 1, 1) := by decide +kernel
theorem d_85_35 : decode prog_5_method_26_code 35 = .ok (.invokevirtual 193, 3) := by decide +kernel
theorem d_85_38 : decode prog_5_method_26_code 38 = .ok (.ifCond .ne 5, 3) := by decide +kernel
theorem d_85_41 : decode prog_5_method_26_code 41 = .ok (.iconst 0, 1) := by decide +kernel
theorem d_85_42 : decode prog_5_method_26_code 42 = .ok (.ireturn, 1) := by decide +kernel
theorem d_85_43 : decode prog_5_method_26_code 43 = .ok (.iload_n 2, 1) := by decide +kernel
theorem d_85_44 : decode prog_5_method_26_code 44 = .ok (.ifCond .lt 14, 3) := by decide +kernel
theorem d_85_47 : decode prog_5_method_26_code 47 = .ok (.iload_n 2, 1) := by decide +kernel
theorem d_85_48 : decode prog_5_method_26_code 48 = .ok (.ifCond .le 12, 3) := by decide +kernel
theorem d_85_51 : decode prog_5_method_26_code 51 = .ok (.aload_n 0, 1) := by decide +kernel
theorem d_85_52 : decode prog_5_method_26_code 52 = .ok (.invokevirtual 112, 3) := by decide +kernel
theorem d_85_55 : decode prog_5_method_26_code 55 = .ok (.ifCond .ne 5, 3) := by decide +kernel
theorem d_85_58 : decode prog_5_method_26_code 58 = .ok (.iconst 0, 1) := by decide +kernel
theorem d_85_59 : decode prog_5_method_26_code 59 = .ok (.ireturn, 1) := by decide +kernel
theorem d_85_60 : decode prog_5_method_26_code 60 = .ok (.aload_n 0, 1) := by decide +kernel
theorem d_85_61 : decode prog_5_method_26_code 61 = .ok (.iload_n 2, 1) := by decide +kernel
theorem d_85_62 : decode prog_5_method_26_code 62 = .ok (.i2l, 1) := by decide +kernel
theorem d_85_63 : decode prog_5_method_26_code 63 = .ok (.invokevirtual 98, 3) := by decide +kernel
theorem d_85_66 : decode prog_5_method_26_code 66 = .ok (.aload_n 1, 1) := by decide +kernel
theorem d_85_67 : decode prog_5_method_26_code 67 = .ok (.getfield 196, 3) := by decide +kernel
theorem d_85_70 : decode prog_5_method_26_code 70 = .ok (.i2l, 1) := by decide +kernel
theorem d_85_71 : decode prog_5_method_26_code 71 = .ok (.lcmp, 1) := by decide +kernel
theorem d_85_72 : decode prog_5_method_26_code 72 = .ok (.ifCond .eq 5, 3) := by decide +kernel
theorem d_85_75 : decode prog_5_method_26_code 75 = .ok (.iconst 0, 1) := by decide +kernel
theorem d_85_76 : decode prog_5_method_26_code 76 = .ok (.ireturn, 1) := by decide +kernel
theorem d_85_77 : decode prog_5_method_26_code 77 = .ok (.aload_n 0, 1) := by decide +kernel
theorem d_85_78 : decode prog_5_method_26_code 78 = .ok (.iload_n 2, 1) := by decide +kernel
theorem d_85_79 : decode prog_5_method_26_code 79 = .ok (.putfield 9, 3) := by decide +kernel
theorem d_85_82 : decode prog_5_method_26_code 82 = .ok (.aload_n 0, 1) := by decide +kernel
theorem d_85_83 : decode prog_5_method_26_code 83 = .ok (.aload_n 1, 1) := by decide +kernel
theorem d_85_84 : decode prog_5_method_26_code 84 = .ok (.invokevirtual 199, 3) := by decide +kernel
theorem d_85_87 : decode prog_5_method_26_code 87 = .ok (.iconst 1, 1) := by decide +kernel
theorem d_85_88 : decode prog_5_method_26_code 88 = .ok (.ireturn, 1) := by decide +kernel
theorem d_86_0 : decode prog_3_method_10_code 0 = .ok (.aload_n 0, 1) := by decide +kernel
theorem d_86_1 : decode prog_3_method_10_code 1 = .ok (.iconst 0, 1) := by decide +kernel
theorem d_86_2 : decode prog_3_method_10_code 2 = .ok (.putfield 19, 3) := by decide +kernel
theorem d_86_5 : decode prog_3_method_10_code 5 = .ok (.return_, 1) := by decide +kernel
theorem d_87_0 : decode prog_3_method_12_code 0 = .ok (.aload_n 0, 1) := by decide +kernel
theorem d_87_1 : decode prog_3_method_12_code 1 = .ok (.iconst 4, 1) := by decide +kernel
theorem d_87_2 : decode prog_3_method_12_code 2 = .ok (.invokevirtual 34, 3) := by decide +kernel
theorem d_87_5 : decode prog_3_method_12_code 5 = .ok (.ireturn, 1) := by decide +kernel
theorem d_88_0 : decode prog_3_method_11_code 0 = .ok (.iconst 0, 1) := by decide +kernel
theorem d_88_1 : decode prog_3_method_11_code 1 = .ok (.istore_n 2, 1) := by decide +kernel
theorem d_88_2 : decode prog_3_method_11_code 2 = .ok (.iconst 0, 1) := by decide +kernel
theorem d_88_3 : decode prog_3_method_11_code 3 = .ok (.istore_n 3, 1) := by decide +kernel
theorem d_88_4 : decode prog_3_method_11_code 4 = .ok (.iload_n 3, 1) := by decide +kernel
theorem d_88_5 : decode prog_3_method_11_code 5 = .ok (.iload_n 1, 1) := by decide +kernel
theorem d_88_6 : decode prog_3_method_11_code 6 = .ok (.if_icmp .ge 53, 3) := by decide +kernel
theorem d_88_9 : decode prog_3_method_11_code 9 = .ok (.iload_n 2, 1) := by decide +kernel
theorem d_88_10 : decode prog_3_method_11_code 10 = .ok (.bipush 8, 2) := by decide +kernel
theorem d_88_12 : decode prog_3_method_11_code 12 = .ok (.ishl, 1) := by decide +kernel
theorem d_88_13 : decode prog_3_method_11_code 13 = .ok (.aload_n 0, 1) := by decide +kernel
theorem d_88_14 : decode prog_3_method_11_code 14 = .ok (.getfield 19, 3) := by decide +kernel
theorem d_88_17 : decode prog_3_method_11_code 17 = .ok (.aload_n 0, 1) := by decide +kernel
theorem d_88_18 : decode prog_3_method_11_code 18 = .ok (.getfield 15, 3) := by decide +kernel
theorem d_88_21 : decode prog_3_method_11_code 21 = .ok (.if_icmp .ge 19, 3) := by decide +kernel
theorem d_88_24 : decode prog_3_method_11_code 24 = .ok (.aload_n 0, 1) := by decide +kernel
theorem d_88_25 : decode prog_3_method_11_code 25 = .ok (.getfield 9, 3) := by decide +kernel
theorem d_88_28 : decode prog_3_method_11_code 28 = .ok (.aload_n 0, 1) := by decide +kernel
theorem d_88_29 : decode prog_3_method_11_code 29 = .ok (.getfield 19, 3) := by decide +kernel
theorem d_88_32 : decode prog_3_method_11_code 32 = .ok (.baload, 1) := by decide +kernel
theorem d_88_33 : decode prog_3_method_11_code 33 = .ok (.sipush 255, 3) := by decide +kernel
theorem d_88_36 : decode prog_3_method_11_code 36 = .ok (.iand, 1) := by decide +kernel
theorem d_88_37 : decode prog_3_method_11_code 37 = .ok (.goto 4, 3) := by decide +kernel
theorem d_88_40 : decode prog_3_method_11_code 40 = .ok (.iconst 0, 1) := by decide +kernel
theorem d_88_41 : decode prog_3_method_11_code 41 = .ok (.ior, 1) := by decide +kernel
theorem d_88_42 : decode prog_3_method_11_code 42 = .ok (.istore_n 2, 1) := by decide +kernel
theorem d_88_43 : decode prog_3_method_11_code 43 = .ok (.aload_n 0, 1) := by decide +kernel
theorem d_88_44 : decode prog_3_method_11_code 44 = .ok (.dup, 1) := by decide +kernel
theorem d_88_45 : decode prog_3_method_11_code 45 = .ok (.getfield 19, 3) := by decide +kernel
theorem d_88_48 : decode prog_3_method_11_code 48 = .ok (.iconst 1, 1) := by decide +kernel
theorem d_88_49 : decode prog_3_method_11_code 49 = .ok (.iadd, 1) := by decide +kernel
theorem d_88_50 : decode prog_3_method_11_code 50 = .ok (.putfield 19, 3) := by decide +kernel
theorem d_88_53 : decode prog_3_method_11_code 53 = .ok (.iinc 3 1, 3) := by decide +kernel
theorem d_88_56 : decode prog_3_method_11_code 56 = .ok (.goto (-52), 3) := by decide +kernel
theorem d_88_59 : decode prog_3_method_11_code 59 = .ok (.iload_n 2, 1) := by decide +kernel
theorem d_88_60 : decode prog_3_method_11_code 60 = .ok (.ireturn, 1) := by decide +kernel
theorem d_89_0 : decode prog_5_method_27_code 0 = .ok (.aload_n 1, 1) := by decide +kernel
theorem d_89_1 : decode prog_5_method_27_code 1 = .ok (.invokevirtual 202, 3) := by decide +kernel
theorem d_89_4 : decode prog_5_method_27_code 4 = .ok (.istore_n 2, 1) := by decide +kernel
theorem d_89_5 : decode prog_5_method_27_code 5 = .ok (.iload_n 2, 1) := by decide +kernel
theorem d_89_6 : decode prog_5_method_27_code 6 = .ok (.ifCond .lt 8, 3) := by decide +kernel
theorem d_89_9 : decode prog_5_method_27_code 9 = .ok (.iload_n 2, 1) := by decide +kernel
theorem d_89_10 : decode prog_5_method_27_code 10 = .ok (.iconst 4, 1) := by decide +kernel
theorem d_89_11 : decode prog_5_method_27_code 11 = .ok (.if_icmp .le 5, 3) := by decide +kernel
theorem d_89_14 : decode prog_5_method_27_code 14 = .ok (.iconst 0, 1) := by decide +kernel
theorem d_89_15 : decode prog_5_method_27_code 15 = .ok (.ireturn, 1) := by decide +kernel
theorem d_89_16 : decode prog_5_method_27_code 16 = .ok (.iconst 0, 1) := by decide +kernel
theorem d_89_17 : decode prog_5_method_27_code 17 = .ok (.istore_n 3, 1) := by decide +kernel
theorem d_89_18 : decode prog_5_method_27_code 18 = .ok (.iload_n 3, 1) := by decide +kernel
theorem d_89_19 : decode prog_5_method_27_code 19 = .ok (.iload_n 2, 1) := by decide +kernel
theorem d_89_20 : decode prog_5_method_27_code 20 = .ok (.if_icmp .ge 34, 3) := by decide +kernel
theorem d_89_23 : decode prog_5_method_27_code 23 = .ok (.aload_n 1, 1) := by decide +kernel
theorem d_89_24 : decode prog_5_method_27_code 24 = .ok (.invokevirtual 205, 3) := by decide +kernel
theorem d_89_27 : decode prog_5_method_27_code 27 = .ok (.istore 4, 2) := by decide +kernel
theorem d_89_29 : decode prog_5_method_27_code 29 = .ok (.aload_n 1, 1) := by decide +kernel
theorem d_89_30 : decode prog_5_method_27_code 30 = .ok (.invokevirtual 183, 3) := by decide +kernel
theorem d_89_33 : decode prog_5_method_27_code 33 = .ok (.istore 5, 2) := by decide +kernel
theorem d_89_35 : decode prog_5_method_27_code 35 = .ok (.aload_n 0, 1) := by decide +kernel
theorem d_89_36 : decode prog_5_method_27_code 36 = .ok (.iload 4, 2) := by decide +kernel
theorem d_89_38 : decode prog_5_method_27_code 38 = .ok (.iload 5, 2) := by decide +kernel
theorem d_89_40 : decode prog_5_method_27_code 40 = .ok (.invokevirtual 208, 3) := by decide +kernel
theorem d_89_43 : decode prog_5_method_27_code 43 = .ok (.ifCond .ge 5, 3) := by decide +kernel
theorem d_89_46 : decode prog_5_method_27_code 46 = .ok (.iconst 0, 1) := by decide +kernel
theorem d_89_47 : decode prog_5_method_27_code 47 = .ok (.ireturn, 1) := by decide +kernel
theorem d_89_48 : decode prog_5_method_27_code 48 = .ok (.iinc 3 1, 3) := by decide +kernel
theorem d_89_51 : decode prog_5_method_27_code 51 = .ok (.goto (-33), 3) := by decide +kernel
theorem d_89_54 : decode prog_5_method_27_code 54 = .ok (.iconst 1, 1) := by decide +kernel
theorem d_89_55 : decode prog_5_method_27_code 55 = .ok (.ireturn, 1) := by decide +kernel
theorem d_90_0 : decode prog_3_method_14_code 0 = .ok (.aload_n 0, 1) := by decide +kernel
theorem d_90_1 : decode prog_3_method_14_code 1 = .ok (.iconst 4, 1) := by decide +kernel
theorem d_90_2 : decode prog_3_method_14_code 2 = .ok (.invokevirtual 34, 3) := by decide +kernel
theorem d_90_5 : decode prog_3_method_14_code 5 = .ok (.pop, 1) := by decide +kernel
theorem d_90_6 : decode prog_3_method_14_code 6 = .ok (.aload_n 0, 1) := by decide +kernel
theorem d_90_7 : decode prog_3_method_14_code 7 = .ok (.iconst 4, 1) := by decide +kernel
theorem d_90_8 : decode prog_3_method_14_code 8 = .ok (.invokevirtual 34, 3) := by decide +kernel
theorem d_90_11 : decode prog_3_method_14_code 11 = .ok (.ireturn, 1) := by decide +kernel
theorem d_91_0 : decode prog_3_method_13_code 0 = .ok (.aload_n 0, 1) := by decide +kernel
theorem d_91_1 : decode prog_3_method_13_code 1 = .ok (.iconst 4, 1) := by decide +kernel
theorem d_91_2 : decode prog_3_method_13_code 2 = .ok (.invokevirtual 34, 3) := by decide +kernel
theorem d_91_5 : decode prog_3_method_13_code 5 = .ok (.pop, 1) := by decide +kernel
theorem d_91_6 : decode prog_3_method_13_code 6 = .ok (.aload_n 0, 1) := by decide +kernel
theorem d_91_7 : decode prog_3_method_13_code 7 = .ok (.iconst 4, 1) := by decide +kernel
theorem d_91_8 : decode prog_3_method_13_code 8 = .ok (.invokevirtual 34, 3) := by decide +kernel
theorem d_91_11 : decode prog_3_method_13_code 11 = .ok (.bipush 24, 2) := by decide +kernel
theorem d_91_13 : decode prog_3_method_13_code 13 = .ok (.iushr, 1) := by decide +kernel
theorem d_91_14 : decode prog_3_method_13_code 14 = .ok (.ireturn, 1) := by decide +kernel
theorem d_92_0 : decode prog_2_method_7_code 0 = .ok (.aload_n 1, 1) := by decide +kernel
theorem d_92_1 : decode prog_2_method_7_code 1 = .ok (.invokevirtual 69, 3) := by decide +kernel
theorem d_92_4 : decode prog_2_method_7_code 4 = .ok (.istore_n 2, 1) := by decide +kernel
theorem d_92_5 : decode prog_2_method_7_code 5 = .ok (.iload_n 2, 1) := by decide +kernel
theorem d_92_6 : decode prog_2_method_7_code 6 = .ok (.ifCond .lt 8, 3) := by decide +kernel
theorem d_92_9 : decode prog_2_method_7_code 9 = .ok (.iload_n 2, 1) := by decide +kernel
theorem d_92_10 : decode prog_2_method_7_code 10 = .ok (.iconst 3, 1) := by decide +kernel
theorem d_92_11 : decode prog_2_method_7_code 11 = .ok (.if_icmp .le 5, 3) := by decide +kernel
theorem d_92_14 : decode prog_2_method_7_code 14 = .ok (.iconst 0, 1) := by decide +kernel
theorem d_92_15 : decode prog_2_method_7_code 15 = .ok (.ireturn, 1) := by decide +kernel
theorem d_92_16 : decode prog_2_method_7_code 16 = .ok (.iconst 0, 1) := by decide +kernel
theorem d_92_17 : decode prog_2_method_7_code 17 = .ok (.istore_n 3, 1) := by decide +kernel
theorem d_92_18 : decode prog_2_method_7_code 18 = .ok (.iload_n 3, 1) := by decide +kernel
theorem d_92_19 : decode prog_2_method_7_code 19 = .ok (.iload_n 2, 1) := by decide +kernel
theorem d_92_20 : decode prog_2_method_7_code 20 = .ok (.if_icmp .ge 73, 3) := by decide +kernel
theorem d_92_23 : decode prog_2_method_7_code 23 = .ok (.aload_n 1, 1) := by decide +kernel
theorem d_92_24 : decode prog_2_method_7_code 24 = .ok (.invokevirtual 73, 3) := by decide +kernel
theorem d_92_27 : decode prog_2_method_7_code 27 = .ok (.istore 4, 2) := by decide +kernel
theorem d_92_29 : decode prog_2_method_7_code 29 = .ok (.aload_n 1, 1) := by decide +kernel
theorem d_92_30 : decode prog_2_method_7_code 30 = .ok (.invokevirtual 76, 3) := by decide +kernel
theorem d_92_33 : decode prog_2_method_7_code 33 = .ok (.istore 5, 2) := by decide +kernel
theorem d_92_35 : decode prog_2_method_7_code 35 = .ok (.aload_n 1, 1) := by decide +kernel
theorem d_92_36 : decode prog_2_method_7_code 36 = .ok (.invokevirtual 76, 3) := by decide +kernel
theorem d_92_39 : decode prog_2_method_7_code 39 = .ok (.pop, 1) := by decide +kernel
theorem d_92_40 : decode prog_2_method_7_code 40 = .ok (.iload 5, 2) := by decide +kernel
theorem d_92_42 : decode prog_2_method_7_code 42 = .ok (.invokestatic 32, 3) := by decide +kernel
theorem d_92_45 : decode prog_2_method_7_code 45 = .ok (.ifCond .ne 5, 3) := by decide +kernel
theorem d_92_48 : decode prog_2_method_7_code 48 = .ok (.iconst 0, 1) := by decide +kernel
theorem d_92_49 : decode prog_2_method_7_code 49 = .ok (.ireturn, 1) := by decide +kernel
theorem d_92_50 : decode prog_2_method_7_code 50 = .ok (.aload_n 1, 1) := by decide +kernel
theorem d_92_51 : decode prog_2_method_7_code 51 = .ok (.iload 5, 2) := by decide +kernel
theorem d_92_53 : decode prog_2_method_7_code 53 = .ok (.invokevirtual 79, 3) := by decide +kernel
theorem d_92_56 : decode prog_2_method_7_code 56 = .ok (.istore 6, 2) := by decide +kernel
theorem d_92_58 : decode prog_2_method_7_code 58 = .ok (.aload_n 1, 1) := by decide +kernel
theorem d_92_59 : decode prog_2_method_7_code 59 = .ok (.iload 5, 2) := by decide +kernel
theorem d_92_61 : decode prog_2_method_7_code 61 = .ok (.invokevirtual 79, 3) := by decide +kernel
theorem d_92_64 : decode prog_2_method_7_code 64 = .ok (.istore 7, 2) := by decide +kernel
theorem d_92_66 : decode prog_2_method_7_code 66 = .ok (.aload_n 1, 1) := by decide +kernel
theorem d_92_67 : decode prog_2_method_7_code 67 = .ok (.invokevirtual 82, 3) := by decide +kernel
theorem d_92_70 : decode prog_2_method_7_code 70 = .ok (.aload_n 0, 1) := by decide +kernel
theorem d_92_71 : decode prog_2_method_7_code 71 = .ok (.iload 4, 2) := by decide +kernel
theorem d_92_73 : decode prog_2_method_7_code 73 = .ok (.iload 5, 2) := by decide +kernel
theorem d_92_75 : decode prog_2_method_7_code 75 = .ok (.iload 6, 2) := by decide +kernel
theorem d_92_77 : decode prog_2_method_7_code 77 = .ok (.iload 7, 2) := by decide +kernel
theorem d_92_79 : decode prog_2_method_7_code 79 = .ok (.invokevirtual 85, 3) := by decide +kernel
theorem d_92_82 : decode prog_2_method_7_code 82 = .ok (.ifCond .ge 5, 3) := by decide +kernel
theorem d_92_85 : decode prog_2_method_7_code 85 = .ok (.iconst 0, 1) := by decide +kernel
theorem d_92_86 : decode prog_2_method_7_code 86 = .ok (.ireturn, 1) := by decide +kernel
theorem d_92_87 : decode prog_2_method_7_code 87 = .ok (.iinc 3 1, 3) := by decide +kernel
theorem d_92_90 : decode prog_2_method_7_code 90 = .ok (.goto (-72), 3) := by decide +kernel
theorem d_92_93 : decode prog_2_method_7_code 93 = .ok (.iconst 1, 1) := by decide +kernel
theorem d_92_94 : decode prog_2_method_7_code 94 = .ok (.ireturn, 1) := by decide +kernel
theorem d_93_0 : decode prog_3_method_15_code 0 = .ok (.aload_n 0, 1) := by decide +kernel
theorem d_93_1 : decode prog_3_method_15_code 1 = .ok (.getstatic 37, 3) := by decide +kernel
theorem d_93_4 : decode prog_3_method_15_code 4 = .ok (.iload_n 1, 1) := by decide +kernel
theorem d_93_5 : decode prog_3_method_15_code 5 = .ok (.iaload, 1) := by decide +kernel
theorem d_93_6 : decode prog_3_method_15_code 6 = .ok (.invokevirtual 34, 3) := by decide +kernel
theorem d_93_9 : decode prog_3_method_15_code 9 = .ok (.istore_n 2, 1) := by decide +kernel
theorem d_93_10 : decode prog_3_method_15_code 10 = .ok (.iload_n 1, 1) := by decide +kernel
theorem d_93_11 : decode prog_3_method_15_code 11 = .ok (.iconst 1, 1) := by decide +kernel
theorem d_93_12 : decode prog_3_method_15_code 12 = .ok (.if_icmp .ne 6, 3) := by decide +kernel
theorem d_93_15 : decode prog_3_method_15_code 15 = .ok (.iload_n 2, 1) := by decide +kernel
theorem d_93_16 : decode prog_3_method_15_code 16 = .ok (.i2b, 1) := by decide +kernel
theorem d_93_17 : decode prog_3_method_15_code 17 = .ok (.ireturn, 1) := by decide +kernel
theorem d_93_18 : decode prog_3_method_15_code 18 = .ok (.iload_n 1, 1) := by decide +kernel
theorem d_93_19 : decode prog_3_method_15_code 19 = .ok (.iconst 3, 1) := by decide +kernel
theorem d_93_20 : decode prog_3_method_15_code 20 = .ok (.if_icmp .ne 8, 3) := by decide +kernel
theorem d_93_23 : decode prog_3_method_15_code 23 = .ok (.iload_n 2, 1) := by decide +kernel
theorem d_93_24 : decode prog_3_method_15_code 24 = .ok (.i2s, 1) := by decide +kernel
theorem d_93_25 : decode prog_3_method_15_code 25 = .ok (.goto 4, 3) := by decide +kernel
theorem d_93_28 : decode prog_3_method_15_code 28 = .ok (.iload_n 2, 1) := by decide +kernel
theorem d_93_29 : decode prog_3_method_15_code 29 = .ok (.ireturn, 1) := by decide +kernel
theorem d_94_0 : decode prog_3_method_16_code 0 = .ok (.aload_n 0, 1) := by decide +kernel
theorem d_94_1 : decode prog_3_method_16_code 1 = .ok (.aload_n 0, 1) := by decide +kernel
theorem d_94_2 : decode prog_3_method_16_code 2 = .ok (.getfield 19, 3) := by decide +kernel
theorem d_94_5 : decode prog_3_method_16_code 5 = .ok (.invokestatic 30, 3) := by decide +kernel
theorem d_94_8 : decode prog_3_method_16_code 8 = .ok (.putfield 19, 3) := by decide +kernel
theorem d_94_11 : decode prog_3_method_16_code 11 = .ok (.return_, 1) := by decide +kernel
theorem d_95_0 : decode prog_5_method_28_code 0 = .ok (.aload_n 1, 1) := by decide +kernel
theorem d_95_1 : decode prog_5_method_28_code 1 = .ok (.invokevirtual 202, 3) := by decide +kernel
theorem d_95_4 : decode prog_5_method_28_code 4 = .ok (.istore_n 2, 1) := by decide +kernel
theorem d_95_5 : decode prog_5_method_28_code 5 = .ok (.iload_n 2, 1) := by decide +kernel
theorem d_95_6 : decode prog_5_method_28_code 6 = .ok (.ifCond .lt 8, 3) := by decide +kernel
theorem d_95_9 : decode prog_5_method_28_code 9 = .ok (.iload_n 2, 1) := by decide +kernel
theorem d_95_10 : decode prog_5_method_28_code 10 = .ok (.iconst 5, 1) := by decide +kernel
theorem d_95_11 : decode prog_5_method_28_code 11 = .ok (.if_icmp .le 5, 3) := by decide +kernel
theorem d_95_14 : decode prog_5_method_28_code 14 = .ok (.iconst 0, 1) := by decide +kernel
theorem d_95_15 : decode prog_5_method_28_code 15 = .ok (.ireturn, 1) := by decide +kernel
theorem d_95_16 : decode prog_5_method_28_code 16 = .ok (.iconst 0, 1) := by decide +kernel
theorem d_95_17 : decode prog_5_method_28_code 17 = .ok (.istore_n 3, 1) := by decide +kernel
theorem d_95_18 : decode prog_5_method_28_code 18 = .ok (.iload_n 3, 1) := by decide +kernel
theorem d_95_19 : decode prog_5_method_28_code 19 = .ok (.iload_n 2, 1) := by decide +kernel
theorem d_95_20 : decode prog_5_method_28_code 20 = .ok (.if_icmp .ge 28, 3) := by decide +kernel
theorem d_95_23 : decode prog_5_method_28_code 23 = .ok (.aload_n 0, 1) := by decide +kernel
theorem d_95_24 : decode prog_5_method_28_code 24 = .ok (.aload_n 1, 1) := by decide +kernel
theorem d_95_25 : decode prog_5_method_28_code 25 = .ok (.aload_n 0, 1) := by decide +kernel
theorem d_95_26 : decode prog_5_method_28_code 26 = .ok (.getfield 33, 3) := by decide +kernel
theorem d_95_29 : decode prog_5_method_28_code 29 = .ok (.iload_n 3, 1) := by decide +kernel
theorem d_95_30 : decode prog_5_method_28_code 30 = .ok (.aaload, 1) := by decide +kernel
theorem d_95_31 : decode prog_5_method_28_code 31 = .ok (.getfield 48, 3) := by decide +kernel
theorem d_95_34 : decode prog_5_method_28_code 34 = .ok (.invokevirtual 212, 3) := by decide +kernel
theorem d_95_37 : decode prog_5_method_28_code 37 = .ok (.ifCond .ne 5, 3) := by decide +kernel
theorem d_95_40 : decode prog_5_method_28_code 40 = .ok (.iconst 0, 1) := by decide +kernel
theorem d_95_41 : decode prog_5_method_28_code 41 = .ok (.ireturn, 1) := by decide +kernel
theorem d_95_42 : decode prog_5_method_28_code 42 = .ok (.iinc 3 1, 3) := by decide +kernel
theorem d_95_45 : decode prog_5_method_28_code 45 = .ok (.goto (-27), 3) := by decide +kernel
theorem d_95_48 : decode prog_5_method_28_code 48 = .ok (.iconst 1, 1) := by decide +kernel
theorem d_95_49 : decode prog_5_method_28_code 49 = .ok (.ireturn, 1) := by decide +kernel
theorem d_96_0 : decode prog_5_method_29_code 0 = .ok (.aload_n 1, 1) := by decide +kernel
theorem d_96_1 : decode prog_5_method_29_code 1 = .ok (.invokevirtual 205, 3) := by decide +kernel
theorem d_96_4 : decode prog_5_method_29_code 4 = .ok (.istore_n 3, 1) := by decide +kernel
theorem d_96_5 : decode prog_5_method_29_code 5 = .ok (.aload_n 1, 1) := by decide +kernel
theorem d_96_6 : decode prog_5_method_29_code 6 = .ok (.invokevirtual 183, 3) := by decide +kernel
theorem d_96_9 : decode prog_5_method_29_code 9 = .ok (.istore 4, 2) := by decide +kernel
theorem d_96_11 : decode prog_5_method_29_code 11 = .ok (.iload 4, 2) := by decide +kernel
theorem d_96_13 : decode prog_5_method_29_code 13 = .ok (.ifCond .lt 9, 3) := by decide +kernel
theorem d_96_16 : decode prog_5_method_29_code 16 = .ok (.iload 4, 2) := by decide +kernel
theorem d_96_18 : decode prog_5_method_29_code 18 = .ok (.iconst 2, 1) := by decide +kernel
theorem d_96_19 : decode prog_5_method_29_code 19 = .ok (.if_icmp .le 5, 3) := by decide +kernel
theorem d_96_22 : decode prog_5_method_29_code 22 = .ok (.iconst 0, 1) := by decide +kernel
theorem d_96_23 : decode prog_5_method_29_code 23 = .ok (.ireturn, 1) := by decide +kernel
theorem d_96_24 : decode prog_5_method_29_code 24 = .ok (.iload 4, 2) := by decide +kernel
theorem d_96_26 : decode prog_5_method_29_code 26 = .ok (.ifCond .le 10, 3) := by decide +kernel
theorem d_96_29 : decode prog_5_method_29_code 29 = .ok (.aload_n 1, 1) := by decide +kernel
theorem d_96_30 : decode prog_5_method_29_code 30 = .ok (.invokevirtual 183, 3) := by decide +kernel
theorem d_96_33 : decode prog_5_method_29_code 33 = .ok (.goto 4, 3) := by decide +kernel
theorem d_96_36 : decode prog_5_method_29_code 36 = .ok (.iconst (-1), 1) := by decide +kernel
theorem d_96_37 : decode prog_5_method_29_code 37 = .ok (.istore 5, 2) := by decide +kernel
theorem d_96_39 : decode prog_5_method_29_code 39 = .ok (.iload 4, 2) := by decide +kernel
theorem d_96_41 : decode prog_5_method_29_code 41 = .ok (.iconst 1, 1) := by decide +kernel
theorem d_96_42 : decode prog_5_method_29_code 42 = .ok (.if_icmp .le 10, 3) := by decide +kernel
theorem d_96_45 : decode prog_5_method_29_code 45 = .ok (.aload_n 1, 1) := by decide +kernel
theorem d_96_46 : decode prog_5_method_29_code 46 = .ok (.invokevirtual 183, 3) := by decide +kernel
theorem d_96_49 : decode prog_5_method_29_code 49 = .ok (.goto 4, 3) := by decide +kernel
theorem d_96_52 : decode prog_5_method_29_code 52 = .ok (.iconst (-1), 1) := by decide +kernel
theorem d_96_53 : decode prog_5_method_29_code 53 = .ok (.istore 6, 2) := by decide +kernel
theorem d_96_55 : decode prog_5_method_29_code 55 = .ok (.aload_n 2, 1) := by decide +kernel
theorem d_96_56 : decode prog_5_method_29_code 56 = .ok (.aload_n 1, 1) := by decide +kernel
theorem d_96_57 : decode prog_5_method_29_code 57 = .ok (.invokevirtual 190, 3) := by decide +kernel
theorem d_96_60 : decode prog_5_method_29_code 60 = .ok (.ifCond .ne 5, 3) := by decide +kernel
theorem d_96_63 : decode prog_5_method_29_code 63 = .ok (.iconst 0, 1) := by decide +kernel
theorem d_96_64 : decode prog_5_method_29_code 64 = .ok (.ireturn, 1) := by decide +kernel
theorem d_96_65 : decode prog_5_method_29_code 65 = .ok (.aload_n 1, 1) := by decide +kernel
theorem d_96_66 : decode prog_5_method_29_code 66 = .ok (.invokevirtual 183, 3) := by decide +kernel
theorem d_96_69 : decode prog_5_method_29_code 69 = .ok (.istore 7, 2) := by decide +kernel
theorem d_96_71 : decode prog_5_method_29_code 71 = .ok (.aload_n 1, 1) := by decide +kernel
theorem d_96_72 : decode prog_5_method_29_code 72 = .ok (.invokevirtual 183, 3) := by decide +kernel
theorem d_96_75 : decode prog_5_method_29_code 75 = .ok (.pop, 1) := by decide +kernel
theorem d_96_76 : decode prog_5_method_29_code 76 = .ok (.aload_n 1, 1) := by decide +kernel
theorem d_96_77 : decode prog_5_method_29_code 77 = .ok (.invokevirtual 183, 3) := by decide +kernel
theorem d_96_80 : decode prog_5_method_29_code 80 = .ok (.pop, 1) := by decide +kernel
theorem d_96_81 : decode prog_5_method_29_code 81 = .ok (.aload_n 0, 1) := by decide +kernel
theorem d_96_82 : decode prog_5_method_29_code 82 = .ok (.iload_n 3, 1) := by decide +kernel
theorem d_96_83 : decode prog_5_method_29_code 83 = .ok (.iload 7, 2) := by decide +kernel
theorem d_96_85 : decode prog_5_method_29_code 85 = .ok (.iload 5, 2) := by decide +kernel
theorem d_96_87 : decode prog_5_method_29_code 87 = .ok (.iload 6, 2) := by decide +kernel
theorem d_96_89 : decode prog_5_method_29_code 89 = .ok (.invokevirtual 216, 3) := by decide +kernel
theorem d_96_92 : decode prog_5_method_29_code 92 = .ok (.ifCond .lt 7, 3) := by decide +kernel
theorem d_96_95 : decode prog_5_method_29_code 95 = .ok (.iconst 1, 1) := by decide +kernel
theorem d_96_96 : decode prog_5_method_29_code 96 = .ok (.goto 4, 3) := by decide +kernel
theorem d_96_99 : decode prog_5_method_29_code 99 = .ok (.iconst 0, 1) := by decide +kernel
theorem d_96_100 : decode prog_5_method_29_code 100 = .ok (.ireturn, 1) := by decide +kernel
theorem d_97_0 : decode prog_5_method_30_code 0 = .ok (.iconst 0, 1) := by decide +kernel
theorem d_97_1 : decode prog_5_method_30_code 1 = .ok (.istore_n 2, 1) := by decide +kernel
theorem d_97_2 : decode prog_5_method_30_code 2 = .ok (.iload_n 2, 1) := by decide +kernel
theorem d_97_3 : decode prog_5_method_30_code 3 = .ok (.aload_n 0, 1) := by decide +kernel
theorem d_97_4 : decode prog_5_method_30_code 4 = .ok (.getfield 25, 3) := by decide +kernel
theorem d_97_7 : decode prog_5_method_30_code 7 = .ok (.if_icmp .ge 57, 3) := by decide +kernel
theorem d_97_10 : decode prog_5_method_30_code 10 = .ok (.aload_n 0, 1) := by decide +kernel
theorem d_97_11 : decode prog_5_method_30_code 11 = .ok (.getfield 33, 3) := by decide +kernel
theorem d_97_14 : decode prog_5_method_30_code 14 = .ok (.iload_n 2, 1) := by decide +kernel
theorem d_97_15 : decode prog_5_method_30_code 15 = .ok (.aaload, 1) := by decide +kernel
theorem d_97_16 : decode prog_5_method_30_code 16 = .ok (.getfield 94, 3) := by decide +kernel
theorem d_97_19 : decode prog_5_method_30_code 19 = .ok (.ifCond .ne 39, 3) := by decide +kernel
theorem d_97_22 : decode prog_5_method_30_code 22 = .ok (.iconst 0, 1) := by decide +kernel
theorem d_97_23 : decode prog_5_method_30_code 23 = .ok (.istore_n 3, 1) := by decide +kernel
theorem d_97_24 : decode prog_5_method_30_code 24 = .ok (.iload_n 3, 1) := by decide +kernel
theorem d_97_25 : decode prog_5_method_30_code 25 = .ok (.aload_n 0, 1) := by decide +kernel
theorem d_97_26 : decode prog_5_method_30_code 26 = .ok (.getfield 33, 3) := by decide +kernel
theorem d_97_29 : decode prog_5_method_30_code 29 = .ok (.iload_n 2, 1) := by decide +kernel
theorem d_97_30 : decode prog_5_method_30_code 30 = .ok (.aaload, 1) := by decide +kernel
theorem d_97_31 : decode prog_5_method_30_code 31 = .ok (.getfield 166, 3) := by decide +kernel
theorem d_97_34 : decode prog_5_method_30_code 34 = .ok (.if_icmp .ge 20, 3) := by decide +kernel
theorem d_97_37 : decode prog_5_method_30_code 37 = .ok (.aload_n 0, 1) := by decide +kernel
theorem d_97_38 : decode prog_5_method_30_code 38 = .ok (.getfield 33, 3) := by decide +kernel
theorem d_97_41 : decode prog_5_method_30_code 41 = .ok (.iload_n 2, 1) := by decide +kernel
theorem d_97_42 : decode prog_5_method_30_code 42 = .ok (.aaload, 1) := by decide +kernel
theorem d_97_43 : decode prog_5_method_30_code 43 = .ok (.aload_n 1, 1) := by decide +kernel
theorem d_97_44 : decode prog_5_method_30_code 44 = .ok (.iload_n 3, 1) := by decide +kernel
theorem d_97_45 : decode prog_5_method_30_code 45 = .ok (.invokevirtual 220, 3) := by decide +kernel
theorem d_97_48 : decode prog_5_method_30_code 48 = .ok (.iinc 3 1, 3) := by decide +kernel
theorem d_97_51 : decode prog_5_method_30_code 51 = .ok (.goto (-27), 3) := by decide +kernel
theorem d_97_54 : decode prog_5_method_30_code 54 = .ok (.aload_n 1, 1) := by decide +kernel
theorem d_97_55 : decode prog_5_method_30_code 55 = .ok (.invokevirtual 223, 3) := by decide +kernel
theorem d_97_58 : decode prog_5_method_30_code 58 = .ok (.iinc 2 1, 3) := by decide +kernel
theorem d_97_61 : decode prog_5_method_30_code 61 = .ok (.goto (-59), 3) := by decide +kernel
theorem d_97_64 : decode prog_5_method_30_code 64 = .ok (.aload_n 0, 1) := by decide +kernel
theorem d_97_65 : decode prog_5_method_30_code 65 = .ok (.invokevirtual 112, 3) := by decide +kernel
theorem d_97_68 : decode prog_5_method_30_code 68 = .ok (.iconst 1, 1) := by decide +kernel
theorem d_97_69 : decode prog_5_method_30_code 69 = .ok (.if_icmp .le 7, 3) := by decide +kernel
theorem d_97_72 : decode prog_5_method_30_code 72 = .ok (.iconst 1, 1) := by decide +kernel
theorem d_97_73 : decode prog_5_method_30_code 73 = .ok (.goto 4, 3) := by decide +kernel
theorem d_97_76 : decode prog_5_method_30_code 76 = .ok (.iconst 0, 1) := by decide +kernel
theorem d_97_77 : decode prog_5_method_30_code 77 = .ok (.istore_n 2, 1) := by decide +kernel
theorem d_97_78 : decode prog_5_method_30_code 78 = .ok (.iconst 0, 1) := by decide +kernel
theorem d_97_79 : decode prog_5_method_30_code 79 = .ok (.istore_n 3, 1) := by decide +kernel
theorem d_97_80 : decode prog_5_method_30_code 80 = .ok (.iload_n 3, 1) := by decide +kernel
theorem d_97_81 : decode prog_5_method_30_code 81 = .ok (.aload_n 0, 1) := by decide +kernel
theorem d_97_82 : decode prog_5_method_30_code 82 = .ok (.getfield 9, 3) := by decide +kernel
theorem d_97_85 : decode prog_5_method_30_code 85 = .ok (.if_icmp .ge 16, 3) := by decide +kernel
theorem d_97_88 : decode prog_5_method_30_code 88 = .ok (.aload_n 0, 1) := by decide +kernel
theorem d_97_89 : decode prog_5_method_30_code 89 = .ok (.aload_n 1, 1) := by decide +kernel
theorem d_97_90 : decode prog_5_method_30_code 90 = .ok (.iload_n 3, 1) := by decide +kernel
theorem d_97_91 : decode prog_5_method_30_code 91 = .ok (.iload_n 2, 1) := by decide +kernel
theorem d_97_92 : decode prog_5_method_30_code 92 = .ok (.invokevirtual 226, 3) := by decide +kernel
theorem d_97_95 : decode prog_5_method_30_code 95 = .ok (.iinc 3 1, 3) := by decide +kernel
theorem d_97_98 : decode prog_5_method_30_code 98 = .ok (.goto (-18), 3) := by decide +kernel
theorem d_97_101 : decode prog_5_method_30_code 101 = .ok (.return_, 1) := by decide +kernel
theorem d_98_0 : decode prog_6_method_13_code 0 = .ok (.iconst 0, 1) := by decide +kernel
theorem d_98_1 : decode prog_6_method_13_code 1 = .ok (.istore_n 3, 1) := by decide +kernel
theorem d_98_2 : decode prog_6_method_13_code 2 = .ok (.iload_n 3, 1) := by decide +kernel
theorem d_98_3 : decode prog_6_method_13_code 3 = .ok (.aload_n 0, 1) := by decide +kernel
theorem d_98_4 : decode prog_6_method_13_code 4 = .ok (.getfield 28, 3) := by decide +kernel
theorem d_98_7 : decode prog_6_method_13_code 7 = .ok (.if_icmp .ge 23, 3) := by decide +kernel
theorem d_98_10 : decode prog_6_method_13_code 10 = .ok (.aload_n 0, 1) := by decide +kernel
theorem d_98_11 : decode prog_6_method_13_code 11 = .ok (.iload_n 2, 1) := by decide +kernel
theorem d_98_12 : decode prog_6_method_13_code 12 = .ok (.iload_n 3, 1) := by decide +kernel
theorem d_98_13 : decode prog_6_method_13_code 13 = .ok (.aload_n 1, 1) := by decide +kernel
theorem d_98_14 : decode prog_6_method_13_code 14 = .ok (.aload_n 0, 1) := by decide +kernel
theorem d_98_15 : decode prog_6_method_13_code 15 = .ok (.getfield 9, 3) := by decide +kernel
theorem d_98_18 : decode prog_6_method_13_code 18 = .ok (.invokevirtual 90, 3) := by decide +kernel
theorem d_98_21 : decode prog_6_method_13_code 21 = .ok (.invokevirtual 60, 3) := by decide +kernel
theorem d_98_24 : decode prog_6_method_13_code 24 = .ok (.iinc 3 1, 3) := by decide +kernel
theorem d_98_27 : decode prog_6_method_13_code 27 = .ok (.goto (-25), 3) := by decide +kernel
theorem d_98_30 : decode prog_6_method_13_code 30 = .ok (.return_, 1) := by decide +kernel
theorem d_99_0 : decode prog_5_method_31_code 0 = .ok (.iconst 0, 1) := by decide +kernel
theorem d_99_1 : decode prog_5_method_31_code 1 = .ok (.istore 4, 2) := by decide +kernel
theorem d_99_3 : decode prog_5_method_31_code 3 = .ok (.iload 4, 2) := by decide +kernel
theorem d_99_5 : decode prog_5_method_31_code 5 = .ok (.aload_n 0, 1) := by decide +kernel
theorem d_99_6 : decode prog_5_method_31_code 6 = .ok (.getfield 25, 3) := by decide +kernel
theorem d_99_9 : decode prog_5_method_31_code 9 = .ok (.if_icmp .ge 42, 3) := by decide +kernel
theorem d_99_12 : decode prog_5_method_31_code 12 = .ok (.aload_n 0, 1) := by decide +kernel
theorem d_99_13 : decode prog_5_method_31_code 13 = .ok (.getfield 33, 3) := by decide +kernel
theorem d_99_16 : decode prog_5_method_31_code 16 = .ok (.iload 4, 2) := by decide +kernel
theorem d_99_18 : decode prog_5_method_31_code 18 = .ok (.aaload, 1) := by decide +kernel
theorem d_99_19 : decode prog_5_method_31_code 19 = .ok (.getfield 94, 3) := by decide +kernel
theorem d_99_22 : decode prog_5_method_31_code 22 = .ok (.ifCond .eq 23, 3) := by decide +kernel
theorem d_99_25 : decode prog_5_method_31_code 25 = .ok (.aload_n 0, 1) := by decide +kernel
theorem d_99_26 : decode prog_5_method_31_code 26 = .ok (.getfield 33, 3) := by decide +kernel
theorem d_99_29 : decode prog_5_method_31_code 29 = .ok (.iload 4, 2) := by decide +kernel
theorem d_99_31 : decode prog_5_method_31_code 31 = .ok (.aaload, 1) := by decide +kernel
theorem d_99_32 : decode prog_5_method_31_code 32 = .ok (.aload_n 1, 1) := by decide +kernel
theorem d_99_33 : decode prog_5_method_31_code 33 = .ok (.iload_n 2, 1) := by decide +kernel
theorem d_99_34 : decode prog_5_method_31_code 34 = .ok (.invokevirtual 220, 3) := by decide +kernel
theorem d_99_37 : decode prog_5_method_31_code 37 = .ok (.iload_n 3, 1) := by decide +kernel
theorem d_99_38 : decode prog_5_method_31_code 38 = .ok (.ifCond .eq 7, 3) := by decide +kernel
theorem d_99_41 : decode prog_5_method_31_code 41 = .ok (.aload_n 1, 1) := by decide +kernel
theorem d_99_42 : decode prog_5_method_31_code 42 = .ok (.invokevirtual 223, 3) := by decide +kernel
theorem d_99_45 : decode prog_5_method_31_code 45 = .ok (.iinc 4 1, 3) := by decide +kernel
theorem d_99_48 : decode prog_5_method_31_code 48 = .ok (.goto (-45), 3) := by decide +kernel
theorem d_99_51 : decode prog_5_method_31_code 51 = .ok (.return_, 1) := by decide +kernel
theorem d_100_0 : decode prog_3_method_17_code 0 = .ok (.aload_n 0, 1) := by decide +kernel
theorem d_100_1 : decode prog_3_method_17_code 1 = .ok (.getfield 15, 3) := by decide +kernel
theorem d_100_4 : decode prog_3_method_17_code 4 = .ok (.aload_n 1, 1) := by decide +kernel
theorem d_100_5 : decode prog_3_method_17_code 5 = .ok (.getfield 15, 3) := by decide +kernel
theorem d_100_8 : decode prog_3_method_17_code 8 = .ok (.if_icmp .eq 5, 3) := by decide +kernel
theorem d_100_11 : decode prog_3_method_17_code 11 = .ok (.iconst 0, 1) := by decide +kernel
theorem d_100_12 : decode prog_3_method_17_code 12 = .ok (.ireturn, 1) := by decide +kernel
theorem d_100_13 : decode prog_3_method_17_code 13 = .ok (.iconst 0, 1) := by decide +kernel
theorem d_100_14 : decode prog_3_method_17_code 14 = .ok (.istore_n 2, 1) := by decide +kernel
theorem d_100_15 : decode prog_3_method_17_code 15 = .ok (.iload_n 2, 1) := by decide +kernel
theorem d_100_16 : decode prog_3_method_17_code 16 = .ok (.aload_n 0, 1) := by decide +kernel
theorem d_100_17 : decode prog_3_method_17_code 17 = .ok (.getfield 15, 3) := by decide +kernel
theorem d_100_20 : decode prog_3_method_17_code 20 = .ok (.if_icmp .ge 26, 3) := by decide +kernel
theorem d_100_23 : decode prog_3_method_17_code 23 = .ok (.aload_n 0, 1) := by decide +kernel
theorem d_100_24 : decode prog_3_method_17_code 24 = .ok (.getfield 9, 3) := by decide +kernel
theorem d_100_27 : decode prog_3_method_17_code 27 = .ok (.iload_n 2, 1) := by decide +kernel
theorem d_100_28 : decode prog_3_method_17_code 28 = .ok (.baload, 1) := by decide +kernel
theorem d_100_29 : decode prog_3_method_17_code 29 = .ok (.aload_n 1, 1) := by decide +kernel
theorem d_100_30 : decode prog_3_method_17_code 30 = .ok (.getfield 9, 3) := by decide +kernel
theorem d_100_33 : decode prog_3_method_17_code 33 = .ok (.iload_n 2, 1) := by decide +kernel
theorem d_100_34 : decode prog_3_method_17_code 34 = .ok (.baload, 1) := by decide +kernel
theorem d_100_35 : decode prog_3_method_17_code 35 = .ok (.if_icmp .eq 5, 3) := by decide +kernel
theorem d_100_38 : decode prog_3_method_17_code 38 = .ok (.iconst 0, 1) := by decide +kernel
theorem d_100_39 : decode prog_3_method_17_code 39 = .ok (.ireturn, 1) := by decide +kernel
theorem d_100_40 : decode prog_3_method_17_code 40 = .ok (.iinc 2 1, 3) := by decide +kernel
theorem d_100_43 : decode prog_3_method_17_code 43 = .ok (.goto (-28), 3) := by decide +kernel
theorem d_100_46 : decode prog_3_method_17_code 46 = .ok (.iconst 1, 1) := by decide +kernel
theorem d_100_47 : decode prog_3_method_17_code 47 = .ok (.ireturn, 1) := by decide +kernel
theorem d_101_0 : decode prog_8_method_1_code 0 = .ok (.aload_n 0, 1) := by decide +kernel
theorem d_101_1 : decode prog_8_method_1_code 1 = .ok (.invokespecial 1, 3) := by decide +kernel
theorem d_101_4 : decode prog_8_method_1_code 4 = .ok (.aload_n 0, 1) := by decide +kernel
theorem d_101_5 : decode prog_8_method_1_code 5 = .ok (.iconst 2, 1) := by decide +kernel
theorem d_101_6 : decode prog_8_method_1_code 6 = .ok (.newarray .int, 2) := by decide +kernel
theorem d_101_8 : decode prog_8_method_1_code 8 = .ok (.putfield 7, 3) := by decide +kernel
theorem d_101_11 : decode prog_8_method_1_code 11 = .ok (.aload_n 0, 1) := by decide +kernel
theorem d_101_12 : decode prog_8_method_1_code 12 = .ok (.bipush 8, 2) := by decide +kernel
theorem d_101_14 : decode prog_8_method_1_code 14 = .ok (.newarray .int, 2) := by decide +kernel
theorem d_101_16 : decode prog_8_method_1_code 16 = .ok (.putfield 13, 3) := by decide +kernel
theorem d_101_19 : decode prog_8_method_1_code 19 = .ok (.aload_n 0, 1) := by decide +kernel
theorem d_101_20 : decode prog_8_method_1_code 20 = .ok (.bipush 8, 2) := by decide +kernel
theorem d_101_22 : decode prog_8_method_1_code 22 = .ok (.newarray .int, 2) := by decide +kernel
theorem d_101_24 : decode prog_8_method_1_code 24 = .ok (.putfield 16, 3) := by decide +kernel
theorem d_101_27 : decode prog_8_method_1_code 27 = .ok (.aload_n 0, 1) := by decide +kernel
theorem d_101_28 : decode prog_8_method_1_code 28 = .ok (.iconst 2, 1) := by decide +kernel
theorem d_101_29 : decode prog_8_method_1_code 29 = .ok (.newarray .int, 2) := by decide +kernel
theorem d_101_31 : decode prog_8_method_1_code 31 = .ok (.putfield 19, 3) := by decide +kernel
theorem d_101_34 : decode prog_8_method_1_code 34 = .ok (.aload_n 0, 1) := by decide +kernel
theorem d_101_35 : decode prog_8_method_1_code 35 = .ok (.bipush 10, 2) := by decide +kernel
theorem d_101_37 : decode prog_8_method_1_code 37 = .ok (.newarray .int, 2) := by decide +kernel
theorem d_101_39 : decode prog_8_method_1_code 39 = .ok (.putfield 22, 3) := by decide +kernel
theorem d_101_42 : decode prog_8_method_1_code 42 = .ok (.aload_n 0, 1) := by decide +kernel
theorem d_101_43 : decode prog_8_method_1_code 43 = .ok (.bipush 10, 2) := by decide +kernel
theorem d_101_45 : decode prog_8_method_1_code 45 = .ok (.newarray .int, 2) := by decide +kernel
theorem d_101_47 : decode prog_8_method_1_code 47 = .ok (.putfield 25, 3) := by decide +kernel
theorem d_101_50 : decode prog_8_method_1_code 50 = .ok (.aload_n 0, 1) := by decide +kernel
theorem d_101_51 : decode prog_8_method_1_code 51 = .ok (.bipush 10, 2) := by decide +kernel
theorem d_101_53 : decode prog_8_method_1_code 53 = .ok (.newarray .int, 2) := by decide +kernel
theorem d_101_55 : decode prog_8_method_1_code 55 = .ok (.putfield 28, 3) := by decide +kernel
theorem d_101_58 : decode prog_8_method_1_code 58 = .ok (.aload_n 0, 1) := by decide +kernel
theorem d_101_59 : decode prog_8_method_1_code 59 = .ok (.bipush 20, 2) := by decide +kernel
theorem d_101_61 : decode prog_8_method_1_code 61 = .ok (.newarray .int, 2) := by decide +kernel
theorem d_101_63 : decode prog_8_method_1_code 63 = .ok (.putfield 31, 3) := by decide +kernel
theorem d_101_66 : decode prog_8_method_1_code 66 = .ok (.aload_n 0, 1) := by decide +kernel
theorem d_101_67 : decode prog_8_method_1_code 67 = .ok (.bipush 12, 2) := by decide +kernel
theorem d_101_69 : decode prog_8_method_1_code 69 = .ok (.newarray .int, 2) := by decide +kernel
theorem d_101_71 : decode prog_8_method_1_code 71 = .ok (.putfield 34, 3) := by decide +kernel
theorem d_101_74 : decode prog_8_method_1_code 74 = .ok (.aload_n 0, 1) := by decide +kernel
theorem d_101_75 : decode prog_8_method_1_code 75 = .ok (.bipush 36, 2) := by decide +kernel
theorem d_101_77 : decode prog_8_method_1_code 77 = .ok (.newarray .int, 2) := by decide +kernel
theorem d_101_79 : decode prog_8_method_1_code 79 = .ok (.putfield 37, 3) := by decide +kernel
theorem d_101_82 : decode prog_8_method_1_code 82 = .ok (.aload_n 0, 1) := by decide +kernel
theorem d_101_83 : decode prog_8_method_1_code 83 = .ok (.bipush 36, 2) := by decide +kernel
theorem d_101_85 : decode prog_8_method_1_code 85 = .ok (.newarray .int, 2) := by decide +kernel
theorem d_101_87 : decode prog_8_method_1_code 87 = .ok (.putfield 40, 3) := by decide +kernel
theorem d_101_90 : decode prog_8_method_1_code 90 = .ok (.aload_n 0, 1) := by decide +kernel
theorem d_101_91 : decode prog_8_method_1_code 91 = .ok (.bipush 36, 2) := by decide +kernel
theorem d_101_93 : decode prog_8_method_1_code 93 = .ok (.newarray .int, 2) := by decide +kernel
theorem d_101_95 : decode prog_8_method_1_code 95 = .ok (.putfield 43, 3) := by decide +kernel
theorem d_101_98 : decode prog_8_method_1_code 98 = .ok (.aload_n 0, 1) := by decide +kernel
theorem d_101_99 : decode prog_8_method_1_code 99 = .ok (.bipush 36, 2) := by decide +kernel
theorem d_101_101 : decode prog_8_method_1_code 101 = .ok (.newarray .int, 2) := by decide +kernel
theorem d_101_103 : decode prog_8_method_1_code 103 = .ok (.putfield 46, 3) := by decide +kernel
theorem d_101_106 : decode prog_8_method_1_code 106 = .ok (.aload_n 0, 1) := by decide +kernel
theorem d_101_107 : decode prog_8_method_1_code 107 = .ok (.iconst 2, 1) := by decide +kernel
theorem d_101_108 : decode prog_8_method_1_code 108 = .ok (.newarray .int, 2) := by decide +kernel
theorem d_101_110 : decode prog_8_method_1_code 110 = .ok (.putfield 49, 3) := by decide +kernel
theorem d_101_113 : decode prog_8_method_1_code 113 = .ok (.aload_n 0, 1) := by decide +kernel
theorem d_101_114 : decode prog_8_method_1_code 114 = .ok (.sipush 8000, 3) := by decide +kernel
theorem d_101_117 : decode prog_8_method_1_code 117 = .ok (.newarray .int, 2) := by decide +kernel
theorem d_101_119 : decode prog_8_method_1_code 119 = .ok (.putfield 52, 3) := by decide +kernel
theorem d_101_122 : decode prog_8_method_1_code 122 = .ok (.aload_n 0, 1) := by decide +kernel
theorem d_101_123 : decode prog_8_method_1_code 123 = .ok (.iconst 2, 1) := by decide +kernel
theorem d_101_124 : decode prog_8_method_1_code 124 = .ok (.newarray .int, 2) := by decide +kernel
theorem d_101_126 : decode prog_8_method_1_code 126 = .ok (.putfield 55, 3) := by decide +kernel
theorem d_101_129 : decode prog_8_method_1_code 129 = .ok (.aload_n 0, 1) := by decide +kernel
theorem d_101_130 : decode prog_8_method_1_code 130 = .ok (.iconst 2, 1) := by decide +kernel
theorem d_101_131 : decode prog_8_method_1_code 131 = .ok (.newarray .int, 2) := by decide +kernel
theorem d_101_133 : decode prog_8_method_1_code 133 = .ok (.dup, 1) := by decide +kernel
theorem d_101_134 : decode prog_8_method_1_code 134 = .ok (.iconst 0, 1) := by decide +kernel
theorem d_101_135 : decode prog_8_method_1_code 135 = .ok (.iconst 1, 1) := by decide +kernel
theorem d_101_136 : decode prog_8_method_1_code 136 = .ok (.iastore, 1) := by decide +kernel
theorem d_101_137 : decode prog_8_method_1_code 137 = .ok (.dup, 1) := by decide +kernel
theorem d_101_138 : decode prog_8_method_1_code 138 = .ok (.iconst 1, 1) := by decide +kernel
theorem d_101_139 : decode prog_8_method_1_code 139 = .ok (.iconst 1, 1) := by decide +kernel
theorem d_101_140 : decode prog_8_method_1_code 140 = .ok (.iastore, 1) := by decide +kernel
theorem d_101_141 : decode prog_8_method_1_code 141 = .ok (.putfield 58, 3) := by decide +kernel
theorem d_101_144 : decode prog_8_method_1_code 144 = .ok (.aload_n 0, 1) := by decide +kernel
theorem d_101_145 : decode prog_8_method_1_code 145 = .ok (.iconst 2, 1) := by decide +kernel
theorem d_101_146 : decode prog_8_method_1_code 146 = .ok (.newarray .int, 2) := by decide +kernel
theorem d_101_148 : decode prog_8_method_1_code 148 = .ok (.dup, 1) := by decide +kernel
theorem d_101_149 : decode prog_8_method_1_code 149 = .ok (.iconst 0, 1) := by decide +kernel
theorem d_101_150 : decode prog_8_method_1_code 150 = .ok (.iconst 1, 1) := by decide +kernel
theorem d_101_151 : decode prog_8_method_1_code 151 = .ok (.iastore, 1) := by decide +kernel
theorem d_101_152 : decode prog_8_method_1_code 152 = .ok (.dup, 1) := by decide +kernel
theorem d_101_153 : decode prog_8_method_1_code 153 = .ok (.iconst 1, 1) := by decide +kernel
theorem d_101_154 : decode prog_8_method_1_code 154 = .ok (.iconst 1, 1) := by decide +kernel
theorem d_101_155 : decode prog_8_method_1_code 155 = .ok (.iastore, 1) := by decide +kernel
theorem d_101_156 : decode prog_8_method_1_code 156 = .ok (.putfield 61, 3) := by decide +kernel
theorem d_101_159 : decode prog_8_method_1_code 159 = .ok (.aload_n 0, 1) := by decide +kernel
theorem d_101_160 : decode prog_8_method_1_code 160 = .ok (.sipush 800, 3) := by decide +kernel
theorem d_101_163 : decode prog_8_method_1_code 163 = .ok (.newarray .int, 2) := by decide +kernel
theorem d_101_165 : decode prog_8_method_1_code 165 = .ok (.putfield 64, 3) := by decide +kernel
theorem d_101_168 : decode prog_8_method_1_code 168 = .ok (.aload_n 0, 1) := by decide +kernel
theorem d_101_169 : decode prog_8_method_1_code 169 = .ok (.sipush 800, 3) := by decide +kernel
theorem d_101_172 : decode prog_8_method_1_code 172 = .ok (.newarray .int, 2) := by decide +kernel
theorem d_101_174 : decode prog_8_method_1_code 174 = .ok (.putfield 67, 3) := by decide +kernel
theorem d_101_177 : decode prog_8_method_1_code 177 = .ok (.return_, 1) := by decide +kernel
theorem d_102_0 : decode prog_8_method_30_code 0 = .ok (.aload_n 0, 1) := by decide +kernel
theorem d_102_1 : decode prog_8_method_30_code 1 = .ok (.getfield 140, 3) := by decide +kernel
theorem d_102_4 : decode prog_8_method_30_code 4 = .ok (.ifCond .eq 5, 3) := by decide +kernel
theorem d_102_7 : decode prog_8_method_30_code 7 = .ok (.iconst (-1), 1) := by decide +kernel
theorem d_102_8 : decode prog_8_method_30_code 8 = .ok (.ireturn, 1) := by decide +kernel
theorem d_102_9 : decode prog_8_method_30_code 9 = .ok (.iload_n 1, 1) := by decide +kernel
theorem d_102_10 : decode prog_8_method_30_code 10 = .ok (.invokestatic 144, 3) := by decide +kernel
theorem d_102_13 : decode prog_8_method_30_code 13 = .ok (.ifCond .eq 13, 3) := by decide +kernel
theorem d_102_16 : decode prog_8_method_30_code 16 = .ok (.iload_n 2, 1) := by decide +kernel
theorem d_102_17 : decode prog_8_method_30_code 17 = .ok (.ifCond .lt 9, 3) := by decide +kernel
theorem d_102_20 : decode prog_8_method_30_code 20 = .ok (.iload_n 2, 1) := by decide +kernel
theorem d_102_21 : decode prog_8_method_30_code 21 = .ok (.bipush 8, 2) := by decide +kernel
theorem d_102_23 : decode prog_8_method_30_code 23 = .ok (.if_icmp .le 6, 3) := by decide +kernel
theorem d_102_26 : decode prog_8_method_30_code 26 = .ok (.bipush (-2), 2) := by decide +kernel
theorem d_102_28 : decode prog_8_method_30_code 28 = .ok (.ireturn, 1) := by decide +kernel
theorem d_102_29 : decode prog_8_method_30_code 29 = .ok (.aload_n 0, 1) := by decide +kernel
theorem d_102_30 : decode prog_8_method_30_code 30 = .ok (.aload_n 0, 1) := by decide +kernel
theorem d_102_31 : decode prog_8_method_30_code 31 = .ok (.getfield 137, 3) := by decide +kernel
theorem d_102_34 : decode prog_8_method_30_code 34 = .ok (.iload_n 1, 1) := by decide +kernel
theorem d_102_35 : decode prog_8_method_30_code 35 = .ok (.iconst (-1), 1) := by decide +kernel
theorem d_102_36 : decode prog_8_method_30_code 36 = .ok (.invokevirtual 148, 3) := by decide +kernel
theorem d_102_39 : decode prog_8_method_30_code 39 = .ok (.ifCond .eq 6, 3) := by decide +kernel
theorem d_102_42 : decode prog_8_method_30_code 42 = .ok (.bipush (-4), 2) := by decide +kernel
theorem d_102_44 : decode prog_8_method_30_code 44 = .ok (.ireturn, 1) := by decide +kernel
theorem d_102_45 : decode prog_8_method_30_code 45 = .ok (.aload_n 0, 1) := by decide +kernel
theorem d_102_46 : decode prog_8_method_30_code 46 = .ok (.getfield 7, 3) := by decide +kernel
theorem d_102_49 : decode prog_8_method_30_code 49 = .ok (.aload_n 0, 1) := by decide +kernel
theorem d_102_50 : decode prog_8_method_30_code 50 = .ok (.getfield 137, 3) := by decide +kernel
theorem d_102_53 : decode prog_8_method_30_code 53 = .ok (.iaload, 1) := by decide +kernel
theorem d_102_54 : decode prog_8_method_30_code 54 = .ok (.iconst 4, 1) := by decide +kernel
theorem d_102_55 : decode prog_8_method_30_code 55 = .ok (.if_icmp .eq 18, 3) := by decide +kernel
theorem d_102_58 : decode prog_8_method_30_code 58 = .ok (.iload_n 2, 1) := by decide +kernel
theorem d_102_59 : decode prog_8_method_30_code 59 = .ok (.ifCond .ne 17, 3) := by decide +kernel
theorem d_102_62 : decode prog_8_method_30_code 62 = .ok (.aload_n 0, 1) := by decide +kernel
theorem d_102_63 : decode prog_8_method_30_code 63 = .ok (.aload_n 0, 1) := by decide +kernel
theorem d_102_64 : decode prog_8_method_30_code 64 = .ok (.getfield 137, 3) := by decide +kernel
theorem d_102_67 : decode prog_8_method_30_code 67 = .ok (.invokevirtual 152, 3) := by decide +kernel
theorem d_102_70 : decode prog_8_method_30_code 70 = .ok (.ifCond .le 6, 3) := by decide +kernel
theorem d_102_73 : decode prog_8_method_30_code 73 = .ok (.bipush (-5), 2) := by decide +kernel
theorem d_102_75 : decode prog_8_method_30_code 75 = .ok (.ireturn, 1) := by decide +kernel
theorem d_102_76 : decode prog_8_method_30_code 76 = .ok (.aload_n 0, 1) := by decide +kernel
theorem d_102_77 : decode prog_8_method_30_code 77 = .ok (.getfield 7, 3) := by decide +kernel
theorem d_102_80 : decode prog_8_method_30_code 80 = .ok (.aload_n 0, 1) := by decide +kernel
theorem d_102_81 : decode prog_8_method_30_code 81 = .ok (.getfield 137, 3) := by decide +kernel
theorem d_102_84 : decode prog_8_method_30_code 84 = .ok (.iaload, 1) := by decide +kernel
theorem d_102_85 : decode prog_8_method_30_code 85 = .ok (.istore_n 3, 1) := by decide +kernel
theorem d_102_86 : decode prog_8_method_30_code 86 = .ok (.aload_n 0, 1) := by decide +kernel
theorem d_102_87 : decode prog_8_method_30_code 87 = .ok (.getfield 13, 3) := by decide +kernel
theorem d_102_90 : decode prog_8_method_30_code 90 = .ok (.iconst 4, 1) := by decide +kernel
theorem d_102_91 : decode prog_8_method_30_code 91 = .ok (.aload_n 0, 1) := by decide +kernel
theorem d_102_92 : decode prog_8_method_30_code 92 = .ok (.getfield 137, 3) := by decide +kernel
theorem d_102_95 : decode prog_8_method_30_code 95 = .ok (.imul, 1) := by decide +kernel
theorem d_102_96 : decode prog_8_method_30_code 96 = .ok (.iload_n 3, 1) := by decide +kernel
theorem d_102_97 : decode prog_8_method_30_code 97 = .ok (.iadd, 1) := by decide +kernel
theorem d_102_98 : decode prog_8_method_30_code 98 = .ok (.iload_n 1, 1) := by decide +kernel
theorem d_102_99 : decode prog_8_method_30_code 99 = .ok (.iastore, 1) := by decide +kernel
theorem d_102_100 : decode prog_8_method_30_code 100 = .ok (.aload_n 0, 1) := by decide +kernel
theorem d_102_101 : decode prog_8_method_30_code 101 = .ok (.getfield 16, 3) := by decide +kernel
theorem d_102_104 : decode prog_8_method_30_code 104 = .ok (.iconst 4, 1) := by decide +kernel
theorem d_102_105 : decode prog_8_method_30_code 105 = .ok (.aload_n 0, 1) := by decide +kernel
theorem d_102_106 : decode prog_8_method_30_code 106 = .ok (.getfield 137, 3) := by decide +kernel
theorem d_102_109 : decode prog_8_method_30_code 109 = .ok (.imul, 1) := by decide +kernel
theorem d_102_110 : decode prog_8_method_30_code 110 = .ok (.iload_n 3, 1) := by decide +kernel
theorem d_102_111 : decode prog_8_method_30_code 111 = .ok (.iadd, 1) := by decide +kernel
theorem d_102_112 : decode prog_8_method_30_code 112 = .ok (.iload_n 2, 1) := by decide +kernel
theorem d_102_113 : decode prog_8_method_30_code 113 = .ok (.iastore, 1) := by decide +kernel
theorem d_102_114 : decode prog_8_method_30_code 114 = .ok (.aload_n 0, 1) := by decide +kernel
theorem d_102_115 : decode prog_8_method_30_code 115 = .ok (.getfield 7, 3) := by decide +kernel
theorem d_102_118 : decode prog_8_method_30_code 118 = .ok (.aload_n 0, 1) := by decide +kernel
theorem d_102_119 : decode prog_8_method_30_code 119 = .ok (.getfield 137, 3) := by decide +kernel
theorem d_102_122 : decode prog_8_method_30_code 122 = .ok (.iload_n 3, 1) := by decide +kernel
theorem d_102_123 : decode prog_8_method_30_code 123 = .ok (.iconst 1, 1) := by decide +kernel
theorem d_102_124 : decode prog_8_method_30_code 124 = .ok (.iadd, 1) := by decide +kernel
theorem d_102_125 : decode prog_8_method_30_code 125 = .ok (.iastore, 1) := by decide +kernel
theorem d_102_126 : decode prog_8_method_30_code 126 = .ok (.iload_n 3, 1) := by decide +kernel
theorem d_102_127 : decode prog_8_method_30_code 127 = .ok (.ireturn, 1) := by decide +kernel
theorem d_103_0 : decode prog_8_method_2_code 0 = .ok (.iload_n 0, 1) := by decide +kernel
theorem d_103_1 : decode prog_8_method_2_code 1 = .ok (.bipush 33, 2) := by decide +kernel
theorem d_103_3 : decode prog_8_method_2_code 3 = .ok (.if_icmp .lt 13, 3) := by decide +kernel
theorem d_103_6 : decode prog_8_method_2_code 6 = .ok (.iload_n 0, 1) := by decide +kernel
theorem d_103_7 : decode prog_8_method_2_code 7 = .ok (.bipush 126, 2) := by decide +kernel
theorem d_103_9 : decode prog_8_method_2_code 9 = .ok (.if_icmp .gt 7, 3) := by decide +kernel
theorem d_103_12 : decode prog_8_method_2_code 12 = .ok (.iconst 1, 1) := by decide +kernel
theorem d_103_13 : decode prog_8_method_2_code 13 = .ok (.goto 4, 3) := by decide +kernel
theorem d_103_16 : decode prog_8_method_2_code 16 = .ok (.iconst 0, 1) := by decide +kernel
theorem d_103_17 : decode prog_8_method_2_code 17 = .ok (.ireturn, 1) := by decide +kernel
theorem d_104_0 : decode prog_8_method_27_code 0 = .ok (.iconst 0, 1) := by decide +kernel
theorem d_104_1 : decode prog_8_method_27_code 1 = .ok (.istore 4, 2) := by decide +kernel
theorem d_104_3 : decode prog_8_method_27_code 3 = .ok (.iconst 0, 1) := by decide +kernel
theorem d_104_4 : decode prog_8_method_27_code 4 = .ok (.istore 5, 2) := by decide +kernel
theorem d_104_6 : decode prog_8_method_27_code 6 = .ok (.iload 5, 2) := by decide +kernel
theorem d_104_8 : decode prog_8_method_27_code 8 = .ok (.aload_n 0, 1) := by decide +kernel
theorem d_104_9 : decode prog_8_method_27_code 9 = .ok (.getfield 7, 3) := by decide +kernel
theorem d_104_12 : decode prog_8_method_27_code 12 = .ok (.iload_n 1, 1) := by decide +kernel
theorem d_104_13 : decode prog_8_method_27_code 13 = .ok (.iaload, 1) := by decide +kernel
theorem d_104_14 : decode prog_8_method_27_code 14 = .ok (.if_icmp .ge 42, 3) := by decide +kernel
theorem d_104_17 : decode prog_8_method_27_code 17 = .ok (.iload 4, 2) := by decide +kernel
theorem d_104_19 : decode prog_8_method_27_code 19 = .ok (.ifCond .ne 24, 3) := by decide +kernel
theorem d_104_22 : decode prog_8_method_27_code 22 = .ok (.iload 5, 2) := by decide +kernel
theorem d_104_24 : decode prog_8_method_27_code 24 = .ok (.iload_n 3, 1) := by decide +kernel
theorem d_104_25 : decode prog_8_method_27_code 25 = .ok (.if_icmp .eq 22, 3) := by decide +kernel
theorem d_104_28 : decode prog_8_method_27_code 28 = .ok (.aload_n 0, 1) := by decide +kernel
theorem d_104_29 : decode prog_8_method_27_code 29 = .ok (.getfield 13, 3) := by decide +kernel
theorem d_104_32 : decode prog_8_method_27_code 32 = .ok (.iconst 4, 1) := by decide +kernel
theorem d_104_33 : decode prog_8_method_27_code 33 = .ok (.iload_n 1, 1) := by decide +kernel
theorem d_104_34 : decode prog_8_method_27_code 34 = .ok (.imul, 1) := by decide +kernel
theorem d_104_35 : decode prog_8_method_27_code 35 = .ok (.iload 5, 2) := by decide +kernel
theorem d_104_37 : decode prog_8_method_27_code 37 = .ok (.iadd, 1) := by decide +kernel
theorem d_104_38 : decode prog_8_method_27_code 38 = .ok (.iaload, 1) := by decide +kernel
theorem d_104_39 : decode prog_8_method_27_code 39 = .ok (.iload_n 2, 1) := by decide +kernel
theorem d_104_40 : decode prog_8_method_27_code 40 = .ok (.if_icmp .ne 7, 3) := by decide +kernel
theorem d_104_43 : decode prog_8_method_27_code 43 = .ok (.iconst 1, 1) := by decide +kernel
theorem d_104_44 : decode prog_8_method_27_code 44 = .ok (.goto 4, 3) := by decide +kernel
theorem d_104_47 : decode prog_8_method_27_code 47 = .ok (.iconst 0, 1) := by decide +kernel
theorem d_104_48 : decode prog_8_method_27_code 48 = .ok (.istore 4, 2) := by decide +kernel
theorem d_104_50 : decode prog_8_method_27_code 50 = .ok (.iinc 5 1, 3) := by decide +kernel
theorem d_104_53 : decode prog_8_method_27_code 53 = .ok (.goto (-47), 3) := by decide +kernel
theorem d_104_56 : decode prog_8_method_27_code 56 = .ok (.iload 4, 2) := by decide +kernel
theorem d_104_58 : decode prog_8_method_27_code 58 = .ok (.ireturn, 1) := by decide +kernel
theorem d_105_0 : decode prog_8_method_29_code 0 = .ok (.iconst 0, 1) := by decide +kernel
theorem d_105_1 : decode prog_8_method_29_code 1 = .ok (.istore_n 2, 1) := by decide +kernel
theorem d_105_2 : decode prog_8_method_29_code 2 = .ok (.iconst 0, 1) := by decide +kernel
theorem d_105_3 : decode prog_8_method_29_code 3 = .ok (.istore_n 3, 1) := by decide +kernel
theorem d_105_4 : decode prog_8_method_29_code 4 = .ok (.iload_n 3, 1) := by decide +kernel
theorem d_105_5 : decode prog_8_method_29_code 5 = .ok (.aload_n 0, 1) := by decide +kernel
theorem d_105_6 : decode prog_8_method_29_code 6 = .ok (.getfield 7, 3) := by decide +kernel
theorem d_105_9 : decode prog_8_method_29_code 9 = .ok (.iload_n 1, 1) := by decide +kernel
theorem d_105_10 : decode prog_8_method_29_code 10 = .ok (.iaload, 1) := by decide +kernel
theorem d_105_11 : decode prog_8_method_29_code 11 = .ok (.if_icmp .ge 30, 3) := by decide +kernel
theorem d_105_14 : decode prog_8_method_29_code 14 = .ok (.aload_n 0, 1) := by decide +kernel
theorem d_105_15 : decode prog_8_method_29_code 15 = .ok (.getfield 16, 3) := by decide +kernel
theorem d_105_18 : decode prog_8_method_29_code 18 = .ok (.iconst 4, 1) := by decide +kernel
theorem d_105_19 : decode prog_8_method_29_code 19 = .ok (.iload_n 1, 1) := by decide +kernel
theorem d_105_20 : decode prog_8_method_29_code 20 = .ok (.imul, 1) := by decide +kernel
theorem d_105_21 : decode prog_8_method_29_code 21 = .ok (.iload_n 3, 1) := by decide +kernel
theorem d_105_22 : decode prog_8_method_29_code 22 = .ok (.iadd, 1) := by decide +kernel
theorem d_105_23 : decode prog_8_method_29_code 23 = .ok (.iaload, 1) := by decide +kernel
theorem d_105_24 : decode prog_8_method_29_code 24 = .ok (.ifCond .ne 9, 3) := by decide +kernel
theorem d_105_27 : decode prog_8_method_29_code 27 = .ok (.iload_n 2, 1) := by decide +kernel
theorem d_105_28 : decode prog_8_method_29_code 28 = .ok (.iconst 1, 1) := by decide +kernel
theorem d_105_29 : decode prog_8_method_29_code 29 = .ok (.iadd, 1) := by decide +kernel
theorem d_105_30 : decode prog_8_method_29_code 30 = .ok (.goto 4, 3) := by decide +kernel
theorem d_105_33 : decode prog_8_method_29_code 33 = .ok (.iload_n 2, 1) := by decide +kernel
theorem d_105_34 : decode prog_8_method_29_code 34 = .ok (.istore_n 2, 1) := by decide +kernel
theorem d_105_35 : decode prog_8_method_29_code 35 = .ok (.iinc 3 1, 3) := by decide +kernel
theorem d_105_38 : decode prog_8_method_29_code 38 = .ok (.goto (-34), 3) := by decide +kernel
theorem d_105_41 : decode prog_8_method_29_code 41 = .ok (.iload_n 2, 1) := by decide +kernel
theorem d_105_42 : decode prog_8_method_29_code 42 = .ok (.ireturn, 1) := by decide +kernel
theorem d_106_0 : decode prog_8_method_32_code 0 = .ok (.aload_n 0, 1) := by decide +kernel
theorem d_106_1 : decode prog_8_method_32_code 1 = .ok (.getfield 140, 3) := by decide +kernel
theorem d_106_4 : decode prog_8_method_32_code 4 = .ok (.ifCond .eq 5, 3) := by decide +kernel
theorem d_106_7 : decode prog_8_method_32_code 7 = .ok (.iconst (-1), 1) := by decide +kernel
theorem d_106_8 : decode prog_8_method_32_code 8 = .ok (.ireturn, 1) := by decide +kernel
theorem d_106_9 : decode prog_8_method_32_code 9 = .ok (.iload_n 1, 1) := by decide +kernel
theorem d_106_10 : decode prog_8_method_32_code 10 = .ok (.invokestatic 144, 3) := by decide +kernel
theorem d_106_13 : decode prog_8_method_32_code 13 = .ok (.ifCond .eq 13, 3) := by decide +kernel
theorem d_106_16 : decode prog_8_method_32_code 16 = .ok (.iload_n 2, 1) := by decide +kernel
theorem d_106_17 : decode prog_8_method_32_code 17 = .ok (.iconst 1, 1) := by decide +kernel
theorem d_106_18 : decode prog_8_method_32_code 18 = .ok (.if_icmp .lt 8, 3) := by decide +kernel
theorem d_106_21 : decode prog_8_method_32_code 21 = .ok (.iload_n 2, 1) := by decide +kernel
theorem d_106_22 : decode prog_8_method_32_code 22 = .ok (.iconst 4, 1) := by decide +kernel
theorem d_106_23 : decode prog_8_method_32_code 23 = .ok (.if_icmp .le 6, 3) := by decide +kernel
theorem d_106_26 : decode prog_8_method_32_code 26 = .ok (.bipush (-2), 2) := by decide +kernel
theorem d_106_28 : decode prog_8_method_32_code 28 = .ok (.ireturn, 1) := by decide +kernel
theorem d_106_29 : decode prog_8_method_32_code 29 = .ok (.iload_n 3, 1) := by decide +kernel
theorem d_106_30 : decode prog_8_method_32_code 30 = .ok (.iconst (-1), 1) := by decide +kernel
theorem d_106_31 : decode prog_8_method_32_code 31 = .ok (.if_icmp .eq 11, 3) := by decide +kernel
theorem d_106_34 : decode prog_8_method_32_code 34 = .ok (.aload_n 0, 1) := by decide +kernel
theorem d_106_35 : decode prog_8_method_32_code 35 = .ok (.iload_n 3, 1) := by decide +kernel
theorem d_106_36 : decode prog_8_method_32_code 36 = .ok (.invokevirtual 158, 3) := by decide +kernel
theorem d_106_39 : decode prog_8_method_32_code 39 = .ok (.ifCond .eq 29, 3) := by decide +kernel
theorem d_106_42 : decode prog_8_method_32_code 42 = .ok (.iload 4, 2) := by decide +kernel
theorem d_106_44 : decode prog_8_method_32_code 44 = .ok (.iconst (-1), 1) := by decide +kernel
theorem d_106_45 : decode prog_8_method_32_code 45 = .ok (.if_icmp .eq 12, 3) := by decide +kernel
theorem d_106_48 : decode prog_8_method_32_code 48 = .ok (.aload_n 0, 1) := by decide +kernel
theorem d_106_49 : decode prog_8_method_32_code 49 = .ok (.iload 4, 2) := by decide +kernel
theorem d_106_51 : decode prog_8_method_32_code 51 = .ok (.invokevirtual 158, 3) := by decide +kernel
theorem d_106_54 : decode prog_8_method_32_code 54 = .ok (.ifCond .eq 14, 3) := by decide +kernel
theorem d_106_57 : decode prog_8_method_32_code 57 = .ok (.iload_n 3, 1) := by decide +kernel
theorem d_106_58 : decode prog_8_method_32_code 58 = .ok (.iconst (-1), 1) := by decide +kernel
theorem d_106_59 : decode prog_8_method_32_code 59 = .ok (.if_icmp .ne 12, 3) := by decide +kernel
theorem d_106_62 : decode prog_8_method_32_code 62 = .ok (.iload 4, 2) := by decide +kernel
theorem d_106_64 : decode prog_8_method_32_code 64 = .ok (.iconst (-1), 1) := by decide +kernel
theorem d_106_65 : decode prog_8_method_32_code 65 = .ok (.if_icmp .eq 6, 3) := by decide +kernel
theorem d_106_68 : decode prog_8_method_32_code 68 = .ok (.bipush (-3), 2) := by decide +kernel
theorem d_106_70 : decode prog_8_method_32_code 70 = .ok (.ireturn, 1) := by decide +kernel
theorem d_106_71 : decode prog_8_method_32_code 71 = .ok (.iload 4, 2) := by decide +kernel
theorem d_106_73 : decode prog_8_method_32_code 73 = .ok (.iconst (-1), 1) := by decide +kernel
theorem d_106_74 : decode prog_8_method_32_code 74 = .ok (.if_icmp .eq 23, 3) := by decide +kernel
theorem d_106_77 : decode prog_8_method_32_code 77 = .ok (.aload_n 0, 1) := by decide +kernel
theorem d_106_78 : decode prog_8_method_32_code 78 = .ok (.getfield 16, 3) := by decide +kernel
theorem d_106_81 : decode prog_8_method_32_code 81 = .ok (.iconst 4, 1) := by decide +kernel
theorem d_106_82 : decode prog_8_method_32_code 82 = .ok (.aload_n 0, 1) := by decide +kernel
theorem d_106_83 : decode prog_8_method_32_code 83 = .ok (.getfield 137, 3) := by decide +kernel
theorem d_106_86 : decode prog_8_method_32_code 86 = .ok (.imul, 1) := by decide +kernel
theorem d_106_87 : decode prog_8_method_32_code 87 = .ok (.iload 4, 2) := by decide +kernel
theorem d_106_89 : decode prog_8_method_32_code 89 = .ok (.iadd, 1) := by decide +kernel
theorem d_106_90 : decode prog_8_method_32_code 90 = .ok (.iaload, 1) := by decide +kernel
theorem d_106_91 : decode prog_8_method_32_code 91 = .ok (.ifCond .ne 6, 3) := by decide +kernel
theorem d_106_94 : decode prog_8_method_32_code 94 = .ok (.bipush (-2), 2) := by decide +kernel
theorem d_106_96 : decode prog_8_method_32_code 96 = .ok (.ireturn, 1) := by decide +kernel
theorem d_106_97 : decode prog_8_method_32_code 97 = .ok (.aload_n 0, 1) := by decide +kernel
theorem d_106_98 : decode prog_8_method_32_code 98 = .ok (.aload_n 0, 1) := by decide +kernel
theorem d_106_99 : decode prog_8_method_32_code 99 = .ok (.getfield 137, 3) := by decide +kernel
theorem d_106_102 : decode prog_8_method_32_code 102 = .ok (.iload_n 1, 1) := by decide +kernel
theorem d_106_103 : decode prog_8_method_32_code 103 = .ok (.iconst (-1), 1) := by decide +kernel
theorem d_106_104 : decode prog_8_method_32_code 104 = .ok (.invokevirtual 161, 3) := by decide +kernel
theorem d_106_107 : decode prog_8_method_32_code 107 = .ok (.ifCond .eq 6, 3) := by decide +kernel
theorem d_106_110 : decode prog_8_method_32_code 110 = .ok (.bipush (-4), 2) := by decide +kernel
theorem d_106_112 : decode prog_8_method_32_code 112 = .ok (.ireturn, 1) := by decide +kernel
theorem d_106_113 : decode prog_8_method_32_code 113 = .ok (.aload_n 0, 1) := by decide +kernel
theorem d_106_114 : decode prog_8_method_32_code 114 = .ok (.getfield 19, 3) := by decide +kernel
theorem d_106_117 : decode prog_8_method_32_code 117 = .ok (.aload_n 0, 1) := by decide +kernel
theorem d_106_118 : decode prog_8_method_32_code 118 = .ok (.getfield 137, 3) := by decide +kernel
theorem d_106_121 : decode prog_8_method_32_code 121 = .ok (.iaload, 1) := by decide +kernel
theorem d_106_122 : decode prog_8_method_32_code 122 = .ok (.iconst 5, 1) := by decide +kernel
theorem d_106_123 : decode prog_8_method_32_code 123 = .ok (.if_icmp .ne 6, 3) := by decide +kernel
theorem d_106_126 : decode prog_8_method_32_code 126 = .ok (.bipush (-5), 2) := by decide +kernel
theorem d_106_128 : decode prog_8_method_32_code 128 = .ok (.ireturn, 1) := by decide +kernel
theorem d_106_129 : decode prog_8_method_32_code 129 = .ok (.aload_n 0, 1) := by decide +kernel
theorem d_106_130 : decode prog_8_method_32_code 130 = .ok (.getfield 19, 3) := by decide +kernel
theorem d_106_133 : decode prog_8_method_32_code 133 = .ok (.aload_n 0, 1) := by decide +kernel
theorem d_106_134 : decode prog_8_method_32_code 134 = .ok (.getfield 137, 3) := by decide +kernel
theorem d_106_137 : decode prog_8_method_32_code 137 = .ok (.iaload, 1) := by decide +kernel
theorem d_106_138 : decode prog_8_method_32_code 138 = .ok (.istore 5, 2) := by decide +kernel
theorem d_106_140 : decode prog_8_method_32_code 140 = .ok (.iconst 5, 1) := by decide +kernel
theorem d_106_141 : decode prog_8_method_32_code 141 = .ok (.aload_n 0, 1) := by decide +kernel
theorem d_106_142 : decode prog_8_method_32_code 142 = .ok (.getfield 137, 3) := by decide +kernel
theorem d_106_145 : decode prog_8_method_32_code 145 = .ok (.imul, 1) := by decide +kernel
theorem d_106_146 : decode prog_8_method_32_code 146 = .ok (.iload 5, 2) := by decide +kernel
theorem d_106_148 : decode prog_8_method_32_code 148 = .ok (.iadd, 1) := by decide +kernel
theorem d_106_149 : decode prog_8_method_32_code 149 = .ok (.istore 6, 2) := by decide +kernel
theorem d_106_151 : decode prog_8_method_32_code 151 = .ok (.aload_n 0, 1) := by decide +kernel
theorem d_106_152 : decode prog_8_method_32_code 152 = .ok (.getfield 22, 3) := by decide +kernel
theorem d_106_155 : decode prog_8_method_32_code 155 = .ok (.iload 6, 2) := by decide +kernel
theorem d_106_157 : decode prog_8_method_32_code 157 = .ok (.iload_n 1, 1) := by decide +kernel
theorem d_106_158 : decode prog_8_method_32_code 158 = .ok (.iastore, 1) := by decide +kernel
theorem d_106_159 : decode prog_8_method_32_code 159 = .ok (.aload_n 0, 1) := by decide +kernel
theorem d_106_160 : decode prog_8_method_32_code 160 = .ok (.getfield 25, 3) := by decide +kernel
theorem d_106_163 : decode prog_8_method_32_code 163 = .ok (.iload 6, 2) := by decide +kernel
theorem d_106_165 : decode prog_8_method_32_code 165 = .ok (.iload_n 2, 1) := by decide +kernel
theorem d_106_166 : decode prog_8_method_32_code 166 = .ok (.iastore, 1) := by decide +kernel
theorem d_106_167 : decode prog_8_method_32_code 167 = .ok (.aload_n 0, 1) := by decide +kernel
theorem d_106_168 : decode prog_8_method_32_code 168 = .ok (.getfield 28, 3) := by decide +kernel
theorem d_106_171 : decode prog_8_method_32_code 171 = .ok (.iload 6, 2) := by decide +kernel
theorem d_106_173 : decode prog_8_method_32_code 173 = .ok (.iload_n 3, 1) := by decide +kernel
theorem d_106_174 : decode prog_8_method_32_code 174 = .ok (.iconst (-1), 1) := by decide +kernel
theorem d_106_175 : decode prog_8_method_32_code 175 = .ok (.if_icmp .ne 7, 3) := by decide +kernel
theorem d_106_178 : decode prog_8_method_32_code 178 = .ok (.iconst 0, 1) := by decide +kernel
theorem d_106_179 : decode prog_8_method_32_code 179 = .ok (.goto 14, 3) := by decide +kernel
theorem d_106_182 : decode prog_8_method_32_code 182 = .ok (.iload 4, 2) := by decide +kernel
theorem d_106_184 : decode prog_8_method_32_code 184 = .ok (.iconst (-1), 1) := by decide +kernel
theorem d_106_185 : decode prog_8_method_32_code 185 = .ok (.if_icmp .ne 7, 3) := by decide +kernel
theorem d_106_188 : decode prog_8_method_32_code 188 = .ok (.iconst 1, 1) := by decide +kernel
theorem d_106_189 : decode prog_8_method_32_code 189 = .ok (.goto 4, 3) := by decide +kernel
theorem d_106_192 : decode prog_8_method_32_code 192 = .ok (.iconst 2, 1) := by decide +kernel
theorem d_106_193 : decode prog_8_method_32_code 193 = .ok (.iastore, 1) := by decide +kernel
theorem d_106_194 : decode prog_8_method_32_code 194 = .ok (.aload_n 0, 1) := by decide +kernel
theorem d_106_195 : decode prog_8_method_32_code 195 = .ok (.getfield 31, 3) := by decide +kernel
theorem d_106_198 : decode prog_8_method_32_code 198 = .ok (.iconst 2, 1) := by decide +kernel
theorem d_106_199 : decode prog_8_method_32_code 199 = .ok (.iload 6, 2) := by decide +kernel
theorem d_106_201 : decode prog_8_method_32_code 201 = .ok (.imul, 1) := by decide +kernel
theorem d_106_202 : decode prog_8_method_32_code 202 = .ok (.iload_n 3, 1) := by decide +kernel
theorem d_106_203 : decode prog_8_method_32_code 203 = .ok (.iastore, 1) := by decide +kernel
theorem d_106_204 : decode prog_8_method_32_code 204 = .ok (.aload_n 0, 1) := by decide +kernel
theorem d_106_205 : decode prog_8_method_32_code 205 = .ok (.getfield 31, 3) := by decide +kernel
theorem d_106_208 : decode prog_8_method_32_code 208 = .ok (.iconst 2, 1) := by decide +kernel
theorem d_106_209 : decode prog_8_method_32_code 209 = .ok (.iload 6, 2) := by decide +kernel
theorem d_106_211 : decode prog_8_method_32_code 211 = .ok (.imul, 1) := by decide +kernel
theorem d_106_212 : decode prog_8_method_32_code 212 = .ok (.iconst 1, 1) := by decide +kernel
theorem d_106_213 : decode prog_8_method_32_code 213 = .ok (.iadd, 1) := by decide +kernel
theorem d_106_214 : decode prog_8_method_32_code 214 = .ok (.iload 4, 2) := by decide +kernel
theorem d_106_216 : decode prog_8_method_32_code 216 = .ok (.iastore, 1) := by decide +kernel
theorem d_106_217 : decode prog_8_method_32_code 217 = .ok (.aload_n 0, 1) := by decide +kernel
theorem d_106_218 : decode prog_8_method_32_code 218 = .ok (.getfield 34, 3) := by decide +kernel
theorem d_106_221 : decode prog_8_method_32_code 221 = .ok (.bipush 6, 2) := by decide +kernel
theorem d_106_223 : decode prog_8_method_32_code 223 = .ok (.aload_n 0, 1) := by decide +kernel
theorem d_106_224 : decode prog_8_method_32_code 224 = .ok (.getfield 137, 3) := by decide +kernel
theorem d_106_227 : decode prog_8_method_32_code 227 = .ok (.imul, 1) := by decide +kernel
theorem d_106_228 : decode prog_8_method_32_code 228 = .ok (.iload 5, 2) := by decide +kernel
theorem d_106_230 : decode prog_8_method_32_code 230 = .ok (.iadd, 1) := by decide +kernel
theorem d_106_231 : decode prog_8_method_32_code 231 = .ok (.iconst 1, 1) := by decide +kernel
theorem d_106_232 : decode prog_8_method_32_code 232 = .ok (.iadd, 1) := by decide +kernel
theorem d_106_233 : decode prog_8_method_32_code 233 = .ok (.iconst 0, 1) := by decide +kernel
theorem d_106_234 : decode prog_8_method_32_code 234 = .ok (.iastore, 1) := by decide +kernel
theorem d_106_235 : decode prog_8_method_32_code 235 = .ok (.aload_n 0, 1) := by decide +kernel
theorem d_106_236 : decode prog_8_method_32_code 236 = .ok (.aload_n 0, 1) := by decide +kernel
theorem d_106_237 : decode prog_8_method_32_code 237 = .ok (.getfield 137, 3) := by decide +kernel
theorem d_106_240 : decode prog_8_method_32_code 240 = .ok (.iload 5, 2) := by decide +kernel
theorem d_106_242 : decode prog_8_method_32_code 242 = .ok (.invokevirtual 164, 3) := by decide +kernel
theorem d_106_245 : decode prog_8_method_32_code 245 = .ok (.aload_n 0, 1) := by decide +kernel
theorem d_106_246 : decode prog_8_method_32_code 246 = .ok (.getfield 19, 3) := by decide +kernel
theorem d_106_249 : decode prog_8_method_32_code 249 = .ok (.aload_n 0, 1) := by decide +kernel
theorem d_106_250 : decode prog_8_method_32_code 250 = .ok (.getfield 137, 3) := by decide +kernel
theorem d_106_253 : decode prog_8_method_32_code 253 = .ok (.iload 5, 2) := by decide +kernel
theorem d_106_255 : decode prog_8_method_32_code 255 = .ok (.iconst 1, 1) := by decide +kernel
theorem d_106_256 : decode prog_8_method_32_code 256 = .ok (.iadd, 1) := by decide +kernel
theorem d_106_257 : decode prog_8_method_32_code 257 = .ok (.iastore, 1) := by decide +kernel
theorem d_106_258 : decode prog_8_method_32_code 258 = .ok (.iload 5, 2) := by decide +kernel
theorem d_106_260 : decode prog_8_method_32_code 260 = .ok (.ireturn, 1) := by decide +kernel
theorem d_107_0 : decode prog_8_method_25_code 0 = .ok (.iload_n 1, 1) := by decide +kernel
theorem d_107_1 : decode prog_8_method_25_code 1 = .ok (.ifCond .lt 20, 3) := by decide +kernel
theorem d_107_4 : decode prog_8_method_25_code 4 = .ok (.iload_n 1, 1) := by decide +kernel
theorem d_107_5 : decode prog_8_method_25_code 5 = .ok (.aload_n 0, 1) := by decide +kernel
theorem d_107_6 : decode prog_8_method_25_code 6 = .ok (.getfield 7, 3) := by decide +kernel
theorem d_107_9 : decode prog_8_method_25_code 9 = .ok (.aload_n 0, 1) := by decide +kernel
theorem d_107_10 : decode prog_8_method_25_code 10 = .ok (.getfield 137, 3) := by decide +kernel
theorem d_107_13 : decode prog_8_method_25_code 13 = .ok (.iaload, 1) := by decide +kernel
theorem d_107_14 : decode prog_8_method_25_code 14 = .ok (.if_icmp .ge 7, 3) := by decide +kernel
theorem d_107_17 : decode prog_8_method_25_code 17 = .ok (.iconst 1, 1) := by decide +kernel
theorem d_107_18 : decode prog_8_method_25_code 18 = .ok (.goto 4, 3) := by decide +kernel
theorem d_107_21 : decode prog_8_method_25_code 21 = .ok (.iconst 0, 1) := by decide +kernel
theorem d_107_22 : decode prog_8_method_25_code 22 = .ok (.ireturn, 1) := by decide +kernel
theorem d_108_0 : decode prog_8_method_28_code 0 = .ok (.iconst 0, 1) := by decide +kernel
theorem d_108_1 : decode prog_8_method_28_code 1 = .ok (.istore 4, 2) := by decide +kernel
theorem d_108_3 : decode prog_8_method_28_code 3 = .ok (.iconst 0, 1) := by decide +kernel
theorem d_108_4 : decode prog_8_method_28_code 4 = .ok (.istore 5, 2) := by decide +kernel
theorem d_108_6 : decode prog_8_method_28_code 6 = .ok (.iload 5, 2) := by decide +kernel
theorem d_108_8 : decode prog_8_method_28_code 8 = .ok (.aload_n 0, 1) := by decide +kernel
theorem d_108_9 : decode prog_8_method_28_code 9 = .ok (.getfield 19, 3) := by decide +kernel
theorem d_108_12 : decode prog_8_method_28_code 12 = .ok (.iload_n 1, 1) := by decide +kernel
theorem d_108_13 : decode prog_8_method_28_code 13 = .ok (.iaload, 1) := by decide +kernel
theorem d_108_14 : decode prog_8_method_28_code 14 = .ok (.if_icmp .ge 42, 3) := by decide +kernel
theorem d_108_17 : decode prog_8_method_28_code 17 = .ok (.iload 4, 2) := by decide +kernel
theorem d_108_19 : decode prog_8_method_28_code 19 = .ok (.ifCond .ne 24, 3) := by decide +kernel
theorem d_108_22 : decode prog_8_method_28_code 22 = .ok (.iload 5, 2) := by decide +kernel
theorem d_108_24 : decode prog_8_method_28_code 24 = .ok (.iload_n 3, 1) := by decide +kernel
theorem d_108_25 : decode prog_8_method_28_code 25 = .ok (.if_icmp .eq 22, 3) := by decide +kernel
theorem d_108_28 : decode prog_8_method_28_code 28 = .ok (.aload_n 0, 1) := by decide +kernel
theorem d_108_29 : decode prog_8_method_28_code 29 = .ok (.getfield 22, 3) := by decide +kernel
theorem d_108_32 : decode prog_8_method_28_code 32 = .ok (.iconst 5, 1) := by decide +kernel
theorem d_108_33 : decode prog_8_method_28_code 33 = .ok (.iload_n 1, 1) := by decide +kernel
theorem d_108_34 : decode prog_8_method_28_code 34 = .ok (.imul, 1) := by decide +kernel
theorem d_108_35 : decode prog_8_method_28_code 35 = .ok (.iload 5, 2) := by decide +kernel
theorem d_108_37 : decode prog_8_method_28_code 37 = .ok (.iadd, 1) := by decide +kernel
theorem d_108_38 : decode prog_8_method_28_code 38 = .ok (.iaload, 1) := by decide +kernel
theorem d_108_39 : decode prog_8_method_28_code 39 = .ok (.iload_n 2, 1) := by decide +kernel
theorem d_108_40 : decode prog_8_method_28_code 40 = .ok (.if_icmp .ne 7, 3) := by decide +kernel
theorem d_108_43 : decode prog_8_method_28_code 43 = .ok (.iconst 1, 1) := by decide +kernel
theorem d_108_44 : decode prog_8_method_28_code 44 = .ok (.goto 4, 3) := by decide +kernel
theorem d_108_47 : decode prog_8_method_28_code 47 = .ok (.iconst 0, 1) := by decide +kernel
theorem d_108_48 : decode prog_8_method_28_code 48 = .ok (.istore 4, 2) := by decide +kernel
theorem d_108_50 : decode prog_8_method_28_code 50 = .ok (.iinc 5 1, 3) := by decide +kernel
theorem d_108_53 : decode prog_8_method_28_code 53 = .ok (.goto (-47), 3) := by decide +kernel
theorem d_108_56 : decode prog_8_method_28_code 56 = .ok (.iload 4, 2) := by decide +kernel
theorem d_108_58 : decode prog_8_method_28_code 58 = .ok (.ireturn, 1) := by decide +kernel
theorem d_109_0 : decode prog_8_method_31_code 0 = .ok (.iconst 0, 1) := by decide +kernel
theorem d_109_1 : decode prog_8_method_31_code 1 = .ok (.istore_n 3, 1) := by decide +kernel
theorem d_109_2 : decode prog_8_method_31_code 2 = .ok (.iload_n 3, 1) := by decide +kernel
theorem d_109_3 : decode prog_8_method_31_code 3 = .ok (.sipush 800, 3) := by decide +kernel
theorem d_109_6 : decode prog_8_method_31_code 6 = .ok (.if_icmp .ge 38, 3) := by decide +kernel
theorem d_109_9 : decode prog_8_method_31_code 9 = .ok (.aload_n 0, 1) := by decide +kernel
theorem d_109_10 : decode prog_8_method_31_code 10 = .ok (.getfield 52, 3) := by decide +kernel
theorem d_109_13 : decode prog_8_method_31_code 13 = .ok (.sipush 800, 3) := by decide +kernel
theorem d_109_16 : decode prog_8_method_31_code 16 = .ok (.iconst 5, 1) := by decide +kernel
theorem d_109_17 : decode prog_8_method_31_code 17 = .ok (.iload_n 1, 1) := by decide +kernel
theorem d_109_18 : decode prog_8_method_31_code 18 = .ok (.imul, 1) := by decide +kernel
theorem d_109_19 : decode prog_8_method_31_code 19 = .ok (.iload_n 2, 1) := by decide +kernel
theorem d_109_20 : decode prog_8_method_31_code 20 = .ok (.iadd, 1) := by decide +kernel
theorem d_109_21 : decode prog_8_method_31_code 21 = .ok (.imul, 1) := by decide +kernel
theorem d_109_22 : decode prog_8_method_31_code 22 = .ok (.iload_n 3, 1) := by decide +kernel
theorem d_109_23 : decode prog_8_method_31_code 23 = .ok (.iadd, 1) := by decide +kernel
theorem d_109_24 : decode prog_8_method_31_code 24 = .ok (.aload_n 0, 1) := by decide +kernel
theorem d_109_25 : decode prog_8_method_31_code 25 = .ok (.getfield 25, 3) := by decide +kernel
theorem d_109_28 : decode prog_8_method_31_code 28 = .ok (.iconst 5, 1) := by decide +kernel
theorem d_109_29 : decode prog_8_method_31_code 29 = .ok (.iload_n 1, 1) := by decide +kernel
theorem d_109_30 : decode prog_8_method_31_code 30 = .ok (.imul, 1) := by decide +kernel
theorem d_109_31 : decode prog_8_method_31_code 31 = .ok (.iload_n 2, 1) := by decide +kernel
theorem d_109_32 : decode prog_8_method_31_code 32 = .ok (.iadd, 1) := by decide +kernel
theorem d_109_33 : decode prog_8_method_31_code 33 = .ok (.iaload, 1) := by decide +kernel
theorem d_109_34 : decode prog_8_method_31_code 34 = .ok (.invokestatic 155, 3) := by decide +kernel
theorem d_109_37 : decode prog_8_method_31_code 37 = .ok (.iastore, 1) := by decide +kernel
theorem d_109_38 : decode prog_8_method_31_code 38 = .ok (.iinc 3 1, 3) := by decide +kernel
theorem d_109_41 : decode prog_8_method_31_code 41 = .ok (.goto (-39), 3) := by decide +kernel
theorem d_109_44 : decode prog_8_method_31_code 44 = .ok (.return_, 1) := by decide +kernel
theorem d_110_0 : decode prog_8_method_4_code 0 = .ok (.iload_n 0, 1) := by decide +kernel
theorem d_110_1 : decode prog_8_method_4_code 1 = .ok (.iconst 1, 1) := by decide +kernel
theorem d_110_2 : decode prog_8_method_4_code 2 = .ok (.if_icmp .ne 8, 3) := by decide +kernel
theorem d_110_5 : decode prog_8_method_4_code 5 = .ok (.bipush (-127), 2) := by decide +kernel
theorem d_110_7 : decode prog_8_method_4_code 7 = .ok (.goto 25, 3) := by decide +kernel
theorem d_110_10 : decode prog_8_method_4_code 10 = .ok (.iload_n 0, 1) := by decide +kernel
theorem d_110_11 : decode prog_8_method_4_code 11 = .ok (.iconst 2, 1) := by decide +kernel
theorem d_110_12 : decode prog_8_method_4_code 12 = .ok (.if_icmp .ne 7, 3) := by decide +kernel
theorem d_110_15 : decode prog_8_method_4_code 15 = .ok (.iconst 0, 1) := by decide +kernel
theorem d_110_16 : decode prog_8_method_4_code 16 = .ok (.goto 16, 3) := by decide +kernel
theorem d_110_19 : decode prog_8_method_4_code 19 = .ok (.iload_n 0, 1) := by decide +kernel
theorem d_110_20 : decode prog_8_method_4_code 20 = .ok (.iconst 3, 1) := by decide +kernel
theorem d_110_21 : decode prog_8_method_4_code 21 = .ok (.if_icmp .ne 9, 3) := by decide +kernel
theorem d_110_24 : decode prog_8_method_4_code 24 = .ok (.sipush (-32767), 3) := by decide +kernel
theorem d_110_27 : decode prog_8_method_4_code 27 = .ok (.goto 5, 3) := by decide +kernel
theorem d_110_30 : decode prog_8_method_4_code 30 = .ok (.ldc 70, 2) := by decide +kernel
theorem d_110_32 : decode prog_8_method_4_code 32 = .ok (.ireturn, 1) := by decide +kernel
theorem d_111_0 : decode prog_8_method_34_code 0 = .ok (.aload_n 0, 1) := by decide +kernel
theorem d_111_1 : decode prog_8_method_34_code 1 = .ok (.getfield 140, 3) := by decide +kernel
theorem d_111_4 : decode prog_8_method_34_code 4 = .ok (.ifCond .eq 5, 3) := by decide +kernel
theorem d_111_7 : decode prog_8_method_34_code 7 = .ok (.iconst (-1), 1) := by decide +kernel
theorem d_111_8 : decode prog_8_method_34_code 8 = .ok (.ireturn, 1) := by decide +kernel
theorem d_111_9 : decode prog_8_method_34_code 9 = .ok (.iload_n 1, 1) := by decide +kernel
theorem d_111_10 : decode prog_8_method_34_code 10 = .ok (.iconst (-1), 1) := by decide +kernel
theorem d_111_11 : decode prog_8_method_34_code 11 = .ok (.if_icmp .eq 14, 3) := by decide +kernel
theorem d_111_14 : decode prog_8_method_34_code 14 = .ok (.aload_n 0, 1) := by decide +kernel
theorem d_111_15 : decode prog_8_method_34_code 15 = .ok (.iload_n 1, 1) := by decide +kernel
theorem d_111_16 : decode prog_8_method_34_code 16 = .ok (.invokevirtual 167, 3) := by decide +kernel
theorem d_111_19 : decode prog_8_method_34_code 19 = .ok (.ifCond .ne 6, 3) := by decide +kernel
theorem d_111_22 : decode prog_8_method_34_code 22 = .ok (.bipush (-3), 2) := by decide +kernel
theorem d_111_24 : decode prog_8_method_34_code 24 = .ok (.ireturn, 1) := by decide +kernel
theorem d_111_25 : decode prog_8_method_34_code 25 = .ok (.iload_n 2, 1) := by decide +kernel
theorem d_111_26 : decode prog_8_method_34_code 26 = .ok (.invokestatic 144, 3) := by decide +kernel
theorem d_111_29 : decode prog_8_method_34_code 29 = .ok (.ifCond .eq 13, 3) := by decide +kernel
theorem d_111_32 : decode prog_8_method_34_code 32 = .ok (.iload_n 3, 1) := by decide +kernel
theorem d_111_33 : decode prog_8_method_34_code 33 = .ok (.iconst 1, 1) := by decide +kernel
theorem d_111_34 : decode prog_8_method_34_code 34 = .ok (.if_icmp .lt 8, 3) := by decide +kernel
theorem d_111_37 : decode prog_8_method_34_code 37 = .ok (.iload_n 3, 1) := by decide +kernel
theorem d_111_38 : decode prog_8_method_34_code 38 = .ok (.iconst 4, 1) := by decide +kernel
theorem d_111_39 : decode prog_8_method_34_code 39 = .ok (.if_icmp .le 6, 3) := by decide +kernel
theorem d_111_42 : decode prog_8_method_34_code 42 = .ok (.bipush (-2), 2) := by decide +kernel
theorem d_111_44 : decode prog_8_method_34_code 44 = .ok (.ireturn, 1) := by decide +kernel
theorem d_111_45 : decode prog_8_method_34_code 45 = .ok (.iload_n 3, 1) := by decide +kernel
theorem d_111_46 : decode prog_8_method_34_code 46 = .ok (.iload 4, 2) := by decide +kernel
theorem d_111_48 : decode prog_8_method_34_code 48 = .ok (.invokestatic 170, 3) := by decide +kernel
theorem d_111_51 : decode prog_8_method_34_code 51 = .ok (.ifCond .eq 12, 3) := by decide +kernel
theorem d_111_54 : decode prog_8_method_34_code 54 = .ok (.iload_n 3, 1) := by decide +kernel
theorem d_111_55 : decode prog_8_method_34_code 55 = .ok (.iload 5, 2) := by decide +kernel
theorem d_111_57 : decode prog_8_method_34_code 57 = .ok (.invokestatic 170, 3) := by decide +kernel
theorem d_111_60 : decode prog_8_method_34_code 60 = .ok (.ifCond .ne 6, 3) := by decide +kernel
theorem d_111_63 : decode prog_8_method_34_code 63 = .ok (.bipush (-6), 2) := by decide +kernel
theorem d_111_65 : decode prog_8_method_34_code 65 = .ok (.ireturn, 1) := by decide +kernel
theorem d_111_66 : decode prog_8_method_34_code 66 = .ok (.aload_n 0, 1) := by decide +kernel
theorem d_111_67 : decode prog_8_method_34_code 67 = .ok (.iload_n 1, 1) := by decide +kernel
theorem d_111_68 : decode prog_8_method_34_code 68 = .ok (.iconst 1, 1) := by decide +kernel
theorem d_111_69 : decode prog_8_method_34_code 69 = .ok (.iadd, 1) := by decide +kernel
theorem d_111_70 : decode prog_8_method_34_code 70 = .ok (.iload_n 2, 1) := by decide +kernel
theorem d_111_71 : decode prog_8_method_34_code 71 = .ok (.invokevirtual 173, 3) := by decide +kernel
theorem d_111_74 : decode prog_8_method_34_code 74 = .ok (.istore 6, 2) := by decide +kernel
theorem d_111_76 : decode prog_8_method_34_code 76 = .ok (.bipush 6, 2) := by decide +kernel
theorem d_111_78 : decode prog_8_method_34_code 78 = .ok (.aload_n 0, 1) := by decide +kernel
theorem d_111_79 : decode prog_8_method_34_code 79 = .ok (.getfield 137, 3) := by decide +kernel
theorem d_111_82 : decode prog_8_method_34_code 82 = .ok (.imul, 1) := by decide +kernel
theorem d_111_83 : decode prog_8_method_34_code 83 = .ok (.iload_n 1, 1) := by decide +kernel
theorem d_111_84 : decode prog_8_method_34_code 84 = .ok (.iadd, 1) := by decide +kernel
