theorem d_136_110 : decode prog_8_method_48_code 110 = .ok (.ifCond .ne 6, 3) := by decide +kernel
theorem d_136_113 : decode prog_8_method_48_code 113 = .ok (.bipush (-8), 2) := by decide +kernel
theorem d_136_115 : decode prog_8_method_48_code 115 = .ok (.ireturn, 1) := by decide +kernel
theorem d_136_116 : decode prog_8_method_48_code 116 = .ok (.iconst 0, 1) := by decide +kernel
theorem d_136_117 : decode prog_8_method_48_code 117 = .ok (.istore 5, 2) := by decide +kernel
theorem d_136_119 : decode prog_8_method_48_code 119 = .ok (.iload 5, 2) := by decide +kernel
theorem d_136_121 : decode prog_8_method_48_code 121 = .ok (.iload 4, 2) := by decide +kernel
theorem d_136_123 : decode prog_8_method_48_code 123 = .ok (.if_icmp .ge 55, 3) := by decide +kernel
theorem d_136_126 : decode prog_8_method_48_code 126 = .ok (.aload_n 0, 1) := by decide +kernel
theorem d_136_127 : decode prog_8_method_48_code 127 = .ok (.getfield 52, 3) := by decide +kernel
theorem d_136_130 : decode prog_8_method_48_code 130 = .ok (.aload_n 0, 1) := by decide +kernel
theorem d_136_131 : decode prog_8_method_48_code 131 = .ok (.iload_n 1, 1) := by decide +kernel
theorem d_136_132 : decode prog_8_method_48_code 132 = .ok (.aload_n 0, 1) := by decide +kernel
theorem d_136_133 : decode prog_8_method_48_code 133 = .ok (.iload_n 1, 1) := by decide +kernel
theorem d_136_134 : decode prog_8_method_48_code 134 = .ok (.iconst 0, 1) := by decide +kernel
theorem d_136_135 : decode prog_8_method_48_code 135 = .ok (.iload 5, 2) := by decide +kernel
theorem d_136_137 : decode prog_8_method_48_code 137 = .ok (.aload_n 0, 1) := by decide +kernel
theorem d_136_138 : decode prog_8_method_48_code 138 = .ok (.iload_n 1, 1) := by decide +kernel
theorem d_136_139 : decode prog_8_method_48_code 139 = .ok (.iconst 1, 1) := by decide +kernel
theorem d_136_140 : decode prog_8_method_48_code 140 = .ok (.invokevirtual 196, 3) := by decide +kernel
theorem d_136_143 : decode prog_8_method_48_code 143 = .ok (.idiv, 1) := by decide +kernel
theorem d_136_144 : decode prog_8_method_48_code 144 = .ok (.invokevirtual 199, 3) := by decide +kernel
theorem d_136_147 : decode prog_8_method_48_code 147 = .ok (.aload_n 0, 1) := by decide +kernel
theorem d_136_148 : decode prog_8_method_48_code 148 = .ok (.iload_n 1, 1) := by decide +kernel
theorem d_136_149 : decode prog_8_method_48_code 149 = .ok (.iconst 1, 1) := by decide +kernel
theorem d_136_150 : decode prog_8_method_48_code 150 = .ok (.iload 5, 2) := by decide +kernel
theorem d_136_152 : decode prog_8_method_48_code 152 = .ok (.aload_n 0, 1) := by decide +kernel
theorem d_136_153 : decode prog_8_method_48_code 153 = .ok (.iload_n 1, 1) := by decide +kernel
theorem d_136_154 : decode prog_8_method_48_code 154 = .ok (.iconst 1, 1) := by decide +kernel
theorem d_136_155 : decode prog_8_method_48_code 155 = .ok (.invokevirtual 196, 3) := by decide +kernel
theorem d_136_158 : decode prog_8_method_48_code 158 = .ok (.irem, 1) := by decide +kernel
theorem d_136_159 : decode prog_8_method_48_code 159 = .ok (.invokevirtual 199, 3) := by decide +kernel
theorem d_136_162 : decode prog_8_method_48_code 162 = .ok (.invokevirtual 190, 3) := by decide +kernel
theorem d_136_165 : decode prog_8_method_48_code 165 = .ok (.iload_n 2, 1) := by decide +kernel
theorem d_136_166 : decode prog_8_method_48_code 166 = .ok (.iload 5, 2) := by decide +kernel
theorem d_136_168 : decode prog_8_method_48_code 168 = .ok (.iload_n 3, 1) := by decide +kernel
theorem d_136_169 : decode prog_8_method_48_code 169 = .ok (.imul, 1) := by decide +kernel
theorem d_136_170 : decode prog_8_method_48_code 170 = .ok (.iadd, 1) := by decide +kernel
theorem d_136_171 : decode prog_8_method_48_code 171 = .ok (.iastore, 1) := by decide +kernel
theorem d_136_172 : decode prog_8_method_48_code 172 = .ok (.iinc 5 1, 3) := by decide +kernel
theorem d_136_175 : decode prog_8_method_48_code 175 = .ok (.goto (-56), 3) := by decide +kernel
theorem d_136_178 : decode prog_8_method_48_code 178 = .ok (.iload 4, 2) := by decide +kernel
theorem d_136_180 : decode prog_8_method_48_code 180 = .ok (.ireturn, 1) := by decide +kernel
theorem d_137_0 : decode prog_8_method_47_code 0 = .ok (.iconst 0, 1) := by decide +kernel
theorem d_137_1 : decode prog_8_method_47_code 1 = .ok (.istore_n 3, 1) := by decide +kernel
theorem d_137_2 : decode prog_8_method_47_code 2 = .ok (.iload_n 3, 1) := by decide +kernel
theorem d_137_3 : decode prog_8_method_47_code 3 = .ok (.aload_n 0, 1) := by decide +kernel
theorem d_137_4 : decode prog_8_method_47_code 4 = .ok (.iload_n 1, 1) := by decide +kernel
theorem d_137_5 : decode prog_8_method_47_code 5 = .ok (.iconst 0, 1) := by decide +kernel
theorem d_137_6 : decode prog_8_method_47_code 6 = .ok (.invokevirtual 196, 3) := by decide +kernel
theorem d_137_9 : decode prog_8_method_47_code 9 = .ok (.if_icmp .ge 55, 3) := by decide +kernel
theorem d_137_12 : decode prog_8_method_47_code 12 = .ok (.iconst 0, 1) := by decide +kernel
theorem d_137_13 : decode prog_8_method_47_code 13 = .ok (.istore 4, 2) := by decide +kernel
theorem d_137_15 : decode prog_8_method_47_code 15 = .ok (.iload 4, 2) := by decide +kernel
theorem d_137_17 : decode prog_8_method_47_code 17 = .ok (.aload_n 0, 1) := by decide +kernel
theorem d_137_18 : decode prog_8_method_47_code 18 = .ok (.iload_n 1, 1) := by decide +kernel
theorem d_137_19 : decode prog_8_method_47_code 19 = .ok (.iconst 1, 1) := by decide +kernel
theorem d_137_20 : decode prog_8_method_47_code 20 = .ok (.invokevirtual 196, 3) := by decide +kernel
theorem d_137_23 : decode prog_8_method_47_code 23 = .ok (.if_icmp .ge 35, 3) := by decide +kernel
theorem d_137_26 : decode prog_8_method_47_code 26 = .ok (.aload_n 0, 1) := by decide +kernel
theorem d_137_27 : decode prog_8_method_47_code 27 = .ok (.iload_n 1, 1) := by decide +kernel
theorem d_137_28 : decode prog_8_method_47_code 28 = .ok (.aload_n 0, 1) := by decide +kernel
theorem d_137_29 : decode prog_8_method_47_code 29 = .ok (.iload_n 1, 1) := by decide +kernel
theorem d_137_30 : decode prog_8_method_47_code 30 = .ok (.iconst 0, 1) := by decide +kernel
theorem d_137_31 : decode prog_8_method_47_code 31 = .ok (.iload_n 3, 1) := by decide +kernel
theorem d_137_32 : decode prog_8_method_47_code 32 = .ok (.invokevirtual 199, 3) := by decide +kernel
theorem d_137_35 : decode prog_8_method_47_code 35 = .ok (.aload_n 0, 1) := by decide +kernel
theorem d_137_36 : decode prog_8_method_47_code 36 = .ok (.iload_n 1, 1) := by decide +kernel
theorem d_137_37 : decode prog_8_method_47_code 37 = .ok (.iconst 1, 1) := by decide +kernel
theorem d_137_38 : decode prog_8_method_47_code 38 = .ok (.iload 4, 2) := by decide +kernel
theorem d_137_40 : decode prog_8_method_47_code 40 = .ok (.invokevirtual 199, 3) := by decide +kernel
theorem d_137_43 : decode prog_8_method_47_code 43 = .ok (.iload_n 2, 1) := by decide +kernel
theorem d_137_44 : decode prog_8_method_47_code 44 = .ok (.invokevirtual 182, 3) := by decide +kernel
theorem d_137_47 : decode prog_8_method_47_code 47 = .ok (.ifCond .ne 5, 3) := by decide +kernel
theorem d_137_50 : decode prog_8_method_47_code 50 = .ok (.iconst 0, 1) := by decide +kernel
theorem d_137_51 : decode prog_8_method_47_code 51 = .ok (.ireturn, 1) := by decide +kernel
theorem d_137_52 : decode prog_8_method_47_code 52 = .ok (.iinc 4 1, 3) := by decide +kernel
theorem d_137_55 : decode prog_8_method_47_code 55 = .ok (.goto (-40), 3) := by decide +kernel
theorem d_137_58 : decode prog_8_method_47_code 58 = .ok (.iinc 3 1, 3) := by decide +kernel
theorem d_137_61 : decode prog_8_method_47_code 61 = .ok (.goto (-59), 3) := by decide +kernel
theorem d_137_64 : decode prog_8_method_47_code 64 = .ok (.iconst 1, 1) := by decide +kernel
theorem d_137_65 : decode prog_8_method_47_code 65 = .ok (.ireturn, 1) := by decide +kernel
theorem d_138_0 : decode prog_8_method_45_code 0 = .ok (.iload_n 2, 1) := by decide +kernel
theorem d_138_1 : decode prog_8_method_45_code 1 = .ok (.aload_n 0, 1) := by decide +kernel
theorem d_138_2 : decode prog_8_method_45_code 2 = .ok (.getfield 28, 3) := by decide +kernel
theorem d_138_5 : decode prog_8_method_45_code 5 = .ok (.iconst 5, 1) := by decide +kernel
theorem d_138_6 : decode prog_8_method_45_code 6 = .ok (.aload_n 0, 1) := by decide +kernel
theorem d_138_7 : decode prog_8_method_45_code 7 = .ok (.getfield 137, 3) := by decide +kernel
theorem d_138_10 : decode prog_8_method_45_code 10 = .ok (.imul, 1) := by decide +kernel
theorem d_138_11 : decode prog_8_method_45_code 11 = .ok (.iload_n 1, 1) := by decide +kernel
theorem d_138_12 : decode prog_8_method_45_code 12 = .ok (.iadd, 1) := by decide +kernel
theorem d_138_13 : decode prog_8_method_45_code 13 = .ok (.iaload, 1) := by decide +kernel
theorem d_138_14 : decode prog_8_method_45_code 14 = .ok (.if_icmp .ge 12, 3) := by decide +kernel
theorem d_138_17 : decode prog_8_method_45_code 17 = .ok (.aload_n 0, 1) := by decide +kernel
theorem d_138_18 : decode prog_8_method_45_code 18 = .ok (.getfield 58, 3) := by decide +kernel
theorem d_138_21 : decode prog_8_method_45_code 21 = .ok (.iload_n 2, 1) := by decide +kernel
theorem d_138_22 : decode prog_8_method_45_code 22 = .ok (.iaload, 1) := by decide +kernel
theorem d_138_23 : decode prog_8_method_45_code 23 = .ok (.goto 4, 3) := by decide +kernel
theorem d_138_26 : decode prog_8_method_45_code 26 = .ok (.iconst 1, 1) := by decide +kernel
theorem d_138_27 : decode prog_8_method_45_code 27 = .ok (.ireturn, 1) := by decide +kernel
theorem d_139_0 : decode prog_8_method_46_code 0 = .ok (.iload_n 2, 1) := by decide +kernel
theorem d_139_1 : decode prog_8_method_46_code 1 = .ok (.aload_n 0, 1) := by decide +kernel
theorem d_139_2 : decode prog_8_method_46_code 2 = .ok (.getfield 28, 3) := by decide +kernel
theorem d_139_5 : decode prog_8_method_46_code 5 = .ok (.iconst 5, 1) := by decide +kernel
theorem d_139_6 : decode prog_8_method_46_code 6 = .ok (.aload_n 0, 1) := by decide +kernel
theorem d_139_7 : decode prog_8_method_46_code 7 = .ok (.getfield 137, 3) := by decide +kernel
theorem d_139_10 : decode prog_8_method_46_code 10 = .ok (.imul, 1) := by decide +kernel
theorem d_139_11 : decode prog_8_method_46_code 11 = .ok (.iload_n 1, 1) := by decide +kernel
theorem d_139_12 : decode prog_8_method_46_code 12 = .ok (.iadd, 1) := by decide +kernel
theorem d_139_13 : decode prog_8_method_46_code 13 = .ok (.iaload, 1) := by decide +kernel
theorem d_139_14 : decode prog_8_method_46_code 14 = .ok (.if_icmp .ge 24, 3) := by decide +kernel
theorem d_139_17 : decode prog_8_method_46_code 17 = .ok (.aload_n 0, 1) := by decide +kernel
theorem d_139_18 : decode prog_8_method_46_code 18 = .ok (.getfield 55, 3) := by decide +kernel
theorem d_139_21 : decode prog_8_method_46_code 21 = .ok (.iload_n 2, 1) := by decide +kernel
theorem d_139_22 : decode prog_8_method_46_code 22 = .ok (.iaload, 1) := by decide +kernel
theorem d_139_23 : decode prog_8_method_46_code 23 = .ok (.i2l, 1) := by decide +kernel
theorem d_139_24 : decode prog_8_method_46_code 24 = .ok (.iload_n 3, 1) := by decide +kernel
theorem d_139_25 : decode prog_8_method_46_code 25 = .ok (.i2l, 1) := by decide +kernel
theorem d_139_26 : decode prog_8_method_46_code 26 = .ok (.aload_n 0, 1) := by decide +kernel
theorem d_139_27 : decode prog_8_method_46_code 27 = .ok (.getfield 61, 3) := by decide +kernel
theorem d_139_30 : decode prog_8_method_46_code 30 = .ok (.iload_n 2, 1) := by decide +kernel
theorem d_139_31 : decode prog_8_method_46_code 31 = .ok (.iaload, 1) := by decide +kernel
theorem d_139_32 : decode prog_8_method_46_code 32 = .ok (.i2l, 1) := by decide +kernel
theorem d_139_33 : decode prog_8_method_46_code 33 = .ok (.lmul, 1) := by decide +kernel
theorem d_139_34 : decode prog_8_method_46_code 34 = .ok (.ladd, 1) := by decide +kernel
theorem d_139_35 : decode prog_8_method_46_code 35 = .ok (.goto 4, 3) := by decide +kernel
theorem d_139_38 : decode prog_8_method_46_code 38 = .ok (.lconst 0, 1) := by decide +kernel
theorem d_139_39 : decode prog_8_method_46_code 39 = .ok (.lreturn, 1) := by decide +kernel
theorem d_140_0 : decode prog_8_method_49_code 0 = .ok (.aload_n 0, 1) := by decide +kernel
theorem d_140_1 : decode prog_8_method_49_code 1 = .ok (.getfield 140, 3) := by decide +kernel
theorem d_140_4 : decode prog_8_method_49_code 4 = .ok (.ifCond .eq 41, 3) := by decide +kernel
theorem d_140_7 : decode prog_8_method_49_code 7 = .ok (.aload_n 0, 1) := by decide +kernel
theorem d_140_8 : decode prog_8_method_49_code 8 = .ok (.iload_n 1, 1) := by decide +kernel
theorem d_140_9 : decode prog_8_method_49_code 9 = .ok (.invokevirtual 167, 3) := by decide +kernel
theorem d_140_12 : decode prog_8_method_49_code 12 = .ok (.ifCond .eq 33, 3) := by decide +kernel
theorem d_140_15 : decode prog_8_method_49_code 15 = .ok (.aload_n 0, 1) := by decide +kernel
theorem d_140_16 : decode prog_8_method_49_code 16 = .ok (.iload_n 1, 1) := by decide +kernel
theorem d_140_17 : decode prog_8_method_49_code 17 = .ok (.iconst 0, 1) := by decide +kernel
theorem d_140_18 : decode prog_8_method_49_code 18 = .ok (.invokevirtual 203, 3) := by decide +kernel
theorem d_140_21 : decode prog_8_method_49_code 21 = .ok (.ifCond .eq 24, 3) := by decide +kernel
theorem d_140_24 : decode prog_8_method_49_code 24 = .ok (.iload_n 2, 1) := by decide +kernel
theorem d_140_25 : decode prog_8_method_49_code 25 = .ok (.ifCond .lt 20, 3) := by decide +kernel
theorem d_140_28 : decode prog_8_method_49_code 28 = .ok (.iload_n 2, 1) := by decide +kernel
theorem d_140_29 : decode prog_8_method_49_code 29 = .ok (.aload_n 0, 1) := by decide +kernel
theorem d_140_30 : decode prog_8_method_49_code 30 = .ok (.iload_n 1, 1) := by decide +kernel
theorem d_140_31 : decode prog_8_method_49_code 31 = .ok (.iconst 0, 1) := by decide +kernel
theorem d_140_32 : decode prog_8_method_49_code 32 = .ok (.invokevirtual 196, 3) := by decide +kernel
theorem d_140_35 : decode prog_8_method_49_code 35 = .ok (.aload_n 0, 1) := by decide +kernel
theorem d_140_36 : decode prog_8_method_49_code 36 = .ok (.iload_n 1, 1) := by decide +kernel
theorem d_140_37 : decode prog_8_method_49_code 37 = .ok (.iconst 1, 1) := by decide +kernel
theorem d_140_38 : decode prog_8_method_49_code 38 = .ok (.invokevirtual 196, 3) := by decide +kernel
theorem d_140_41 : decode prog_8_method_49_code 41 = .ok (.imul, 1) := by decide +kernel
theorem d_140_42 : decode prog_8_method_49_code 42 = .ok (.if_icmp .lt 7, 3) := by decide +kernel
theorem d_140_45 : decode prog_8_method_49_code 45 = .ok (.ldc2_w 194, 3) := by decide +kernel
theorem d_140_48 : decode prog_8_method_49_code 48 = .ok (.lreturn, 1) := by decide +kernel
theorem d_140_49 : decode prog_8_method_49_code 49 = .ok (.aload_n 0, 1) := by decide +kernel
theorem d_140_50 : decode prog_8_method_49_code 50 = .ok (.getfield 52, 3) := by decide +kernel
theorem d_140_53 : decode prog_8_method_49_code 53 = .ok (.aload_n 0, 1) := by decide +kernel
theorem d_140_54 : decode prog_8_method_49_code 54 = .ok (.iload_n 1, 1) := by decide +kernel
theorem d_140_55 : decode prog_8_method_49_code 55 = .ok (.aload_n 0, 1) := by decide +kernel
theorem d_140_56 : decode prog_8_method_49_code 56 = .ok (.iload_n 1, 1) := by decide +kernel
theorem d_140_57 : decode prog_8_method_49_code 57 = .ok (.iconst 0, 1) := by decide +kernel
theorem d_140_58 : decode prog_8_method_49_code 58 = .ok (.iload_n 2, 1) := by decide +kernel
theorem d_140_59 : decode prog_8_method_49_code 59 = .ok (.aload_n 0, 1) := by decide +kernel
theorem d_140_60 : decode prog_8_method_49_code 60 = .ok (.iload_n 1, 1) := by decide +kernel
theorem d_140_61 : decode prog_8_method_49_code 61 = .ok (.iconst 1, 1) := by decide +kernel
theorem d_140_62 : decode prog_8_method_49_code 62 = .ok (.invokevirtual 196, 3) := by decide +kernel
theorem d_140_65 : decode prog_8_method_49_code 65 = .ok (.idiv, 1) := by decide +kernel
theorem d_140_66 : decode prog_8_method_49_code 66 = .ok (.invokevirtual 199, 3) := by decide +kernel
theorem d_140_69 : decode prog_8_method_49_code 69 = .ok (.aload_n 0, 1) := by decide +kernel
theorem d_140_70 : decode prog_8_method_49_code 70 = .ok (.iload_n 1, 1) := by decide +kernel
theorem d_140_71 : decode prog_8_method_49_code 71 = .ok (.iconst 1, 1) := by decide +kernel
theorem d_140_72 : decode prog_8_method_49_code 72 = .ok (.iload_n 2, 1) := by decide +kernel
theorem d_140_73 : decode prog_8_method_49_code 73 = .ok (.aload_n 0, 1) := by decide +kernel
theorem d_140_74 : decode prog_8_method_49_code 74 = .ok (.iload_n 1, 1) := by decide +kernel
theorem d_140_75 : decode prog_8_method_49_code 75 = .ok (.iconst 1, 1) := by decide +kernel
theorem d_140_76 : decode prog_8_method_49_code 76 = .ok (.invokevirtual 196, 3) := by decide +kernel
theorem d_140_79 : decode prog_8_method_49_code 79 = .ok (.irem, 1) := by decide +kernel
theorem d_140_80 : decode prog_8_method_49_code 80 = .ok (.invokevirtual 199, 3) := by decide +kernel
theorem d_140_83 : decode prog_8_method_49_code 83 = .ok (.invokevirtual 190, 3) := by decide +kernel
theorem d_140_86 : decode prog_8_method_49_code 86 = .ok (.iaload, 1) := by decide +kernel
theorem d_140_87 : decode prog_8_method_49_code 87 = .ok (.i2l, 1) := by decide +kernel
theorem d_140_88 : decode prog_8_method_49_code 88 = .ok (.lreturn, 1) := by decide +kernel
theorem d_141_0 : decode prog_8_method_50_code 0 = .ok (.aload_n 0, 1) := by decide +kernel
theorem d_141_1 : decode prog_8_method_50_code 1 = .ok (.getfield 49, 3) := by decide +kernel
theorem d_141_4 : decode prog_8_method_50_code 4 = .ok (.aload_n 0, 1) := by decide +kernel
theorem d_141_5 : decode prog_8_method_50_code 5 = .ok (.getfield 137, 3) := by decide +kernel
theorem d_141_8 : decode prog_8_method_50_code 8 = .ok (.iaload, 1) := by decide +kernel
theorem d_141_9 : decode prog_8_method_50_code 9 = .ok (.ireturn, 1) := by decide +kernel
theorem d_142_0 : decode prog_8_method_51_code 0 = .ok (.aload_n 0, 1) := by decide +kernel
theorem d_142_1 : decode prog_8_method_51_code 1 = .ok (.getfield 140, 3) := by decide +kernel
theorem d_142_4 : decode prog_8_method_51_code 4 = .ok (.ifCond .eq 25, 3) := by decide +kernel
theorem d_142_7 : decode prog_8_method_51_code 7 = .ok (.aload_n 0, 1) := by decide +kernel
theorem d_142_8 : decode prog_8_method_51_code 8 = .ok (.aload_n 0, 1) := by decide +kernel
theorem d_142_9 : decode prog_8_method_51_code 9 = .ok (.getfield 137, 3) := by decide +kernel
theorem d_142_12 : decode prog_8_method_51_code 12 = .ok (.aload_n 0, 1) := by decide +kernel
theorem d_142_13 : decode prog_8_method_51_code 13 = .ok (.getfield 49, 3) := by decide +kernel
theorem d_142_16 : decode prog_8_method_51_code 16 = .ok (.aload_n 0, 1) := by decide +kernel
theorem d_142_17 : decode prog_8_method_51_code 17 = .ok (.getfield 137, 3) := by decide +kernel
theorem d_142_20 : decode prog_8_method_51_code 20 = .ok (.iaload, 1) := by decide +kernel
theorem d_142_21 : decode prog_8_method_51_code 21 = .ok (.i2l, 1) := by decide +kernel
theorem d_142_22 : decode prog_8_method_51_code 22 = .ok (.invokevirtual 176, 3) := by decide +kernel
theorem d_142_25 : decode prog_8_method_51_code 25 = .ok (.l2i, 1) := by decide +kernel
theorem d_142_26 : decode prog_8_method_51_code 26 = .ok (.goto 4, 3) := by decide +kernel
theorem d_142_29 : decode prog_8_method_51_code 29 = .ok (.iconst (-1), 1) := by decide +kernel
theorem d_142_30 : decode prog_8_method_51_code 30 = .ok (.ireturn, 1) := by decide +kernel
theorem d_143_0 : decode prog_8_method_52_code 0 = .ok (.aload_n 0, 1) := by decide +kernel
theorem d_143_1 : decode prog_8_method_52_code 1 = .ok (.getfield 140, 3) := by decide +kernel
theorem d_143_4 : decode prog_8_method_52_code 4 = .ok (.ifCond .ne 7, 3) := by decide +kernel
theorem d_143_7 : decode prog_8_method_52_code 7 = .ok (.iconst (-1), 1) := by decide +kernel
theorem d_143_8 : decode prog_8_method_52_code 8 = .ok (.goto 25, 3) := by decide +kernel
theorem d_143_11 : decode prog_8_method_52_code 11 = .ok (.aload_n 0, 1) := by decide +kernel
theorem d_143_12 : decode prog_8_method_52_code 12 = .ok (.iload_n 1, 1) := by decide +kernel
theorem d_143_13 : decode prog_8_method_52_code 13 = .ok (.invokevirtual 167, 3) := by decide +kernel
theorem d_143_16 : decode prog_8_method_52_code 16 = .ok (.ifCond .eq 15, 3) := by decide +kernel
theorem d_143_19 : decode prog_8_method_52_code 19 = .ok (.aload_n 0, 1) := by decide +kernel
theorem d_143_20 : decode prog_8_method_52_code 20 = .ok (.aload_n 0, 1) := by decide +kernel
theorem d_143_21 : decode prog_8_method_52_code 21 = .ok (.getfield 137, 3) := by decide +kernel
theorem d_143_24 : decode prog_8_method_52_code 24 = .ok (.iload_n 1, 1) := by decide +kernel
theorem d_143_25 : decode prog_8_method_52_code 25 = .ok (.invokevirtual 99, 3) := by decide +kernel
theorem d_143_28 : decode prog_8_method_52_code 28 = .ok (.goto 5, 3) := by decide +kernel
theorem d_143_31 : decode prog_8_method_52_code 31 = .ok (.bipush (-3), 2) := by decide +kernel
theorem d_143_33 : decode prog_8_method_52_code 33 = .ok (.ireturn, 1) := by decide +kernel
theorem d_144_0 : decode prog_8_method_53_code 0 = .ok (.aload_n 0, 1) := by decide +kernel
theorem d_144_1 : decode prog_8_method_53_code 1 = .ok (.getfield 140, 3) := by decide +kernel
theorem d_144_4 : decode prog_8_method_53_code 4 = .ok (.ifCond .eq 7, 3) := by decide +kernel
theorem d_144_7 : decode prog_8_method_53_code 7 = .ok (.iload_n 1, 1) := by decide +kernel
theorem d_144_8 : decode prog_8_method_53_code 8 = .ok (.ifCond .ge 5, 3) := by decide +kernel
theorem d_144_11 : decode prog_8_method_53_code 11 = .ok (.lconst 0, 1) := by decide +kernel
theorem d_144_12 : decode prog_8_method_53_code 12 = .ok (.lreturn, 1) := by decide +kernel
theorem d_144_13 : decode prog_8_method_53_code 13 = .ok (.aload_n 0, 1) := by decide +kernel
theorem d_144_14 : decode prog_8_method_53_code 14 = .ok (.aload_n 0, 1) := by decide +kernel
theorem d_144_15 : decode prog_8_method_53_code 15 = .ok (.getfield 137, 3) := by decide +kernel
theorem d_144_18 : decode prog_8_method_53_code 18 = .ok (.invokevirtual 207, 3) := by decide +kernel
theorem d_144_21 : decode prog_8_method_53_code 21 = .ok (.lconst 0, 1) := by decide +kernel
theorem d_144_22 : decode prog_8_method_53_code 22 = .ok (.lstore_n 2, 1) := by decide +kernel
theorem d_144_23 : decode prog_8_method_53_code 23 = .ok (.iconst 0, 1) := by decide +kernel
theorem d_144_24 : decode prog_8_method_53_code 24 = .ok (.istore 4, 2) := by decide +kernel
theorem d_144_26 : decode prog_8_method_53_code 26 = .ok (.iload 4, 2) := by decide +kernel
theorem d_144_28 : decode prog_8_method_53_code 28 = .ok (.bipush 8, 2) := by decide +kernel
theorem d_144_30 : decode prog_8_method_53_code 30 = .ok (.if_icmp .ge 52, 3) := by decide +kernel
theorem d_144_33 : decode prog_8_method_53_code 33 = .ok (.ldc2_w 210, 3) := by decide +kernel
theorem d_144_36 : decode prog_8_method_53_code 36 = .ok (.iload_n 1, 1) := by decide +kernel
theorem d_144_37 : decode prog_8_method_53_code 37 = .ok (.i2l, 1) := by decide +kernel
theorem d_144_38 : decode prog_8_method_53_code 38 = .ok (.lmul, 1) := by decide +kernel
theorem d_144_39 : decode prog_8_method_53_code 39 = .ok (.iload 4, 2) := by decide +kernel
theorem d_144_41 : decode prog_8_method_53_code 41 = .ok (.i2l, 1) := by decide +kernel
theorem d_144_42 : decode prog_8_method_53_code 42 = .ok (.ladd, 1) := by decide +kernel
theorem d_144_43 : decode prog_8_method_53_code 43 = .ok (.lstore 5, 2) := by decide +kernel
theorem d_144_45 : decode prog_8_method_53_code 45 = .ok (.lload_n 2, 1) := by decide +kernel
theorem d_144_46 : decode prog_8_method_53_code 46 = .ok (.ldc2_w 212, 3) := by decide +kernel
theorem d_144_49 : decode prog_8_method_53_code 49 = .ok (.lmul, 1) := by decide +kernel
theorem d_144_50 : decode prog_8_method_53_code 50 = .ok (.lload 5, 2) := by decide +kernel
theorem d_144_52 : decode prog_8_method_53_code 52 = .ok (.aload_n 0, 1) := by decide +kernel
theorem d_144_53 : decode prog_8_method_53_code 53 = .ok (.getfield 105, 3) := by decide +kernel
theorem d_144_56 : decode prog_8_method_53_code 56 = .ok (.i2l, 1) := by decide +kernel
theorem d_144_57 : decode prog_8_method_53_code 57 = .ok (.lcmp, 1) := by decide +kernel
theorem d_144_58 : decode prog_8_method_53_code 58 = .ok (.ifCond .ge 14, 3) := by decide +kernel
theorem d_144_61 : decode prog_8_method_53_code 61 = .ok (.aload_n 0, 1) := by decide +kernel
theorem d_144_62 : decode prog_8_method_53_code 62 = .ok (.getfield 64, 3) := by decide +kernel
theorem d_144_65 : decode prog_8_method_53_code 65 = .ok (.lload 5, 2) := by decide +kernel
theorem d_144_67 : decode prog_8_method_53_code 67 = .ok (.l2i, 1) := by decide +kernel
theorem d_144_68 : decode prog_8_method_53_code 68 = .ok (.iaload, 1) := by decide +kernel
theorem d_144_69 : decode prog_8_method_53_code 69 = .ok (.goto 4, 3) := by decide +kernel
theorem d_144_72 : decode prog_8_method_53_code 72 = .ok (.iconst 0, 1) := by decide +kernel
theorem d_144_73 : decode prog_8_method_53_code 73 = .ok (.i2l, 1) := by decide +kernel
theorem d_144_74 : decode prog_8_method_53_code 74 = .ok (.ladd, 1) := by decide +kernel
theorem d_144_75 : decode prog_8_method_53_code 75 = .ok (.lstore_n 2, 1) := by decide +kernel
theorem d_144_76 : decode prog_8_method_53_code 76 = .ok (.iinc 4 1, 3) := by decide +kernel
theorem d_144_79 : decode prog_8_method_53_code 79 = .ok (.goto (-53), 3) := by decide +kernel
theorem d_144_82 : decode prog_8_method_53_code 82 = .ok (.lload_n 2, 1) := by decide +kernel
theorem d_144_83 : decode prog_8_method_53_code 83 = .ok (.lreturn, 1) := by decide +kernel
theorem d_145_0 : decode prog_8_method_24_code 0 = .ok (.aload_n 0, 1) := by decide +kernel
theorem d_145_1 : decode prog_8_method_24_code 1 = .ok (.iconst 0, 1) := by decide +kernel
theorem d_145_2 : decode prog_8_method_24_code 2 = .ok (.putfield 105, 3) := by decide +kernel
theorem d_145_5 : decode prog_8_method_24_code 5 = .ok (.aload_n 0, 1) := by decide +kernel
theorem d_145_6 : decode prog_8_method_24_code 6 = .ok (.ldc 129, 2) := by decide +kernel
theorem d_145_8 : decode prog_8_method_24_code 8 = .ok (.iconst 4, 1) := by decide +kernel
theorem d_145_9 : decode prog_8_method_24_code 9 = .ok (.invokevirtual 113, 3) := by decide +kernel
theorem d_145_12 : decode prog_8_method_24_code 12 = .ok (.aload_n 0, 1) := by decide +kernel
theorem d_145_13 : decode prog_8_method_24_code 13 = .ok (.aload_n 0, 1) := by decide +kernel
theorem d_145_14 : decode prog_8_method_24_code 14 = .ok (.getfield 49, 3) := by decide +kernel
theorem d_145_17 : decode prog_8_method_24_code 17 = .ok (.iload_n 1, 1) := by decide +kernel
theorem d_145_18 : decode prog_8_method_24_code 18 = .ok (.iaload, 1) := by decide +kernel
theorem d_145_19 : decode prog_8_method_24_code 19 = .ok (.iconst 4, 1) := by decide +kernel
theorem d_145_20 : decode prog_8_method_24_code 20 = .ok (.invokevirtual 113, 3) := by decide +kernel
theorem d_145_23 : decode prog_8_method_24_code 23 = .ok (.aload_n 0, 1) := by decide +kernel
theorem d_145_24 : decode prog_8_method_24_code 24 = .ok (.bipush 10, 2) := by decide +kernel
theorem d_145_26 : decode prog_8_method_24_code 26 = .ok (.aload_n 0, 1) := by decide +kernel
theorem d_145_27 : decode prog_8_method_24_code 27 = .ok (.getfield 7, 3) := by decide +kernel
theorem d_145_30 : decode prog_8_method_24_code 30 = .ok (.iload_n 1, 1) := by decide +kernel
theorem d_145_31 : decode prog_8_method_24_code 31 = .ok (.iaload, 1) := by decide +kernel
theorem d_145_32 : decode prog_8_method_24_code 32 = .ok (.invokevirtual 117, 3) := by decide +kernel
theorem d_145_35 : decode prog_8_method_24_code 35 = .ok (.iconst 4, 1) := by decide +kernel
theorem d_145_36 : decode prog_8_method_24_code 36 = .ok (.iload_n 1, 1) := by decide +kernel
theorem d_145_37 : decode prog_8_method_24_code 37 = .ok (.imul, 1) := by decide +kernel
theorem d_145_38 : decode prog_8_method_24_code 38 = .ok (.istore_n 2, 1) := by decide +kernel
theorem d_145_39 : decode prog_8_method_24_code 39 = .ok (.iload_n 2, 1) := by decide +kernel
theorem d_145_40 : decode prog_8_method_24_code 40 = .ok (.iconst 4, 1) := by decide +kernel
theorem d_145_41 : decode prog_8_method_24_code 41 = .ok (.iload_n 1, 1) := by decide +kernel
theorem d_145_42 : decode prog_8_method_24_code 42 = .ok (.imul, 1) := by decide +kernel
theorem d_145_43 : decode prog_8_method_24_code 43 = .ok (.aload_n 0, 1) := by decide +kernel
theorem d_145_44 : decode prog_8_method_24_code 44 = .ok (.getfield 7, 3) := by decide +kernel
theorem d_145_47 : decode prog_8_method_24_code 47 = .ok (.iload_n 1, 1) := by decide +kernel
theorem d_145_48 : decode prog_8_method_24_code 48 = .ok (.iaload, 1) := by decide +kernel
theorem d_145_49 : decode prog_8_method_24_code 49 = .ok (.iadd, 1) := by decide +kernel
theorem d_145_50 : decode prog_8_method_24_code 50 = .ok (.if_icmp .ge 30, 3) := by decide +kernel
theorem d_145_53 : decode prog_8_method_24_code 53 = .ok (.aload_n 0, 1) := by decide +kernel
theorem d_145_54 : decode prog_8_method_24_code 54 = .ok (.aload_n 0, 1) := by decide +kernel
theorem d_145_55 : decode prog_8_method_24_code 55 = .ok (.getfield 13, 3) := by decide +kernel
theorem d_145_58 : decode prog_8_method_24_code 58 = .ok (.iload_n 2, 1) := by decide +kernel
theorem d_145_59 : decode prog_8_method_24_code 59 = .ok (.iaload, 1) := by decide +kernel
theorem d_145_60 : decode prog_8_method_24_code 60 = .ok (.invokevirtual 120, 3) := by decide +kernel
theorem d_145_63 : decode prog_8_method_24_code 63 = .ok (.aload_n 0, 1) := by decide +kernel
theorem d_145_64 : decode prog_8_method_24_code 64 = .ok (.aload_n 0, 1) := by decide +kernel
theorem d_145_65 : decode prog_8_method_24_code 65 = .ok (.getfield 16, 3) := by decide +kernel
theorem d_145_68 : decode prog_8_method_24_code 68 = .ok (.iload_n 2, 1) := by decide +kernel
theorem d_145_69 : decode prog_8_method_24_code 69 = .ok (.iaload, 1) := by decide +kernel
theorem d_145_70 : decode prog_8_method_24_code 70 = .ok (.iconst 4, 1) := by decide +kernel
theorem d_145_71 : decode prog_8_method_24_code 71 = .ok (.invokevirtual 113, 3) := by decide +kernel
theorem d_145_74 : decode prog_8_method_24_code 74 = .ok (.iinc 2 1, 3) := by decide +kernel
theorem d_145_77 : decode prog_8_method_24_code 77 = .ok (.goto (-38), 3) := by decide +kernel
theorem d_145_80 : decode prog_8_method_24_code 80 = .ok (.aload_n 0, 1) := by decide +kernel
theorem d_145_81 : decode prog_8_method_24_code 81 = .ok (.iload_n 1, 1) := by decide +kernel
theorem d_145_82 : decode prog_8_method_24_code 82 = .ok (.iconst 0, 1) := by decide +kernel
theorem d_145_83 : decode prog_8_method_24_code 83 = .ok (.invokevirtual 126, 3) := by decide +kernel
theorem d_145_86 : decode prog_8_method_24_code 86 = .ok (.aload_n 0, 1) := by decide +kernel
theorem d_145_87 : decode prog_8_method_24_code 87 = .ok (.bipush 11, 2) := by decide +kernel
theorem d_145_89 : decode prog_8_method_24_code 89 = .ok (.aload_n 0, 1) := by decide +kernel
theorem d_145_90 : decode prog_8_method_24_code 90 = .ok (.getfield 19, 3) := by decide +kernel
theorem d_145_93 : decode prog_8_method_24_code 93 = .ok (.iload_n 1, 1) := by decide +kernel
theorem d_145_94 : decode prog_8_method_24_code 94 = .ok (.iaload, 1) := by decide +kernel
theorem d_145_95 : decode prog_8_method_24_code 95 = .ok (.invokevirtual 117, 3) := by decide +kernel
theorem d_145_98 : decode prog_8_method_24_code 98 = .ok (.iconst 0, 1) := by decide +kernel
theorem d_145_99 : decode prog_8_method_24_code 99 = .ok (.istore_n 2, 1) := by decide +kernel
theorem d_145_100 : decode prog_8_method_24_code 100 = .ok (.iload_n 2, 1) := by decide +kernel
theorem d_145_101 : decode prog_8_method_24_code 101 = .ok (.aload_n 0, 1) := by decide +kernel
theorem d_145_102 : decode prog_8_method_24_code 102 = .ok (.getfield 19, 3) := by decide +kernel
theorem d_145_105 : decode prog_8_method_24_code 105 = .ok (.iload_n 1, 1) := by decide +kernel
theorem d_145_106 : decode prog_8_method_24_code 106 = .ok (.iaload, 1) := by decide +kernel
theorem d_145_107 : decode prog_8_method_24_code 107 = .ok (.if_icmp .ge 15, 3) := by decide +kernel
theorem d_145_110 : decode prog_8_method_24_code 110 = .ok (.aload_n 0, 1) := by decide +kernel
theorem d_145_111 : decode prog_8_method_24_code 111 = .ok (.iload_n 1, 1) := by decide +kernel
theorem d_145_112 : decode prog_8_method_24_code 112 = .ok (.iload_n 2, 1) := by decide +kernel
theorem d_145_113 : decode prog_8_method_24_code 113 = .ok (.invokevirtual 130, 3) := by decide +kernel
theorem d_145_116 : decode prog_8_method_24_code 116 = .ok (.iinc 2 1, 3) := by decide +kernel
theorem d_145_119 : decode prog_8_method_24_code 119 = .ok (.goto (-19), 3) := by decide +kernel
theorem d_145_122 : decode prog_8_method_24_code 122 = .ok (.iconst 0, 1) := by decide +kernel
theorem d_145_123 : decode prog_8_method_24_code 123 = .ok (.istore_n 2, 1) := by decide +kernel
theorem d_145_124 : decode prog_8_method_24_code 124 = .ok (.iload_n 2, 1) := by decide +kernel
theorem d_145_125 : decode prog_8_method_24_code 125 = .ok (.aload_n 0, 1) := by decide +kernel
theorem d_145_126 : decode prog_8_method_24_code 126 = .ok (.getfield 19, 3) := by decide +kernel
theorem d_145_129 : decode prog_8_method_24_code 129 = .ok (.iload_n 1, 1) := by decide +kernel
theorem d_145_130 : decode prog_8_method_24_code 130 = .ok (.iaload, 1) := by decide +kernel
theorem d_145_131 : decode prog_8_method_24_code 131 = .ok (.if_icmp .ge 26, 3) := by decide +kernel
theorem d_145_134 : decode prog_8_method_24_code 134 = .ok (.aload_n 0, 1) := by decide +kernel
theorem d_145_135 : decode prog_8_method_24_code 135 = .ok (.iload_n 1, 1) := by decide +kernel
theorem d_145_136 : decode prog_8_method_24_code 136 = .ok (.iload_n 2, 1) := by decide +kernel
theorem d_145_137 : decode prog_8_method_24_code 137 = .ok (.invokevirtual 83, 3) := by decide +kernel
theorem d_145_140 : decode prog_8_method_24_code 140 = .ok (.ifCond .ne 11, 3) := by decide +kernel
theorem d_145_143 : decode prog_8_method_24_code 143 = .ok (.aload_n 0, 1) := by decide +kernel
theorem d_145_144 : decode prog_8_method_24_code 144 = .ok (.iload_n 1, 1) := by decide +kernel
theorem d_145_145 : decode prog_8_method_24_code 145 = .ok (.iload_n 2, 1) := by decide +kernel
theorem d_145_146 : decode prog_8_method_24_code 146 = .ok (.iconst 0, 1) := by decide +kernel
theorem d_145_147 : decode prog_8_method_24_code 147 = .ok (.iconst 1, 1) := by decide +kernel
theorem d_145_148 : decode prog_8_method_24_code 148 = .ok (.invokevirtual 133, 3) := by decide +kernel
theorem d_145_151 : decode prog_8_method_24_code 151 = .ok (.iinc 2 1, 3) := by decide +kernel
theorem d_145_154 : decode prog_8_method_24_code 154 = .ok (.goto (-30), 3) := by decide +kernel
theorem d_145_157 : decode prog_8_method_24_code 157 = .ok (.aload_n 0, 1) := by decide +kernel
theorem d_145_158 : decode prog_8_method_24_code 158 = .ok (.iload_n 1, 1) := by decide +kernel
theorem d_145_159 : decode prog_8_method_24_code 159 = .ok (.invokevirtual 96, 3) := by decide +kernel
theorem d_145_162 : decode prog_8_method_24_code 162 = .ok (.iconst 1, 1) := by decide +kernel
theorem d_145_163 : decode prog_8_method_24_code 163 = .ok (.if_icmp .le 7, 3) := by decide +kernel
theorem d_145_166 : decode prog_8_method_24_code 166 = .ok (.iconst 1, 1) := by decide +kernel
theorem d_145_167 : decode prog_8_method_24_code 167 = .ok (.goto 4, 3) := by decide +kernel
theorem d_145_170 : decode prog_8_method_24_code 170 = .ok (.iconst 0, 1) := by decide +kernel
theorem d_145_171 : decode prog_8_method_24_code 171 = .ok (.istore_n 2, 1) := by decide +kernel
theorem d_145_172 : decode prog_8_method_24_code 172 = .ok (.iconst 0, 1) := by decide +kernel
theorem d_145_173 : decode prog_8_method_24_code 173 = .ok (.istore_n 3, 1) := by decide +kernel
theorem d_145_174 : decode prog_8_method_24_code 174 = .ok (.iload_n 3, 1) := by decide +kernel
theorem d_145_175 : decode prog_8_method_24_code 175 = .ok (.aload_n 0, 1) := by decide +kernel
theorem d_145_176 : decode prog_8_method_24_code 176 = .ok (.getfield 49, 3) := by decide +kernel
theorem d_145_179 : decode prog_8_method_24_code 179 = .ok (.iload_n 1, 1) := by decide +kernel
theorem d_145_180 : decode prog_8_method_24_code 180 = .ok (.iaload, 1) := by decide +kernel
theorem d_145_181 : decode prog_8_method_24_code 181 = .ok (.if_icmp .ge 48, 3) := by decide +kernel
theorem d_145_184 : decode prog_8_method_24_code 184 = .ok (.iconst 0, 1) := by decide +kernel
theorem d_145_185 : decode prog_8_method_24_code 185 = .ok (.istore 4, 2) := by decide +kernel
theorem d_145_187 : decode prog_8_method_24_code 187 = .ok (.iload 4, 2) := by decide +kernel
theorem d_145_189 : decode prog_8_method_24_code 189 = .ok (.aload_n 0, 1) := by decide +kernel
theorem d_145_190 : decode prog_8_method_24_code 190 = .ok (.getfield 19, 3) := by decide +kernel
theorem d_145_193 : decode prog_8_method_24_code 193 = .ok (.iload_n 1, 1) := by decide +kernel
theorem d_145_194 : decode prog_8_method_24_code 194 = .ok (.iaload, 1) := by decide +kernel
theorem d_145_195 : decode prog_8_method_24_code 195 = .ok (.if_icmp .ge 28, 3) := by decide +kernel
theorem d_145_198 : decode prog_8_method_24_code 198 = .ok (.aload_n 0, 1) := by decide +kernel
theorem d_145_199 : decode prog_8_method_24_code 199 = .ok (.iload_n 1, 1) := by decide +kernel
theorem d_145_200 : decode prog_8_method_24_code 200 = .ok (.iload 4, 2) := by decide +kernel
theorem d_145_202 : decode prog_8_method_24_code 202 = .ok (.invokevirtual 83, 3) := by decide +kernel
theorem d_145_205 : decode prog_8_method_24_code 205 = .ok (.ifCond .eq 12, 3) := by decide +kernel
theorem d_145_208 : decode prog_8_method_24_code 208 = .ok (.aload_n 0, 1) := by decide +kernel
theorem d_145_209 : decode prog_8_method_24_code 209 = .ok (.iload_n 1, 1) := by decide +kernel
theorem d_145_210 : decode prog_8_method_24_code 210 = .ok (.iload 4, 2) := by decide +kernel
theorem d_145_212 : decode prog_8_method_24_code 212 = .ok (.iload_n 3, 1) := by decide +kernel
theorem d_145_213 : decode prog_8_method_24_code 213 = .ok (.iload_n 2, 1) := by decide +kernel
theorem d_145_214 : decode prog_8_method_24_code 214 = .ok (.invokevirtual 133, 3) := by decide +kernel
theorem d_145_217 : decode prog_8_method_24_code 217 = .ok (.iinc 4 1, 3) := by decide +kernel
theorem d_145_220 : decode prog_8_method_24_code 220 = .ok (.goto (-33), 3) := by decide +kernel
theorem d_145_223 : decode prog_8_method_24_code 223 = .ok (.iinc 3 1, 3) := by decide +kernel
theorem d_145_226 : decode prog_8_method_24_code 226 = .ok (.goto (-52), 3) := by decide +kernel
theorem d_145_229 : decode prog_8_method_24_code 229 = .ok (.return_, 1) := by decide +kernel
theorem d_146_0 : decode prog_8_method_17_code 0 = .ok (.iload_n 2, 1) := by decide +kernel
theorem d_146_1 : decode prog_8_method_17_code 1 = .ok (.iconst 1, 1) := by decide +kernel
theorem d_146_2 : decode prog_8_method_17_code 2 = .ok (.isub, 1) := by decide +kernel
theorem d_146_3 : decode prog_8_method_17_code 3 = .ok (.istore_n 3, 1) := by decide +kernel
theorem d_146_4 : decode prog_8_method_17_code 4 = .ok (.iload_n 3, 1) := by decide +kernel
theorem d_146_5 : decode prog_8_method_17_code 5 = .ok (.ifCond .lt 23, 3) := by decide +kernel
theorem d_146_8 : decode prog_8_method_17_code 8 = .ok (.aload_n 0, 1) := by decide +kernel
theorem d_146_9 : decode prog_8_method_17_code 9 = .ok (.iload_n 1, 1) := by decide +kernel
theorem d_146_10 : decode prog_8_method_17_code 10 = .ok (.bipush 8, 2) := by decide +kernel
theorem d_146_12 : decode prog_8_method_17_code 12 = .ok (.iload_n 3, 1) := by decide +kernel
theorem d_146_13 : decode prog_8_method_17_code 13 = .ok (.imul, 1) := by decide +kernel
theorem d_146_14 : decode prog_8_method_17_code 14 = .ok (.ishr, 1) := by decide +kernel
theorem d_146_15 : decode prog_8_method_17_code 15 = .ok (.sipush 255, 3) := by decide +kernel
theorem d_146_18 : decode prog_8_method_17_code 18 = .ok (.iand, 1) := by decide +kernel
theorem d_146_19 : decode prog_8_method_17_code 19 = .ok (.invokevirtual 109, 3) := by decide +kernel
theorem d_146_22 : decode prog_8_method_17_code 22 = .ok (.iinc 3 (-1), 3) := by decide +kernel
theorem d_146_25 : decode prog_8_method_17_code 25 = .ok (.goto (-21), 3) := by decide +kernel
theorem d_146_28 : decode prog_8_method_17_code 28 = .ok (.return_, 1) := by decide +kernel
theorem d_147_0 : decode prog_8_method_16_code 0 = .ok (.aload_n 0, 1) := by decide +kernel
theorem d_147_1 : decode prog_8_method_16_code 1 = .ok (.getfield 64, 3) := by decide +kernel
theorem d_147_4 : decode prog_8_method_16_code 4 = .ok (.aload_n 0, 1) := by decide +kernel
theorem d_147_5 : decode prog_8_method_16_code 5 = .ok (.getfield 105, 3) := by decide +kernel
theorem d_147_8 : decode prog_8_method_16_code 8 = .ok (.iload_n 1, 1) := by decide +kernel
theorem d_147_9 : decode prog_8_method_16_code 9 = .ok (.iastore, 1) := by decide +kernel
theorem d_147_10 : decode prog_8_method_16_code 10 = .ok (.aload_n 0, 1) := by decide +kernel
theorem d_147_11 : decode prog_8_method_16_code 11 = .ok (.dup, 1) := by decide +kernel
theorem d_147_12 : decode prog_8_method_16_code 12 = .ok (.getfield 105, 3) := by decide +kernel
theorem d_147_15 : decode prog_8_method_16_code 15 = .ok (.iconst 1, 1) := by decide +kernel
theorem d_147_16 : decode prog_8_method_16_code 16 = .ok (.iadd, 1) := by decide +kernel
theorem d_147_17 : decode prog_8_method_16_code 17 = .ok (.putfield 105, 3) := by decide +kernel
theorem d_147_20 : decode prog_8_method_16_code 20 = .ok (.return_, 1) := by decide +kernel
theorem d_148_0 : decode prog_8_method_20_code 0 = .ok (.aload_n 0, 1) := by decide +kernel
theorem d_148_1 : decode prog_8_method_20_code 1 = .ok (.iload_n 2, 1) := by decide +kernel
theorem d_148_2 : decode prog_8_method_20_code 2 = .ok (.ifCond .ne 7, 3) := by decide +kernel
theorem d_148_5 : decode prog_8_method_20_code 5 = .ok (.iconst 0, 1) := by decide +kernel
theorem d_148_6 : decode prog_8_method_20_code 6 = .ok (.goto 4, 3) := by decide +kernel
theorem d_148_9 : decode prog_8_method_20_code 9 = .ok (.iload_n 1, 1) := by decide +kernel
theorem d_148_10 : decode prog_8_method_20_code 10 = .ok (.iconst 4, 1) := by decide +kernel
theorem d_148_11 : decode prog_8_method_20_code 11 = .ok (.invokevirtual 113, 3) := by decide +kernel
theorem d_148_14 : decode prog_8_method_20_code 14 = .ok (.aload_n 0, 1) := by decide +kernel
theorem d_148_15 : decode prog_8_method_20_code 15 = .ok (.iload_n 2, 1) := by decide +kernel
theorem d_148_16 : decode prog_8_method_20_code 16 = .ok (.iconst 4, 1) := by decide +kernel
theorem d_148_17 : decode prog_8_method_20_code 17 = .ok (.invokevirtual 113, 3) := by decide +kernel
theorem d_148_20 : decode prog_8_method_20_code 20 = .ok (.return_, 1) := by decide +kernel
theorem d_149_0 : decode prog_8_method_18_code 0 = .ok (.aload_n 0, 1) := by decide +kernel
theorem d_149_1 : decode prog_8_method_18_code 1 = .ok (.iconst 1, 1) := by decide +kernel
theorem d_149_2 : decode prog_8_method_18_code 2 = .ok (.iconst 4, 1) := by decide +kernel
theorem d_149_3 : decode prog_8_method_18_code 3 = .ok (.invokevirtual 113, 3) := by decide +kernel
theorem d_149_6 : decode prog_8_method_18_code 6 = .ok (.aload_n 0, 1) := by decide +kernel
theorem d_149_7 : decode prog_8_method_18_code 7 = .ok (.iload_n 1, 1) := by decide +kernel
theorem d_149_8 : decode prog_8_method_18_code 8 = .ok (.invokevirtual 109, 3) := by decide +kernel
theorem d_149_11 : decode prog_8_method_18_code 11 = .ok (.aload_n 0, 1) := by decide +kernel
theorem d_149_12 : decode prog_8_method_18_code 12 = .ok (.iconst 0, 1) := by decide +kernel
theorem d_149_13 : decode prog_8_method_18_code 13 = .ok (.iconst 3, 1) := by decide +kernel
theorem d_149_14 : decode prog_8_method_18_code 14 = .ok (.invokevirtual 113, 3) := by decide +kernel
theorem d_149_17 : decode prog_8_method_18_code 17 = .ok (.return_, 1) := by decide +kernel
theorem d_150_0 : decode prog_8_method_21_code 0 = .ok (.aload_n 0, 1) := by decide +kernel
theorem d_150_1 : decode prog_8_method_21_code 1 = .ok (.bipush 12, 2) := by decide +kernel
theorem d_150_3 : decode prog_8_method_21_code 3 = .ok (.aload_n 0, 1) := by decide +kernel
theorem d_150_4 : decode prog_8_method_21_code 4 = .ok (.getfield 34, 3) := by decide +kernel
theorem d_150_7 : decode prog_8_method_21_code 7 = .ok (.bipush 6, 2) := by decide +kernel
theorem d_150_9 : decode prog_8_method_21_code 9 = .ok (.iload_n 1, 1) := by decide +kernel
theorem d_150_10 : decode prog_8_method_21_code 10 = .ok (.imul, 1) := by decide +kernel
theorem d_150_11 : decode prog_8_method_21_code 11 = .ok (.iload_n 2, 1) := by decide +kernel
theorem d_150_12 : decode prog_8_method_21_code 12 = .ok (.iadd, 1) := by decide +kernel
theorem d_150_13 : decode prog_8_method_21_code 13 = .ok (.iaload, 1) := by decide +kernel
theorem d_150_14 : decode prog_8_method_21_code 14 = .ok (.invokevirtual 117, 3) := by decide +kernel
theorem d_150_17 : decode prog_8_method_21_code 17 = .ok (.bipush 18, 2) := by decide +kernel
theorem d_150_19 : decode prog_8_method_21_code 19 = .ok (.iload_n 1, 1) := by decide +kernel
theorem d_150_20 : decode prog_8_method_21_code 20 = .ok (.imul, 1) := by decide +kernel
theorem d_150_21 : decode prog_8_method_21_code 21 = .ok (.iconst 3, 1) := by decide +kernel
theorem d_150_22 : decode prog_8_method_21_code 22 = .ok (.iload_n 2, 1) := by decide +kernel
theorem d_150_23 : decode prog_8_method_21_code 23 = .ok (.imul, 1) := by decide +kernel
theorem d_150_24 : decode prog_8_method_21_code 24 = .ok (.iadd, 1) := by decide +kernel
theorem d_150_25 : decode prog_8_method_21_code 25 = .ok (.istore_n 3, 1) := by decide +kernel
theorem d_150_26 : decode prog_8_method_21_code 26 = .ok (.iload_n 3, 1) := by decide +kernel
theorem d_150_27 : decode prog_8_method_21_code 27 = .ok (.bipush 18, 2) := by decide +kernel
theorem d_150_29 : decode prog_8_method_21_code 29 = .ok (.iload_n 1, 1) := by decide +kernel
theorem d_150_30 : decode prog_8_method_21_code 30 = .ok (.imul, 1) := by decide +kernel
theorem d_150_31 : decode prog_8_method_21_code 31 = .ok (.iconst 3, 1) := by decide +kernel
theorem d_150_32 : decode prog_8_method_21_code 32 = .ok (.iload_n 2, 1) := by decide +kernel
theorem d_150_33 : decode prog_8_method_21_code 33 = .ok (.imul, 1) := by decide +kernel
theorem d_150_34 : decode prog_8_method_21_code 34 = .ok (.iadd, 1) := by decide +kernel
theorem d_150_35 : decode prog_8_method_21_code 35 = .ok (.aload_n 0, 1) := by decide +kernel
theorem d_150_36 : decode prog_8_method_21_code 36 = .ok (.getfield 34, 3) := by decide +kernel
theorem d_150_39 : decode prog_8_method_21_code 39 = .ok (.bipush 6, 2) := by decide +kernel
theorem d_150_41 : decode prog_8_method_21_code 41 = .ok (.iload_n 1, 1) := by decide +kernel
theorem d_150_42 : decode prog_8_method_21_code 42 = .ok (.imul, 1) := by decide +kernel
theorem d_150_43 : decode prog_8_method_21_code 43 = .ok (.iload_n 2, 1) := by decide +kernel
theorem d_150_44 : decode prog_8_method_21_code 44 = .ok (.iadd, 1) := by decide +kernel
theorem d_150_45 : decode prog_8_method_21_code 45 = .ok (.iaload, 1) := by decide +kernel
theorem d_150_46 : decode prog_8_method_21_code 46 = .ok (.iadd, 1) := by decide +kernel
theorem d_150_47 : decode prog_8_method_21_code 47 = .ok (.if_icmp .ge 86, 3) := by decide +kernel
theorem d_150_50 : decode prog_8_method_21_code 50 = .ok (.aload_n 0, 1) := by decide +kernel
theorem d_150_51 : decode prog_8_method_21_code 51 = .ok (.aload_n 0, 1) := by decide +kernel
theorem d_150_52 : decode prog_8_method_21_code 52 = .ok (.getfield 37, 3) := by decide +kernel
theorem d_150_55 : decode prog_8_method_21_code 55 = .ok (.iload_n 3, 1) := by decide +kernel
theorem d_150_56 : decode prog_8_method_21_code 56 = .ok (.iaload, 1) := by decide +kernel
theorem d_150_57 : decode prog_8_method_21_code 57 = .ok (.invokevirtual 120, 3) := by decide +kernel
theorem d_150_60 : decode prog_8_method_21_code 60 = .ok (.aload_n 0, 1) := by decide +kernel
theorem d_150_61 : decode prog_8_method_21_code 61 = .ok (.aload_n 0, 1) := by decide +kernel
theorem d_150_62 : decode prog_8_method_21_code 62 = .ok (.getfield 40, 3) := by decide +kernel
theorem d_150_65 : decode prog_8_method_21_code 65 = .ok (.iload_n 3, 1) := by decide +kernel
theorem d_150_66 : decode prog_8_method_21_code 66 = .ok (.iaload, 1) := by decide +kernel
theorem d_150_67 : decode prog_8_method_21_code 67 = .ok (.iconst 4, 1) := by decide +kernel
theorem d_150_68 : decode prog_8_method_21_code 68 = .ok (.invokevirtual 113, 3) := by decide +kernel
theorem d_150_71 : decode prog_8_method_21_code 71 = .ok (.aload_n 0, 1) := by decide +kernel
theorem d_150_72 : decode prog_8_method_21_code 72 = .ok (.iconst 2, 1) := by decide +kernel
theorem d_150_73 : decode prog_8_method_21_code 73 = .ok (.iconst 4, 1) := by decide +kernel
theorem d_150_74 : decode prog_8_method_21_code 74 = .ok (.invokevirtual 113, 3) := by decide +kernel
theorem d_150_77 : decode prog_8_method_21_code 77 = .ok (.aload_n 0, 1) := by decide +kernel
theorem d_150_78 : decode prog_8_method_21_code 78 = .ok (.getfield 105, 3) := by decide +kernel
theorem d_150_81 : decode prog_8_method_21_code 81 = .ok (.istore 4, 2) := by decide +kernel
theorem d_150_83 : decode prog_8_method_21_code 83 = .ok (.aload_n 0, 1) := by decide +kernel
theorem d_150_84 : decode prog_8_method_21_code 84 = .ok (.aload_n 0, 1) := by decide +kernel
theorem d_150_85 : decode prog_8_method_21_code 85 = .ok (.getfield 43, 3) := by decide +kernel
theorem d_150_88 : decode prog_8_method_21_code 88 = .ok (.iload_n 3, 1) := by decide +kernel
theorem d_150_89 : decode prog_8_method_21_code 89 = .ok (.iaload, 1) := by decide +kernel
theorem d_150_90 : decode prog_8_method_21_code 90 = .ok (.aload_n 0, 1) := by decide +kernel
theorem d_150_91 : decode prog_8_method_21_code 91 = .ok (.getfield 40, 3) := by decide +kernel
theorem d_150_94 : decode prog_8_method_21_code 94 = .ok (.iload_n 3, 1) := by decide +kernel
theorem d_150_95 : decode prog_8_method_21_code 95 = .ok (.iaload, 1) := by decide +kernel
theorem d_150_96 : decode prog_8_method_21_code 96 = .ok (.invokestatic 79, 3) := by decide +kernel
theorem d_150_99 : decode prog_8_method_21_code 99 = .ok (.invokevirtual 113, 3) := by decide +kernel
theorem d_150_102 : decode prog_8_method_21_code 102 = .ok (.aload_n 0, 1) := by decide +kernel
theorem d_150_103 : decode prog_8_method_21_code 103 = .ok (.aload_n 0, 1) := by decide +kernel
theorem d_150_104 : decode prog_8_method_21_code 104 = .ok (.getfield 46, 3) := by decide +kernel
theorem d_150_107 : decode prog_8_method_21_code 107 = .ok (.iload_n 3, 1) := by decide +kernel
theorem d_150_108 : decode prog_8_method_21_code 108 = .ok (.iaload, 1) := by decide +kernel
theorem d_150_109 : decode prog_8_method_21_code 109 = .ok (.aload_n 0, 1) := by decide +kernel
theorem d_150_110 : decode prog_8_method_21_code 110 = .ok (.getfield 40, 3) := by decide +kernel
theorem d_150_113 : decode prog_8_method_21_code 113 = .ok (.iload_n 3, 1) := by decide +kernel
theorem d_150_114 : decode prog_8_method_21_code 114 = .ok (.iaload, 1) := by decide +kernel
theorem d_150_115 : decode prog_8_method_21_code 115 = .ok (.invokestatic 79, 3) := by decide +kernel
theorem d_150_118 : decode prog_8_method_21_code 118 = .ok (.invokevirtual 113, 3) := by decide +kernel
theorem d_150_121 : decode prog_8_method_21_code 121 = .ok (.aload_n 0, 1) := by decide +kernel
theorem d_150_122 : decode prog_8_method_21_code 122 = .ok (.iload 4, 2) := by decide +kernel
theorem d_150_124 : decode prog_8_method_21_code 124 = .ok (.invokevirtual 123, 3) := by decide +kernel
theorem d_150_127 : decode prog_8_method_21_code 127 = .ok (.iinc 3 1, 3) := by decide +kernel
theorem d_150_130 : decode prog_8_method_21_code 130 = .ok (.goto (-104), 3) := by decide +kernel
theorem d_150_133 : decode prog_8_method_21_code 133 = .ok (.return_, 1) := by decide +kernel
theorem d_151_0 : decode prog_8_method_19_code 0 = .ok (.aload_n 0, 1) := by decide +kernel
theorem d_151_1 : decode prog_8_method_19_code 1 = .ok (.getfield 105, 3) := by decide +kernel
theorem d_151_4 : decode prog_8_method_19_code 4 = .ok (.iload_n 1, 1) := by decide +kernel
theorem d_151_5 : decode prog_8_method_19_code 5 = .ok (.isub, 1) := by decide +kernel
theorem d_151_6 : decode prog_8_method_19_code 6 = .ok (.iconst 4, 1) := by decide +kernel
theorem d_151_7 : decode prog_8_method_19_code 7 = .ok (.irem, 1) := by decide +kernel
theorem d_151_8 : decode prog_8_method_19_code 8 = .ok (.ifCond .eq 11, 3) := by decide +kernel
theorem d_151_11 : decode prog_8_method_19_code 11 = .ok (.aload_n 0, 1) := by decide +kernel
theorem d_151_12 : decode prog_8_method_19_code 12 = .ok (.iconst 0, 1) := by decide +kernel
theorem d_151_13 : decode prog_8_method_19_code 13 = .ok (.invokevirtual 109, 3) := by decide +kernel
theorem d_151_16 : decode prog_8_method_19_code 16 = .ok (.goto (-16), 3) := by decide +kernel
theorem d_151_19 : decode prog_8_method_19_code 19 = .ok (.return_, 1) := by decide +kernel
theorem d_152_0 : decode prog_8_method_22_code 0 = .ok (.iconst 5, 1) := by decide +kernel
theorem d_152_1 : decode prog_8_method_22_code 1 = .ok (.iload_n 1, 1) := by decide +kernel
theorem d_152_2 : decode prog_8_method_22_code 2 = .ok (.imul, 1) := by decide +kernel
theorem d_152_3 : decode prog_8_method_22_code 3 = .ok (.iload_n 2, 1) := by decide +kernel
theorem d_152_4 : decode prog_8_method_22_code 4 = .ok (.iadd, 1) := by decide +kernel
theorem d_152_5 : decode prog_8_method_22_code 5 = .ok (.istore_n 3, 1) := by decide +kernel
theorem d_152_6 : decode prog_8_method_22_code 6 = .ok (.aload_n 0, 1) := by decide +kernel
theorem d_152_7 : decode prog_8_method_22_code 7 = .ok (.aload_n 0, 1) := by decide +kernel
theorem d_152_8 : decode prog_8_method_22_code 8 = .ok (.getfield 22, 3) := by decide +kernel
theorem d_152_11 : decode prog_8_method_22_code 11 = .ok (.iload_n 3, 1) := by decide +kernel
theorem d_152_12 : decode prog_8_method_22_code 12 = .ok (.iaload, 1) := by decide +kernel
theorem d_152_13 : decode prog_8_method_22_code 13 = .ok (.invokevirtual 120, 3) := by decide +kernel
theorem d_152_16 : decode prog_8_method_22_code 16 = .ok (.aload_n 0, 1) := by decide +kernel
theorem d_152_17 : decode prog_8_method_22_code 17 = .ok (.aload_n 0, 1) := by decide +kernel
theorem d_152_18 : decode prog_8_method_22_code 18 = .ok (.getfield 28, 3) := by decide +kernel
theorem d_152_21 : decode prog_8_method_22_code 21 = .ok (.iload_n 3, 1) := by decide +kernel
theorem d_152_22 : decode prog_8_method_22_code 22 = .ok (.iaload, 1) := by decide +kernel
theorem d_152_23 : decode prog_8_method_22_code 23 = .ok (.iconst 4, 1) := by decide +kernel
theorem d_152_24 : decode prog_8_method_22_code 24 = .ok (.invokevirtual 113, 3) := by decide +kernel
theorem d_152_27 : decode prog_8_method_22_code 27 = .ok (.iconst 0, 1) := by decide +kernel
theorem d_152_28 : decode prog_8_method_22_code 28 = .ok (.istore 4, 2) := by decide +kernel
theorem d_152_30 : decode prog_8_method_22_code 30 = .ok (.iload 4, 2) := by decide +kernel
theorem d_152_32 : decode prog_8_method_22_code 32 = .ok (.aload_n 0, 1) := by decide +kernel
theorem d_152_33 : decode prog_8_method_22_code 33 = .ok (.getfield 28, 3) := by decide +kernel
theorem d_152_36 : decode prog_8_method_22_code 36 = .ok (.iload_n 3, 1) := by decide +kernel
theorem d_152_37 : decode prog_8_method_22_code 37 = .ok (.iaload, 1) := by decide +kernel
theorem d_152_38 : decode prog_8_method_22_code 38 = .ok (.if_icmp .ge 25, 3) := by decide +kernel
theorem d_152_41 : decode prog_8_method_22_code 41 = .ok (.aload_n 0, 1) := by decide +kernel
theorem d_152_42 : decode prog_8_method_22_code 42 = .ok (.aload_n 0, 1) := by decide +kernel
theorem d_152_43 : decode prog_8_method_22_code 43 = .ok (.getfield 31, 3) := by decide +kernel
theorem d_152_46 : decode prog_8_method_22_code 46 = .ok (.iconst 2, 1) := by decide +kernel
theorem d_152_47 : decode prog_8_method_22_code 47 = .ok (.iload_n 3, 1) := by decide +kernel
theorem d_152_48 : decode prog_8_method_22_code 48 = .ok (.imul, 1) := by decide +kernel
theorem d_152_49 : decode prog_8_method_22_code 49 = .ok (.iload 4, 2) := by decide +kernel
theorem d_152_51 : decode prog_8_method_22_code 51 = .ok (.iadd, 1) := by decide +kernel
theorem d_152_52 : decode prog_8_method_22_code 52 = .ok (.iaload, 1) := by decide +kernel
theorem d_152_53 : decode prog_8_method_22_code 53 = .ok (.iconst 4, 1) := by decide +kernel
theorem d_152_54 : decode prog_8_method_22_code 54 = .ok (.invokevirtual 113, 3) := by decide +kernel
theorem d_152_57 : decode prog_8_method_22_code 57 = .ok (.iinc 4 1, 3) := by decide +kernel
theorem d_152_60 : decode prog_8_method_22_code 60 = .ok (.goto (-30), 3) := by decide +kernel
theorem d_152_63 : decode prog_8_method_22_code 63 = .ok (.aload_n 0, 1) := by decide +kernel
theorem d_152_64 : decode prog_8_method_22_code 64 = .ok (.iload_n 1, 1) := by decide +kernel
theorem d_152_65 : decode prog_8_method_22_code 65 = .ok (.iload_n 2, 1) := by decide +kernel
theorem d_152_66 : decode prog_8_method_22_code 66 = .ok (.iconst 1, 1) := by decide +kernel
theorem d_152_67 : decode prog_8_method_22_code 67 = .ok (.iadd, 1) := by decide +kernel
theorem d_152_68 : decode prog_8_method_22_code 68 = .ok (.invokevirtual 126, 3) := by decide +kernel
theorem d_152_71 : decode prog_8_method_22_code 71 = .ok (.aload_n 0, 1) := by decide +kernel
theorem d_152_72 : decode prog_8_method_22_code 72 = .ok (.aload_n 0, 1) := by decide +kernel
theorem d_152_73 : decode prog_8_method_22_code 73 = .ok (.getfield 25, 3) := by decide +kernel
theorem d_152_76 : decode prog_8_method_22_code 76 = .ok (.iload_n 3, 1) := by decide +kernel
theorem d_152_77 : decode prog_8_method_22_code 77 = .ok (.iaload, 1) := by decide +kernel
theorem d_152_78 : decode prog_8_method_22_code 78 = .ok (.iconst 4, 1) := by decide +kernel
theorem d_152_79 : decode prog_8_method_22_code 79 = .ok (.invokevirtual 113, 3) := by decide +kernel
theorem d_152_82 : decode prog_8_method_22_code 82 = .ok (.aload_n 0, 1) := by decide +kernel
theorem d_152_83 : decode prog_8_method_22_code 83 = .ok (.iload_n 1, 1) := by decide +kernel
theorem d_152_84 : decode prog_8_method_22_code 84 = .ok (.iload_n 2, 1) := by decide +kernel
theorem d_152_85 : decode prog_8_method_22_code 85 = .ok (.invokevirtual 93, 3) := by decide +kernel
theorem d_152_88 : decode prog_8_method_22_code 88 = .ok (.istore 4, 2) := by decide +kernel
theorem d_152_90 : decode prog_8_method_22_code 90 = .ok (.aload_n 0, 1) := by decide +kernel
theorem d_152_91 : decode prog_8_method_22_code 91 = .ok (.iload_n 1, 1) := by decide +kernel
theorem d_152_92 : decode prog_8_method_22_code 92 = .ok (.iload_n 2, 1) := by decide +kernel
theorem d_152_93 : decode prog_8_method_22_code 93 = .ok (.invokevirtual 99, 3) := by decide +kernel
theorem d_152_96 : decode prog_8_method_22_code 96 = .ok (.istore 5, 2) := by decide +kernel
theorem d_152_98 : decode prog_8_method_22_code 98 = .ok (.aload_n 0, 1) := by decide +kernel
theorem d_152_99 : decode prog_8_method_22_code 99 = .ok (.iload 4, 2) := by decide +kernel
theorem d_152_101 : decode prog_8_method_22_code 101 = .ok (.iconst 4, 1) := by decide +kernel
theorem d_152_102 : decode prog_8_method_22_code 102 = .ok (.invokevirtual 113, 3) := by decide +kernel
theorem d_152_105 : decode prog_8_method_22_code 105 = .ok (.aload_n 0, 1) := by decide +kernel
theorem d_152_106 : decode prog_8_method_22_code 106 = .ok (.iload 5, 2) := by decide +kernel
theorem d_152_108 : decode prog_8_method_22_code 108 = .ok (.iconst 4, 1) := by decide +kernel
theorem d_152_109 : decode prog_8_method_22_code 109 = .ok (.invokevirtual 113, 3) := by decide +kernel
theorem d_152_112 : decode prog_8_method_22_code 112 = .ok (.return_, 1) := by decide +kernel
theorem d_153_0 : decode prog_8_method_23_code 0 = .ok (.iconst 5, 1) := by decide +kernel
theorem d_153_1 : decode prog_8_method_23_code 1 = .ok (.iload_n 1, 1) := by decide +kernel
theorem d_153_2 : decode prog_8_method_23_code 2 = .ok (.imul, 1) := by decide +kernel
theorem d_153_3 : decode prog_8_method_23_code 3 = .ok (.iload_n 2, 1) := by decide +kernel
theorem d_153_4 : decode prog_8_method_23_code 4 = .ok (.iadd, 1) := by decide +kernel
theorem d_153_5 : decode prog_8_method_23_code 5 = .ok (.istore 5, 2) := by decide +kernel
theorem d_153_7 : decode prog_8_method_23_code 7 = .ok (.aload_n 0, 1) := by decide +kernel
theorem d_153_8 : decode prog_8_method_23_code 8 = .ok (.iload_n 1, 1) := by decide +kernel
theorem d_153_9 : decode prog_8_method_23_code 9 = .ok (.iload_n 2, 1) := by decide +kernel
theorem d_153_10 : decode prog_8_method_23_code 10 = .ok (.invokevirtual 75, 3) := by decide +kernel
theorem d_153_13 : decode prog_8_method_23_code 13 = .ok (.istore 6, 2) := by decide +kernel
theorem d_153_15 : decode prog_8_method_23_code 15 = .ok (.aload_n 0, 1) := by decide +kernel
theorem d_153_16 : decode prog_8_method_23_code 16 = .ok (.getfield 105, 3) := by decide +kernel
theorem d_153_19 : decode prog_8_method_23_code 19 = .ok (.istore 7, 2) := by decide +kernel
theorem d_153_21 : decode prog_8_method_23_code 21 = .ok (.iconst 0, 1) := by decide +kernel
theorem d_153_22 : decode prog_8_method_23_code 22 = .ok (.istore 8, 2) := by decide +kernel
theorem d_153_24 : decode prog_8_method_23_code 24 = .ok (.iload 8, 2) := by decide +kernel
theorem d_153_26 : decode prog_8_method_23_code 26 = .ok (.iload 6, 2) := by decide +kernel
theorem d_153_28 : decode prog_8_method_23_code 28 = .ok (.if_icmp .ge 42, 3) := by decide +kernel
theorem d_153_31 : decode prog_8_method_23_code 31 = .ok (.aload_n 0, 1) := by decide +kernel
theorem d_153_32 : decode prog_8_method_23_code 32 = .ok (.aload_n 0, 1) := by decide +kernel
theorem d_153_33 : decode prog_8_method_23_code 33 = .ok (.getfield 52, 3) := by decide +kernel
theorem d_153_36 : decode prog_8_method_23_code 36 = .ok (.sipush 800, 3) := by decide +kernel
theorem d_153_39 : decode prog_8_method_23_code 39 = .ok (.iload 5, 2) := by decide +kernel
theorem d_153_41 : decode prog_8_method_23_code 41 = .ok (.imul, 1) := by decide +kernel
theorem d_153_42 : decode prog_8_method_23_code 42 = .ok (.iload_n 3, 1) := by decide +kernel
theorem d_153_43 : decode prog_8_method_23_code 43 = .ok (.iload 6, 2) := by decide +kernel
theorem d_153_45 : decode prog_8_method_23_code 45 = .ok (.imul, 1) := by decide +kernel
theorem d_153_46 : decode prog_8_method_23_code 46 = .ok (.iadd, 1) := by decide +kernel
theorem d_153_47 : decode prog_8_method_23_code 47 = .ok (.iload 8, 2) := by decide +kernel
theorem d_153_49 : decode prog_8_method_23_code 49 = .ok (.iadd, 1) := by decide +kernel
theorem d_153_50 : decode prog_8_method_23_code 50 = .ok (.iaload, 1) := by decide +kernel
theorem d_153_51 : decode prog_8_method_23_code 51 = .ok (.aload_n 0, 1) := by decide +kernel
theorem d_153_52 : decode prog_8_method_23_code 52 = .ok (.getfield 25, 3) := by decide +kernel
theorem d_153_55 : decode prog_8_method_23_code 55 = .ok (.iload 5, 2) := by decide +kernel
theorem d_153_57 : decode prog_8_method_23_code 57 = .ok (.iaload, 1) := by decide +kernel
theorem d_153_58 : decode prog_8_method_23_code 58 = .ok (.invokestatic 79, 3) := by decide +kernel
theorem d_153_61 : decode prog_8_method_23_code 61 = .ok (.invokevirtual 113, 3) := by decide +kernel
theorem d_153_64 : decode prog_8_method_23_code 64 = .ok (.iinc 8 1, 3) := by decide +kernel
theorem d_153_67 : decode prog_8_method_23_code 67 = .ok (.goto (-43), 3) := by decide +kernel
theorem d_153_70 : decode prog_8_method_23_code 70 = .ok (.iload 4, 2) := by decide +kernel
theorem d_153_72 : decode prog_8_method_23_code 72 = .ok (.ifCond .eq 9, 3) := by decide +kernel
theorem d_153_75 : decode prog_8_method_23_code 75 = .ok (.aload_n 0, 1) := by decide +kernel
theorem d_153_76 : decode prog_8_method_23_code 76 = .ok (.iload 7, 2) := by decide +kernel
theorem d_153_78 : decode prog_8_method_23_code 78 = .ok (.invokevirtual 123, 3) := by decide +kernel
theorem d_153_81 : decode prog_8_method_23_code 81 = .ok (.return_, 1) := by decide +kernel
theorem d_154_0 : decode prog_8_method_54_code 0 = .ok (.iload_n 3, 1) := by decide +kernel
theorem d_154_1 : decode prog_8_method_54_code 1 = .ok (.iconst 1, 1) := by decide +kernel
theorem d_154_2 : decode prog_8_method_54_code 2 = .ok (.if_icmp .lt 21, 3) := by decide +kernel
theorem d_154_5 : decode prog_8_method_54_code 5 = .ok (.iload_n 3, 1) := by decide +kernel
theorem d_154_6 : decode prog_8_method_54_code 6 = .ok (.bipush 8, 2) := by decide +kernel
theorem d_154_8 : decode prog_8_method_54_code 8 = .ok (.if_icmp .gt 15, 3) := by decide +kernel
theorem d_154_11 : decode prog_8_method_54_code 11 = .ok (.aload_n 0, 1) := by decide +kernel
theorem d_154_12 : decode prog_8_method_54_code 12 = .ok (.getfield 214, 3) := by decide +kernel
theorem d_154_15 : decode prog_8_method_54_code 15 = .ok (.iload_n 3, 1) := by decide +kernel
theorem d_154_16 : decode prog_8_method_54_code 16 = .ok (.iadd, 1) := by decide +kernel
theorem d_154_17 : decode prog_8_method_54_code 17 = .ok (.sipush 800, 3) := by decide +kernel
theorem d_154_20 : decode prog_8_method_54_code 20 = .ok (.if_icmp .le 5, 3) := by decide +kernel
theorem d_154_23 : decode prog_8_method_54_code 23 = .ok (.iconst 0, 1) := by decide +kernel
theorem d_154_24 : decode prog_8_method_54_code 24 = .ok (.ireturn, 1) := by decide +kernel
theorem d_154_25 : decode prog_8_method_54_code 25 = .ok (.iconst 0, 1) := by decide +kernel
theorem d_154_26 : decode prog_8_method_54_code 26 = .ok (.istore 4, 2) := by decide +kernel
theorem d_154_28 : decode prog_8_method_54_code 28 = .ok (.iload 4, 2) := by decide +kernel
theorem d_154_30 : decode prog_8_method_54_code 30 = .ok (.iload_n 3, 1) := by decide +kernel
theorem d_154_31 : decode prog_8_method_54_code 31 = .ok (.if_icmp .ge 43, 3) := by decide +kernel
theorem d_154_34 : decode prog_8_method_54_code 34 = .ok (.aload_n 0, 1) := by decide +kernel
theorem d_154_35 : decode prog_8_method_54_code 35 = .ok (.getfield 67, 3) := by decide +kernel
theorem d_154_38 : decode prog_8_method_54_code 38 = .ok (.aload_n 0, 1) := by decide +kernel
theorem d_154_39 : decode prog_8_method_54_code 39 = .ok (.getfield 214, 3) := by decide +kernel
theorem d_154_42 : decode prog_8_method_54_code 42 = .ok (.lload_n 1, 1) := by decide +kernel
theorem d_154_43 : decode prog_8_method_54_code 43 = .ok (.bipush 56, 2) := by decide +kernel
theorem d_154_45 : decode prog_8_method_54_code 45 = .ok (.bipush 8, 2) := by decide +kernel
theorem d_154_47 : decode prog_8_method_54_code 47 = .ok (.iload 4, 2) := by decide +kernel
theorem d_154_49 : decode prog_8_method_54_code 49 = .ok (.imul, 1) := by decide +kernel
theorem d_154_50 : decode prog_8_method_54_code 50 = .ok (.isub, 1) := by decide +kernel
theorem d_154_51 : decode prog_8_method_54_code 51 = .ok (.lshr, 1) := by decide +kernel
theorem d_154_52 : decode prog_8_method_54_code 52 = .ok (.ldc2_w 217, 3) := by decide +kernel
theorem d_154_55 : decode prog_8_method_54_code 55 = .ok (.land, 1) := by decide +kernel
theorem d_154_56 : decode prog_8_method_54_code 56 = .ok (.l2i, 1) := by decide +kernel
theorem d_154_57 : decode prog_8_method_54_code 57 = .ok (.iastore, 1) := by decide +kernel
theorem d_154_58 : decode prog_8_method_54_code 58 = .ok (.aload_n 0, 1) := by decide +kernel
theorem d_154_59 : decode prog_8_method_54_code 59 = .ok (.dup, 1) := by decide +kernel
theorem d_154_60 : decode prog_8_method_54_code 60 = .ok (.getfield 214, 3) := by decide +kernel
theorem d_154_63 : decode prog_8_method_54_code 63 = .ok (.iconst 1, 1) := by decide +kernel
theorem d_154_64 : decode prog_8_method_54_code 64 = .ok (.iadd, 1) := by decide +kernel
theorem d_154_65 : decode prog_8_method_54_code 65 = .ok (.putfield 214, 3) := by decide +kernel
theorem d_154_68 : decode prog_8_method_54_code 68 = .ok (.iinc 4 1, 3) := by decide +kernel
theorem d_154_71 : decode prog_8_method_54_code 71 = .ok (.goto (-43), 3) := by decide +kernel
theorem d_154_74 : decode prog_8_method_54_code 74 = .ok (.iconst 1, 1) := by decide +kernel
theorem d_154_75 : decode prog_8_method_54_code 75 = .ok (.ireturn, 1) := by decide +kernel
theorem d_155_0 : decode prog_8_method_55_code 0 = .ok (.aload_n 0, 1) := by decide +kernel
theorem d_155_1 : decode prog_8_method_55_code 1 = .ok (.iconst 0, 1) := by decide +kernel
theorem d_155_2 : decode prog_8_method_55_code 2 = .ok (.putfield 214, 3) := by decide +kernel
theorem d_155_5 : decode prog_8_method_55_code 5 = .ok (.return_, 1) := by decide +kernel
theorem d_156_0 : decode prog_8_method_66_code 0 = .ok (.iconst 1, 1) := by decide +kernel
theorem d_156_1 : decode prog_8_method_66_code 1 = .ok (.aload_n 0, 1) := by decide +kernel
theorem d_156_2 : decode prog_8_method_66_code 2 = .ok (.getfield 137, 3) := by decide +kernel
theorem d_156_5 : decode prog_8_method_66_code 5 = .ok (.isub, 1) := by decide +kernel
theorem d_156_6 : decode prog_8_method_66_code 6 = .ok (.istore_n 1, 1) := by decide +kernel
theorem d_156_7 : decode prog_8_method_66_code 7 = .ok (.aload_n 0, 1) := by decide +kernel
theorem d_156_8 : decode prog_8_method_66_code 8 = .ok (.iload_n 1, 1) := by decide +kernel
theorem d_156_9 : decode prog_8_method_66_code 9 = .ok (.invokevirtual 250, 3) := by decide +kernel
theorem d_156_12 : decode prog_8_method_66_code 12 = .ok (.ifCond .eq 24, 3) := by decide +kernel
theorem d_156_15 : decode prog_8_method_66_code 15 = .ok (.aload_n 0, 1) := by decide +kernel
theorem d_156_16 : decode prog_8_method_66_code 16 = .ok (.iload_n 1, 1) := by decide +kernel
theorem d_156_17 : decode prog_8_method_66_code 17 = .ok (.aload_n 0, 1) := by decide +kernel
theorem d_156_18 : decode prog_8_method_66_code 18 = .ok (.getfield 49, 3) := by decide +kernel
theorem d_156_21 : decode prog_8_method_66_code 21 = .ok (.iload_n 1, 1) := by decide +kernel
theorem d_156_22 : decode prog_8_method_66_code 22 = .ok (.iaload, 1) := by decide +kernel
theorem d_156_23 : decode prog_8_method_66_code 23 = .ok (.i2l, 1) := by decide +kernel
theorem d_156_24 : decode prog_8_method_66_code 24 = .ok (.invokevirtual 176, 3) := by decide +kernel
theorem d_156_27 : decode prog_8_method_66_code 27 = .ok (.aload_n 0, 1) := by decide +kernel
theorem d_156_28 : decode prog_8_method_66_code 28 = .ok (.getfield 214, 3) := by decide +kernel
theorem d_156_31 : decode prog_8_method_66_code 31 = .ok (.i2l, 1) := by decide +kernel
theorem d_156_32 : decode prog_8_method_66_code 32 = .ok (.lcmp, 1) := by decide +kernel
theorem d_156_33 : decode prog_8_method_66_code 33 = .ok (.ifCond .eq 6, 3) := by decide +kernel
theorem d_156_36 : decode prog_8_method_66_code 36 = .ok (.bipush (-9), 2) := by decide +kernel
theorem d_156_38 : decode prog_8_method_66_code 38 = .ok (.ireturn, 1) := by decide +kernel
theorem d_156_39 : decode prog_8_method_66_code 39 = .ok (.aload_n 0, 1) := by decide +kernel
theorem d_156_40 : decode prog_8_method_66_code 40 = .ok (.iload_n 1, 1) := by decide +kernel
theorem d_156_41 : decode prog_8_method_66_code 41 = .ok (.invokevirtual 253, 3) := by decide +kernel
theorem d_156_44 : decode prog_8_method_66_code 44 = .ok (.aload_n 0, 1) := by decide +kernel
theorem d_156_45 : decode prog_8_method_66_code 45 = .ok (.iload_n 1, 1) := by decide +kernel
theorem d_156_46 : decode prog_8_method_66_code 46 = .ok (.invokevirtual 207, 3) := by decide +kernel
theorem d_156_49 : decode prog_8_method_66_code 49 = .ok (.iconst 0, 1) := by decide +kernel
theorem d_156_50 : decode prog_8_method_66_code 50 = .ok (.istore_n 2, 1) := by decide +kernel
theorem d_156_51 : decode prog_8_method_66_code 51 = .ok (.iload_n 2, 1) := by decide +kernel
theorem d_156_52 : decode prog_8_method_66_code 52 = .ok (.aload_n 0, 1) := by decide +kernel
theorem d_156_53 : decode prog_8_method_66_code 53 = .ok (.getfield 214, 3) := by decide +kernel
theorem d_156_56 : decode prog_8_method_66_code 56 = .ok (.if_icmp .ge 27, 3) := by decide +kernel
theorem d_156_59 : decode prog_8_method_66_code 59 = .ok (.aload_n 0, 1) := by decide +kernel
theorem d_156_60 : decode prog_8_method_66_code 60 = .ok (.getfield 64, 3) := by decide +kernel
theorem d_156_63 : decode prog_8_method_66_code 63 = .ok (.iload_n 2, 1) := by decide +kernel
theorem d_156_64 : decode prog_8_method_66_code 64 = .ok (.iaload, 1) := by decide +kernel
theorem d_156_65 : decode prog_8_method_66_code 65 = .ok (.aload_n 0, 1) := by decide +kernel
theorem d_156_66 : decode prog_8_method_66_code 66 = .ok (.getfield 67, 3) := by decide +kernel
theorem d_156_69 : decode prog_8_method_66_code 69 = .ok (.iload_n 2, 1) := by decide +kernel
theorem d_156_70 : decode prog_8_method_66_code 70 = .ok (.iaload, 1) := by decide +kernel
theorem d_156_71 : decode prog_8_method_66_code 71 = .ok (.if_icmp .eq 6, 3) := by decide +kernel
theorem d_156_74 : decode prog_8_method_66_code 74 = .ok (.bipush (-9), 2) := by decide +kernel
theorem d_156_76 : decode prog_8_method_66_code 76 = .ok (.ireturn, 1) := by decide +kernel
theorem d_156_77 : decode prog_8_method_66_code 77 = .ok (.iinc 2 1, 3) := by decide +kernel
theorem d_156_80 : decode prog_8_method_66_code 80 = .ok (.goto (-29), 3) := by decide +kernel
theorem d_156_83 : decode prog_8_method_66_code 83 = .ok (.aload_n 0, 1) := by decide +kernel
theorem d_156_84 : decode prog_8_method_66_code 84 = .ok (.iload_n 1, 1) := by decide +kernel
theorem d_156_85 : decode prog_8_method_66_code 85 = .ok (.putfield 137, 3) := by decide +kernel
theorem d_156_88 : decode prog_8_method_66_code 88 = .ok (.aload_n 0, 1) := by decide +kernel
theorem d_156_89 : decode prog_8_method_66_code 89 = .ok (.iconst 1, 1) := by decide +kernel
theorem d_156_90 : decode prog_8_method_66_code 90 = .ok (.putfield 140, 3) := by decide +kernel
theorem d_156_93 : decode prog_8_method_66_code 93 = .ok (.aload_n 0, 1) := by decide +kernel
theorem d_156_94 : decode prog_8_method_66_code 94 = .ok (.getfield 214, 3) := by decide +kernel
theorem d_156_97 : decode prog_8_method_66_code 97 = .ok (.ireturn, 1) := by decide +kernel
theorem d_157_0 : decode prog_8_method_63_code 0 = .ok (.aload_n 0, 1) := by decide +kernel
theorem d_157_1 : decode prog_8_method_63_code 1 = .ok (.iconst 4, 1) := by decide +kernel
theorem d_157_2 : decode prog_8_method_63_code 2 = .ok (.putfield 222, 3) := by decide +kernel
theorem d_157_5 : decode prog_8_method_63_code 5 = .ok (.aload_n 0, 1) := by decide +kernel
theorem d_157_6 : decode prog_8_method_63_code 6 = .ok (.iconst 0, 1) := by decide +kernel
theorem d_157_7 : decode prog_8_method_63_code 7 = .ok (.putfield 219, 3) := by decide +kernel
theorem d_157_10 : decode prog_8_method_63_code 10 = .ok (.aload_n 0, 1) := by decide +kernel
theorem d_157_11 : decode prog_8_method_63_code 11 = .ok (.getfield 49, 3) := by decide +kernel
theorem d_157_14 : decode prog_8_method_63_code 14 = .ok (.iload_n 1, 1) := by decide +kernel
theorem d_157_15 : decode prog_8_method_63_code 15 = .ok (.aload_n 0, 1) := by decide +kernel
theorem d_157_16 : decode prog_8_method_63_code 16 = .ok (.iconst 4, 1) := by decide +kernel
theorem d_157_17 : decode prog_8_method_63_code 17 = .ok (.invokevirtual 225, 3) := by decide +kernel
theorem d_157_20 : decode prog_8_method_63_code 20 = .ok (.iastore, 1) := by decide +kernel
theorem d_157_21 : decode prog_8_method_63_code 21 = .ok (.aload_n 0, 1) := by decide +kernel
theorem d_157_22 : decode prog_8_method_63_code 22 = .ok (.getfield 19, 3) := by decide +kernel
theorem d_157_25 : decode prog_8_method_63_code 25 = .ok (.iload_n 1, 1) := by decide +kernel
theorem d_157_26 : decode prog_8_method_63_code 26 = .ok (.iconst 0, 1) := by decide +kernel
theorem d_157_27 : decode prog_8_method_63_code 27 = .ok (.iastore, 1) := by decide +kernel
theorem d_157_28 : decode prog_8_method_63_code 28 = .ok (.aload_n 0, 1) := by decide +kernel
theorem d_157_29 : decode prog_8_method_63_code 29 = .ok (.iload_n 1, 1) := by decide +kernel
theorem d_157_30 : decode prog_8_method_63_code 30 = .ok (.invokevirtual 241, 3) := by decide +kernel
theorem d_157_33 : decode prog_8_method_63_code 33 = .ok (.ifCond .eq 12, 3) := by decide +kernel
theorem d_157_36 : decode prog_8_method_63_code 36 = .ok (.aload_n 0, 1) := by decide +kernel
theorem d_157_37 : decode prog_8_method_63_code 37 = .ok (.iload_n 1, 1) := by decide +kernel
theorem d_157_38 : decode prog_8_method_63_code 38 = .ok (.iconst 0, 1) := by decide +kernel
theorem d_157_39 : decode prog_8_method_63_code 39 = .ok (.invokevirtual 238, 3) := by decide +kernel
theorem d_157_42 : decode prog_8_method_63_code 42 = .ok (.ifCond .ne 5, 3) := by decide +kernel
theorem d_157_45 : decode prog_8_method_63_code 45 = .ok (.iconst 0, 1) := by decide +kernel
theorem d_157_46 : decode prog_8_method_63_code 46 = .ok (.ireturn, 1) := by decide +kernel
theorem d_157_47 : decode prog_8_method_63_code 47 = .ok (.aload_n 0, 1) := by decide +kernel
theorem d_157_48 : decode prog_8_method_63_code 48 = .ok (.iconst 5, 1) := by decide +kernel
theorem d_157_49 : decode prog_8_method_63_code 49 = .ok (.invokevirtual 228, 3) := by decide +kernel
theorem d_157_52 : decode prog_8_method_63_code 52 = .ok (.istore_n 2, 1) := by decide +kernel
theorem d_157_53 : decode prog_8_method_63_code 53 = .ok (.iconst 0, 1) := by decide +kernel
theorem d_157_54 : decode prog_8_method_63_code 54 = .ok (.istore_n 3, 1) := by decide +kernel
theorem d_157_55 : decode prog_8_method_63_code 55 = .ok (.iload_n 3, 1) := by decide +kernel
theorem d_157_56 : decode prog_8_method_63_code 56 = .ok (.iload_n 2, 1) := by decide +kernel
theorem d_157_57 : decode prog_8_method_63_code 57 = .ok (.if_icmp .ge 29, 3) := by decide +kernel
theorem d_157_60 : decode prog_8_method_63_code 60 = .ok (.aload_n 0, 1) := by decide +kernel
theorem d_157_61 : decode prog_8_method_63_code 61 = .ok (.iload_n 1, 1) := by decide +kernel
theorem d_157_62 : decode prog_8_method_63_code 62 = .ok (.iload_n 3, 1) := by decide +kernel
theorem d_157_63 : decode prog_8_method_63_code 63 = .ok (.invokevirtual 244, 3) := by decide +kernel
theorem d_157_66 : decode prog_8_method_63_code 66 = .ok (.ifCond .ne 5, 3) := by decide +kernel
theorem d_157_69 : decode prog_8_method_63_code 69 = .ok (.iconst 0, 1) := by decide +kernel
theorem d_157_70 : decode prog_8_method_63_code 70 = .ok (.ireturn, 1) := by decide +kernel
theorem d_157_71 : decode prog_8_method_63_code 71 = .ok (.aload_n 0, 1) := by decide +kernel
theorem d_157_72 : decode prog_8_method_63_code 72 = .ok (.getfield 19, 3) := by decide +kernel
theorem d_157_75 : decode prog_8_method_63_code 75 = .ok (.iload_n 1, 1) := by decide +kernel
theorem d_157_76 : decode prog_8_method_63_code 76 = .ok (.iload_n 3, 1) := by decide +kernel
theorem d_157_77 : decode prog_8_method_63_code 77 = .ok (.iconst 1, 1) := by decide +kernel
theorem d_157_78 : decode prog_8_method_63_code 78 = .ok (.iadd, 1) := by decide +kernel
theorem d_157_79 : decode prog_8_method_63_code 79 = .ok (.iastore, 1) := by decide +kernel
theorem d_157_80 : decode prog_8_method_63_code 80 = .ok (.iinc 3 1, 3) := by decide +kernel
theorem d_157_83 : decode prog_8_method_63_code 83 = .ok (.goto (-28), 3) := by decide +kernel
theorem d_157_86 : decode prog_8_method_63_code 86 = .ok (.iload_n 2, 1) := by decide +kernel
theorem d_157_87 : decode prog_8_method_63_code 87 = .ok (.ifCond .lt 40, 3) := by decide +kernel
theorem d_157_90 : decode prog_8_method_63_code 90 = .ok (.aload_n 0, 1) := by decide +kernel
theorem d_157_91 : decode prog_8_method_63_code 91 = .ok (.getfield 219, 3) := by decide +kernel
theorem d_157_94 : decode prog_8_method_63_code 94 = .ok (.ifCond .ne 33, 3) := by decide +kernel
theorem d_157_97 : decode prog_8_method_63_code 97 = .ok (.aload_n 0, 1) := by decide +kernel
theorem d_157_98 : decode prog_8_method_63_code 98 = .ok (.getfield 49, 3) := by decide +kernel
theorem d_157_101 : decode prog_8_method_63_code 101 = .ok (.iload_n 1, 1) := by decide +kernel
theorem d_157_102 : decode prog_8_method_63_code 102 = .ok (.iaload, 1) := by decide +kernel
theorem d_157_103 : decode prog_8_method_63_code 103 = .ok (.ifCond .lt 24, 3) := by decide +kernel
theorem d_157_106 : decode prog_8_method_63_code 106 = .ok (.aload_n 0, 1) := by decide +kernel
theorem d_157_107 : decode prog_8_method_63_code 107 = .ok (.getfield 49, 3) := by decide +kernel
theorem d_157_110 : decode prog_8_method_63_code 110 = .ok (.iload_n 1, 1) := by decide +kernel
theorem d_157_111 : decode prog_8_method_63_code 111 = .ok (.iaload, 1) := by decide +kernel
theorem d_157_112 : decode prog_8_method_63_code 112 = .ok (.ifCond .eq 11, 3) := by decide +kernel
theorem d_157_115 : decode prog_8_method_63_code 115 = .ok (.aload_n 0, 1) := by decide +kernel
theorem d_157_116 : decode prog_8_method_63_code 116 = .ok (.iload_n 1, 1) := by decide +kernel
theorem d_157_117 : decode prog_8_method_63_code 117 = .ok (.invokevirtual 96, 3) := by decide +kernel
theorem d_157_120 : decode prog_8_method_63_code 120 = .ok (.ifCond .le 7, 3) := by decide +kernel
theorem d_157_123 : decode prog_8_method_63_code 123 = .ok (.iconst 1, 1) := by decide +kernel
theorem d_157_124 : decode prog_8_method_63_code 124 = .ok (.goto 4, 3) := by decide +kernel
theorem d_157_127 : decode prog_8_method_63_code 127 = .ok (.iconst 0, 1) := by decide +kernel
theorem d_157_128 : decode prog_8_method_63_code 128 = .ok (.ireturn, 1) := by decide +kernel
theorem d_158_0 : decode prog_8_method_56_code 0 = .ok (.iconst 0, 1) := by decide +kernel
theorem d_158_1 : decode prog_8_method_56_code 1 = .ok (.istore_n 2, 1) := by decide +kernel
theorem d_158_2 : decode prog_8_method_56_code 2 = .ok (.aload_n 0, 1) := by decide +kernel
theorem d_158_3 : decode prog_8_method_56_code 3 = .ok (.aload_n 0, 1) := by decide +kernel
theorem d_158_4 : decode prog_8_method_56_code 4 = .ok (.getfield 219, 3) := by decide +kernel
theorem d_158_7 : decode prog_8_method_56_code 7 = .ok (.ifCond .ne 16, 3) := by decide +kernel
theorem d_158_10 : decode prog_8_method_56_code 10 = .ok (.aload_n 0, 1) := by decide +kernel
theorem d_158_11 : decode prog_8_method_56_code 11 = .ok (.getfield 222, 3) := by decide +kernel
theorem d_158_14 : decode prog_8_method_56_code 14 = .ok (.iload_n 1, 1) := by decide +kernel
theorem d_158_15 : decode prog_8_method_56_code 15 = .ok (.iadd, 1) := by decide +kernel
theorem d_158_16 : decode prog_8_method_56_code 16 = .ok (.aload_n 0, 1) := by decide +kernel
theorem d_158_17 : decode prog_8_method_56_code 17 = .ok (.getfield 214, 3) := by decide +kernel
theorem d_158_20 : decode prog_8_method_56_code 20 = .ok (.if_icmp .le 7, 3) := by decide +kernel
theorem d_158_23 : decode prog_8_method_56_code 23 = .ok (.iconst 1, 1) := by decide +kernel
theorem d_158_24 : decode prog_8_method_56_code 24 = .ok (.goto 4, 3) := by decide +kernel
theorem d_158_27 : decode prog_8_method_56_code 27 = .ok (.iconst 0, 1) := by decide +kernel
theorem d_158_28 : decode prog_8_method_56_code 28 = .ok (.putfield 219, 3) := by decide +kernel
theorem d_158_31 : decode prog_8_method_56_code 31 = .ok (.iconst 0, 1) := by decide +kernel
theorem d_158_32 : decode prog_8_method_56_code 32 = .ok (.istore_n 3, 1) := by decide +kernel
theorem d_158_33 : decode prog_8_method_56_code 33 = .ok (.iload_n 3, 1) := by decide +kernel
theorem d_158_34 : decode prog_8_method_56_code 34 = .ok (.iload_n 1, 1) := by decide +kernel
theorem d_158_35 : decode prog_8_method_56_code 35 = .ok (.if_icmp .ge 37, 3) := by decide +kernel
theorem d_158_38 : decode prog_8_method_56_code 38 = .ok (.iload_n 2, 1) := by decide +kernel
theorem d_158_39 : decode prog_8_method_56_code 39 = .ok (.bipush 8, 2) := by decide +kernel
theorem d_158_41 : decode prog_8_method_56_code 41 = .ok (.ishl, 1) := by decide +kernel
theorem d_158_42 : decode prog_8_method_56_code 42 = .ok (.aload_n 0, 1) := by decide +kernel
theorem d_158_43 : decode prog_8_method_56_code 43 = .ok (.getfield 219, 3) := by decide +kernel
theorem d_158_46 : decode prog_8_method_56_code 46 = .ok (.ifCond .eq 7, 3) := by decide +kernel
theorem d_158_49 : decode prog_8_method_56_code 49 = .ok (.iconst 0, 1) := by decide +kernel
theorem d_158_50 : decode prog_8_method_56_code 50 = .ok (.goto 14, 3) := by decide +kernel
theorem d_158_53 : decode prog_8_method_56_code 53 = .ok (.aload_n 0, 1) := by decide +kernel
theorem d_158_54 : decode prog_8_method_56_code 54 = .ok (.getfield 67, 3) := by decide +kernel
theorem d_158_57 : decode prog_8_method_56_code 57 = .ok (.aload_n 0, 1) := by decide +kernel
theorem d_158_58 : decode prog_8_method_56_code 58 = .ok (.getfield 222, 3) := by decide +kernel
theorem d_158_61 : decode prog_8_method_56_code 61 = .ok (.iload_n 3, 1) := by decide +kernel
theorem d_158_62 : decode prog_8_method_56_code 62 = .ok (.iadd, 1) := by decide +kernel
theorem d_158_63 : decode prog_8_method_56_code 63 = .ok (.iaload, 1) := by decide +kernel
theorem d_158_64 : decode prog_8_method_56_code 64 = .ok (.ior, 1) := by decide +kernel
theorem d_158_65 : decode prog_8_method_56_code 65 = .ok (.istore_n 2, 1) := by decide +kernel
theorem d_158_66 : decode prog_8_method_56_code 66 = .ok (.iinc 3 1, 3) := by decide +kernel
theorem d_158_69 : decode prog_8_method_56_code 69 = .ok (.goto (-36), 3) := by decide +kernel
theorem d_158_72 : decode prog_8_method_56_code 72 = .ok (.aload_n 0, 1) := by decide +kernel
theorem d_158_73 : decode prog_8_method_56_code 73 = .ok (.aload_n 0, 1) := by decide +kernel
theorem d_158_74 : decode prog_8_method_56_code 74 = .ok (.getfield 222, 3) := by decide +kernel
theorem d_158_77 : decode prog_8_method_56_code 77 = .ok (.iload_n 1, 1) := by decide +kernel
theorem d_158_78 : decode prog_8_method_56_code 78 = .ok (.iadd, 1) := by decide +kernel
theorem d_158_79 : decode prog_8_method_56_code 79 = .ok (.putfield 222, 3) := by decide +kernel
theorem d_158_82 : decode prog_8_method_56_code 82 = .ok (.iload_n 2, 1) := by decide +kernel
theorem d_158_83 : decode prog_8_method_56_code 83 = .ok (.ireturn, 1) := by decide +kernel
theorem d_159_0 : decode prog_8_method_61_code 0 = .ok (.aload_n 0, 1) := by decide +kernel
theorem d_159_1 : decode prog_8_method_61_code 1 = .ok (.iconst 4, 1) := by decide +kernel
theorem d_159_2 : decode prog_8_method_61_code 2 = .ok (.invokevirtual 228, 3) := by decide +kernel
theorem d_159_5 : decode prog_8_method_61_code 5 = .ok (.istore_n 2, 1) := by decide +kernel
theorem d_159_6 : decode prog_8_method_61_code 6 = .ok (.aload_n 0, 1) := by decide +kernel
theorem d_159_7 : decode prog_8_method_61_code 7 = .ok (.getfield 7, 3) := by decide +kernel
theorem d_159_10 : decode prog_8_method_61_code 10 = .ok (.iload_n 1, 1) := by decide +kernel
theorem d_159_11 : decode prog_8_method_61_code 11 = .ok (.iconst 0, 1) := by decide +kernel
theorem d_159_12 : decode prog_8_method_61_code 12 = .ok (.iastore, 1) := by decide +kernel
theorem d_159_13 : decode prog_8_method_61_code 13 = .ok (.iconst 0, 1) := by decide +kernel
theorem d_159_14 : decode prog_8_method_61_code 14 = .ok (.istore_n 3, 1) := by decide +kernel
theorem d_159_15 : decode prog_8_method_61_code 15 = .ok (.iload_n 3, 1) := by decide +kernel
theorem d_159_16 : decode prog_8_method_61_code 16 = .ok (.iload_n 2, 1) := by decide +kernel
theorem d_159_17 : decode prog_8_method_61_code 17 = .ok (.if_icmp .ge 88, 3) := by decide +kernel
theorem d_159_20 : decode prog_8_method_61_code 20 = .ok (.aload_n 0, 1) := by decide +kernel
theorem d_159_21 : decode prog_8_method_61_code 21 = .ok (.invokevirtual 231, 3) := by decide +kernel
theorem d_159_24 : decode prog_8_method_61_code 24 = .ok (.istore 4, 2) := by decide +kernel
theorem d_159_26 : decode prog_8_method_61_code 26 = .ok (.aload_n 0, 1) := by decide +kernel
theorem d_159_27 : decode prog_8_method_61_code 27 = .ok (.iconst 4, 1) := by decide +kernel
theorem d_159_28 : decode prog_8_method_61_code 28 = .ok (.invokevirtual 225, 3) := by decide +kernel
theorem d_159_31 : decode prog_8_method_61_code 31 = .ok (.istore 5, 2) := by decide +kernel
theorem d_159_33 : decode prog_8_method_61_code 33 = .ok (.iload 4, 2) := by decide +kernel
theorem d_159_35 : decode prog_8_method_61_code 35 = .ok (.invokestatic 144, 3) := by decide +kernel
theorem d_159_38 : decode prog_8_method_61_code 38 = .ok (.ifCond .eq 26, 3) := by decide +kernel
theorem d_159_41 : decode prog_8_method_61_code 41 = .ok (.iload 5, 2) := by decide +kernel
theorem d_159_43 : decode prog_8_method_61_code 43 = .ok (.ifCond .lt 21, 3) := by decide +kernel
theorem d_159_46 : decode prog_8_method_61_code 46 = .ok (.iload 5, 2) := by decide +kernel
theorem d_159_48 : decode prog_8_method_61_code 48 = .ok (.bipush 8, 2) := by decide +kernel
theorem d_159_50 : decode prog_8_method_61_code 50 = .ok (.if_icmp .gt 14, 3) := by decide +kernel
theorem d_159_53 : decode prog_8_method_61_code 53 = .ok (.aload_n 0, 1) := by decide +kernel
theorem d_159_54 : decode prog_8_method_61_code 54 = .ok (.iload_n 1, 1) := by decide +kernel
theorem d_159_55 : decode prog_8_method_61_code 55 = .ok (.iload 4, 2) := by decide +kernel
theorem d_159_57 : decode prog_8_method_61_code 57 = .ok (.iconst (-1), 1) := by decide +kernel
theorem d_159_58 : decode prog_8_method_61_code 58 = .ok (.invokevirtual 148, 3) := by decide +kernel
theorem d_159_61 : decode prog_8_method_61_code 61 = .ok (.ifCond .eq 5, 3) := by decide +kernel
theorem d_159_64 : decode prog_8_method_61_code 64 = .ok (.iconst 0, 1) := by decide +kernel
theorem d_159_65 : decode prog_8_method_61_code 65 = .ok (.ireturn, 1) := by decide +kernel
theorem d_159_66 : decode prog_8_method_61_code 66 = .ok (.aload_n 0, 1) := by decide +kernel
theorem d_159_67 : decode prog_8_method_61_code 67 = .ok (.getfield 13, 3) := by decide +kernel
theorem d_159_70 : decode prog_8_method_61_code 70 = .ok (.iconst 4, 1) := by decide +kernel
theorem d_159_71 : decode prog_8_method_61_code 71 = .ok (.iload_n 1, 1) := by decide +kernel
theorem d_159_72 : decode prog_8_method_61_code 72 = .ok (.imul, 1) := by decide +kernel
theorem d_159_73 : decode prog_8_method_61_code 73 = .ok (.iload_n 3, 1) := by decide +kernel
theorem d_159_74 : decode prog_8_method_61_code 74 = .ok (.iadd, 1) := by decide +kernel
theorem d_159_75 : decode prog_8_method_61_code 75 = .ok (.iload 4, 2) := by decide +kernel
theorem d_159_77 : decode prog_8_method_61_code 77 = .ok (.iastore, 1) := by decide +kernel
theorem d_159_78 : decode prog_8_method_61_code 78 = .ok (.aload_n 0, 1) := by decide +kernel
theorem d_159_79 : decode prog_8_method_61_code 79 = .ok (.getfield 16, 3) := by decide +kernel
theorem d_159_82 : decode prog_8_method_61_code 82 = .ok (.iconst 4, 1) := by decide +kernel
theorem d_159_83 : decode prog_8_method_61_code 83 = .ok (.iload_n 1, 1) := by decide +kernel
theorem d_159_84 : decode prog_8_method_61_code 84 = .ok (.imul, 1) := by decide +kernel
theorem d_159_85 : decode prog_8_method_61_code 85 = .ok (.iload_n 3, 1) := by decide +kernel
theorem d_159_86 : decode prog_8_method_61_code 86 = .ok (.iadd, 1) := by decide +kernel
theorem d_159_87 : decode prog_8_method_61_code 87 = .ok (.iload 5, 2) := by decide +kernel
theorem d_159_89 : decode prog_8_method_61_code 89 = .ok (.iastore, 1) := by decide +kernel
theorem d_159_90 : decode prog_8_method_61_code 90 = .ok (.aload_n 0, 1) := by decide +kernel
theorem d_159_91 : decode prog_8_method_61_code 91 = .ok (.getfield 7, 3) := by decide +kernel
theorem d_159_94 : decode prog_8_method_61_code 94 = .ok (.iload_n 1, 1) := by decide +kernel
theorem d_159_95 : decode prog_8_method_61_code 95 = .ok (.iload_n 3, 1) := by decide +kernel
theorem d_159_96 : decode prog_8_method_61_code 96 = .ok (.iconst 1, 1) := by decide +kernel
theorem d_159_97 : decode prog_8_method_61_code 97 = .ok (.iadd, 1) := by decide +kernel
theorem d_159_98 : decode prog_8_method_61_code 98 = .ok (.iastore, 1) := by decide +kernel
theorem d_159_99 : decode prog_8_method_61_code 99 = .ok (.iinc 3 1, 3) := by decide +kernel
theorem d_159_102 : decode prog_8_method_61_code 102 = .ok (.goto (-87), 3) := by decide +kernel
theorem d_159_105 : decode prog_8_method_61_code 105 = .ok (.iload_n 2, 1) := by decide +kernel
theorem d_159_106 : decode prog_8_method_61_code 106 = .ok (.ifCond .lt 16, 3) := by decide +kernel
theorem d_159_109 : decode prog_8_method_61_code 109 = .ok (.aload_n 0, 1) := by decide +kernel
theorem d_159_110 : decode prog_8_method_61_code 110 = .ok (.iload_n 1, 1) := by decide +kernel
theorem d_159_111 : decode prog_8_method_61_code 111 = .ok (.invokevirtual 152, 3) := by decide +kernel
theorem d_159_114 : decode prog_8_method_61_code 114 = .ok (.iconst 1, 1) := by decide +kernel
theorem d_159_115 : decode prog_8_method_61_code 115 = .ok (.if_icmp .gt 7, 3) := by decide +kernel
theorem d_159_118 : decode prog_8_method_61_code 118 = .ok (.iconst 1, 1) := by decide +kernel
theorem d_159_119 : decode prog_8_method_61_code 119 = .ok (.goto 4, 3) := by decide +kernel
theorem d_159_122 : decode prog_8_method_61_code 122 = .ok (.iconst 0, 1) := by decide +kernel
theorem d_159_123 : decode prog_8_method_61_code 123 = .ok (.ireturn, 1) := by decide +kernel
theorem d_160_0 : decode prog_8_method_59_code 0 = .ok (.aload_n 0, 1) := by decide +kernel
theorem d_160_1 : decode prog_8_method_59_code 1 = .ok (.iconst 4, 1) := by decide +kernel
theorem d_160_2 : decode prog_8_method_59_code 2 = .ok (.invokevirtual 225, 3) := by decide +kernel
theorem d_160_5 : decode prog_8_method_59_code 5 = .ok (.pop, 1) := by decide +kernel
theorem d_160_6 : decode prog_8_method_59_code 6 = .ok (.aload_n 0, 1) := by decide +kernel
theorem d_160_7 : decode prog_8_method_59_code 7 = .ok (.iconst 4, 1) := by decide +kernel
theorem d_160_8 : decode prog_8_method_59_code 8 = .ok (.invokevirtual 225, 3) := by decide +kernel
theorem d_160_11 : decode prog_8_method_59_code 11 = .ok (.istore_n 2, 1) := by decide +kernel
theorem d_160_12 : decode prog_8_method_59_code 12 = .ok (.aload_n 0, 1) := by decide +kernel
theorem d_160_13 : decode prog_8_method_59_code 13 = .ok (.getfield 219, 3) := by decide +kernel
theorem d_160_16 : decode prog_8_method_59_code 16 = .ok (.ifCond .ne 12, 3) := by decide +kernel
theorem d_160_19 : decode prog_8_method_59_code 19 = .ok (.iload_n 2, 1) := by decide +kernel
theorem d_160_20 : decode prog_8_method_59_code 20 = .ok (.ifCond .lt 8, 3) := by decide +kernel
