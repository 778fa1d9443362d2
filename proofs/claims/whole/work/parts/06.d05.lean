theorem d_160_23 : decode prog_8_method_59_code 23 = .ok (.iload_n 2, 1) := by decide +kernel
theorem d_160_24 : decode prog_8_method_59_code 24 = .ok (.iload_n 1, 1) := by decide +kernel
theorem d_160_25 : decode prog_8_method_59_code 25 = .ok (.if_icmp .le 7, 3) := by decide +kernel
theorem d_160_28 : decode prog_8_method_59_code 28 = .ok (.iconst (-1), 1) := by decide +kernel
theorem d_160_29 : decode prog_8_method_59_code 29 = .ok (.goto 4, 3) := by decide +kernel
theorem d_160_32 : decode prog_8_method_59_code 32 = .ok (.iload_n 2, 1) := by decide +kernel
theorem d_160_33 : decode prog_8_method_59_code 33 = .ok (.ireturn, 1) := by decide +kernel
theorem d_161_0 : decode prog_8_method_58_code 0 = .ok (.aload_n 0, 1) := by decide +kernel
theorem d_161_1 : decode prog_8_method_58_code 1 = .ok (.iconst 4, 1) := by decide +kernel
theorem d_161_2 : decode prog_8_method_58_code 2 = .ok (.invokevirtual 225, 3) := by decide +kernel
theorem d_161_5 : decode prog_8_method_58_code 5 = .ok (.pop, 1) := by decide +kernel
theorem d_161_6 : decode prog_8_method_58_code 6 = .ok (.aload_n 0, 1) := by decide +kernel
theorem d_161_7 : decode prog_8_method_58_code 7 = .ok (.iconst 4, 1) := by decide +kernel
theorem d_161_8 : decode prog_8_method_58_code 8 = .ok (.invokevirtual 225, 3) := by decide +kernel
theorem d_161_11 : decode prog_8_method_58_code 11 = .ok (.bipush 24, 2) := by decide +kernel
theorem d_161_13 : decode prog_8_method_58_code 13 = .ok (.ishr, 1) := by decide +kernel
theorem d_161_14 : decode prog_8_method_58_code 14 = .ok (.sipush 255, 3) := by decide +kernel
theorem d_161_17 : decode prog_8_method_58_code 17 = .ok (.iand, 1) := by decide +kernel
theorem d_161_18 : decode prog_8_method_58_code 18 = .ok (.ireturn, 1) := by decide +kernel
theorem d_162_0 : decode prog_8_method_60_code 0 = .ok (.aload_n 0, 1) := by decide +kernel
theorem d_162_1 : decode prog_8_method_60_code 1 = .ok (.iconst 3, 1) := by decide +kernel
theorem d_162_2 : decode prog_8_method_60_code 2 = .ok (.invokevirtual 228, 3) := by decide +kernel
theorem d_162_5 : decode prog_8_method_60_code 5 = .ok (.istore_n 3, 1) := by decide +kernel
theorem d_162_6 : decode prog_8_method_60_code 6 = .ok (.aload_n 0, 1) := by decide +kernel
theorem d_162_7 : decode prog_8_method_60_code 7 = .ok (.getfield 34, 3) := by decide +kernel
theorem d_162_10 : decode prog_8_method_60_code 10 = .ok (.bipush 6, 2) := by decide +kernel
theorem d_162_12 : decode prog_8_method_60_code 12 = .ok (.iload_n 1, 1) := by decide +kernel
theorem d_162_13 : decode prog_8_method_60_code 13 = .ok (.imul, 1) := by decide +kernel
theorem d_162_14 : decode prog_8_method_60_code 14 = .ok (.iload_n 2, 1) := by decide +kernel
theorem d_162_15 : decode prog_8_method_60_code 15 = .ok (.iadd, 1) := by decide +kernel
theorem d_162_16 : decode prog_8_method_60_code 16 = .ok (.iload_n 3, 1) := by decide +kernel
theorem d_162_17 : decode prog_8_method_60_code 17 = .ok (.ifCond .ge 7, 3) := by decide +kernel
theorem d_162_20 : decode prog_8_method_60_code 20 = .ok (.iconst 0, 1) := by decide +kernel
theorem d_162_21 : decode prog_8_method_60_code 21 = .ok (.goto 4, 3) := by decide +kernel
theorem d_162_24 : decode prog_8_method_60_code 24 = .ok (.iload_n 3, 1) := by decide +kernel
theorem d_162_25 : decode prog_8_method_60_code 25 = .ok (.iastore, 1) := by decide +kernel
theorem d_162_26 : decode prog_8_method_60_code 26 = .ok (.iconst 0, 1) := by decide +kernel
theorem d_162_27 : decode prog_8_method_60_code 27 = .ok (.istore 4, 2) := by decide +kernel
theorem d_162_29 : decode prog_8_method_60_code 29 = .ok (.iload 4, 2) := by decide +kernel
theorem d_162_31 : decode prog_8_method_60_code 31 = .ok (.iload_n 3, 1) := by decide +kernel
theorem d_162_32 : decode prog_8_method_60_code 32 = .ok (.if_icmp .ge 178, 3) := by decide +kernel
theorem d_162_35 : decode prog_8_method_60_code 35 = .ok (.bipush 18, 2) := by decide +kernel
theorem d_162_37 : decode prog_8_method_60_code 37 = .ok (.iload_n 1, 1) := by decide +kernel
theorem d_162_38 : decode prog_8_method_60_code 38 = .ok (.imul, 1) := by decide +kernel
theorem d_162_39 : decode prog_8_method_60_code 39 = .ok (.iconst 3, 1) := by decide +kernel
theorem d_162_40 : decode prog_8_method_60_code 40 = .ok (.iload_n 2, 1) := by decide +kernel
theorem d_162_41 : decode prog_8_method_60_code 41 = .ok (.imul, 1) := by decide +kernel
theorem d_162_42 : decode prog_8_method_60_code 42 = .ok (.iadd, 1) := by decide +kernel
theorem d_162_43 : decode prog_8_method_60_code 43 = .ok (.iload 4, 2) := by decide +kernel
theorem d_162_45 : decode prog_8_method_60_code 45 = .ok (.iadd, 1) := by decide +kernel
theorem d_162_46 : decode prog_8_method_60_code 46 = .ok (.istore 5, 2) := by decide +kernel
theorem d_162_48 : decode prog_8_method_60_code 48 = .ok (.aload_n 0, 1) := by decide +kernel
theorem d_162_49 : decode prog_8_method_60_code 49 = .ok (.getfield 37, 3) := by decide +kernel
theorem d_162_52 : decode prog_8_method_60_code 52 = .ok (.iload 5, 2) := by decide +kernel
theorem d_162_54 : decode prog_8_method_60_code 54 = .ok (.aload_n 0, 1) := by decide +kernel
theorem d_162_55 : decode prog_8_method_60_code 55 = .ok (.invokevirtual 231, 3) := by decide +kernel
theorem d_162_58 : decode prog_8_method_60_code 58 = .ok (.iastore, 1) := by decide +kernel
theorem d_162_59 : decode prog_8_method_60_code 59 = .ok (.aload_n 0, 1) := by decide +kernel
theorem d_162_60 : decode prog_8_method_60_code 60 = .ok (.getfield 40, 3) := by decide +kernel
theorem d_162_63 : decode prog_8_method_60_code 63 = .ok (.iload 5, 2) := by decide +kernel
theorem d_162_65 : decode prog_8_method_60_code 65 = .ok (.aload_n 0, 1) := by decide +kernel
theorem d_162_66 : decode prog_8_method_60_code 66 = .ok (.iconst 4, 1) := by decide +kernel
theorem d_162_67 : decode prog_8_method_60_code 67 = .ok (.invokevirtual 225, 3) := by decide +kernel
theorem d_162_70 : decode prog_8_method_60_code 70 = .ok (.iastore, 1) := by decide +kernel
theorem d_162_71 : decode prog_8_method_60_code 71 = .ok (.aload_n 0, 1) := by decide +kernel
theorem d_162_72 : decode prog_8_method_60_code 72 = .ok (.iconst 4, 1) := by decide +kernel
theorem d_162_73 : decode prog_8_method_60_code 73 = .ok (.invokevirtual 225, 3) := by decide +kernel
theorem d_162_76 : decode prog_8_method_60_code 76 = .ok (.pop, 1) := by decide +kernel
theorem d_162_77 : decode prog_8_method_60_code 77 = .ok (.aload_n 0, 1) := by decide +kernel
theorem d_162_78 : decode prog_8_method_60_code 78 = .ok (.getfield 37, 3) := by decide +kernel
theorem d_162_81 : decode prog_8_method_60_code 81 = .ok (.iload 5, 2) := by decide +kernel
theorem d_162_83 : decode prog_8_method_60_code 83 = .ok (.iaload, 1) := by decide +kernel
theorem d_162_84 : decode prog_8_method_60_code 84 = .ok (.invokestatic 144, 3) := by decide +kernel
theorem d_162_87 : decode prog_8_method_60_code 87 = .ok (.ifCond .eq 25, 3) := by decide +kernel
theorem d_162_90 : decode prog_8_method_60_code 90 = .ok (.aload_n 0, 1) := by decide +kernel
theorem d_162_91 : decode prog_8_method_60_code 91 = .ok (.getfield 40, 3) := by decide +kernel
theorem d_162_94 : decode prog_8_method_60_code 94 = .ok (.iload 5, 2) := by decide +kernel
theorem d_162_96 : decode prog_8_method_60_code 96 = .ok (.iaload, 1) := by decide +kernel
theorem d_162_97 : decode prog_8_method_60_code 97 = .ok (.iconst 1, 1) := by decide +kernel
theorem d_162_98 : decode prog_8_method_60_code 98 = .ok (.if_icmp .lt 14, 3) := by decide +kernel
theorem d_162_101 : decode prog_8_method_60_code 101 = .ok (.aload_n 0, 1) := by decide +kernel
theorem d_162_102 : decode prog_8_method_60_code 102 = .ok (.getfield 40, 3) := by decide +kernel
theorem d_162_105 : decode prog_8_method_60_code 105 = .ok (.iload 5, 2) := by decide +kernel
theorem d_162_107 : decode prog_8_method_60_code 107 = .ok (.iaload, 1) := by decide +kernel
theorem d_162_108 : decode prog_8_method_60_code 108 = .ok (.iconst 4, 1) := by decide +kernel
theorem d_162_109 : decode prog_8_method_60_code 109 = .ok (.if_icmp .le 5, 3) := by decide +kernel
theorem d_162_112 : decode prog_8_method_60_code 112 = .ok (.iconst 0, 1) := by decide +kernel
theorem d_162_113 : decode prog_8_method_60_code 113 = .ok (.ireturn, 1) := by decide +kernel
theorem d_162_114 : decode prog_8_method_60_code 114 = .ok (.iconst 0, 1) := by decide +kernel
theorem d_162_115 : decode prog_8_method_60_code 115 = .ok (.istore 6, 2) := by decide +kernel
theorem d_162_117 : decode prog_8_method_60_code 117 = .ok (.iload 6, 2) := by decide +kernel
theorem d_162_119 : decode prog_8_method_60_code 119 = .ok (.iload 4, 2) := by decide +kernel
theorem d_162_121 : decode prog_8_method_60_code 121 = .ok (.if_icmp .ge 33, 3) := by decide +kernel
theorem d_162_124 : decode prog_8_method_60_code 124 = .ok (.aload_n 0, 1) := by decide +kernel
theorem d_162_125 : decode prog_8_method_60_code 125 = .ok (.getfield 37, 3) := by decide +kernel
theorem d_162_128 : decode prog_8_method_60_code 128 = .ok (.iload 5, 2) := by decide +kernel
theorem d_162_130 : decode prog_8_method_60_code 130 = .ok (.iconst 1, 1) := by decide +kernel
theorem d_162_131 : decode prog_8_method_60_code 131 = .ok (.isub, 1) := by decide +kernel
theorem d_162_132 : decode prog_8_method_60_code 132 = .ok (.iload 6, 2) := by decide +kernel
theorem d_162_134 : decode prog_8_method_60_code 134 = .ok (.isub, 1) := by decide +kernel
theorem d_162_135 : decode prog_8_method_60_code 135 = .ok (.iaload, 1) := by decide +kernel
theorem d_162_136 : decode prog_8_method_60_code 136 = .ok (.aload_n 0, 1) := by decide +kernel
theorem d_162_137 : decode prog_8_method_60_code 137 = .ok (.getfield 37, 3) := by decide +kernel
theorem d_162_140 : decode prog_8_method_60_code 140 = .ok (.iload 5, 2) := by decide +kernel
theorem d_162_142 : decode prog_8_method_60_code 142 = .ok (.iaload, 1) := by decide +kernel
theorem d_162_143 : decode prog_8_method_60_code 143 = .ok (.if_icmp .ne 5, 3) := by decide +kernel
theorem d_162_146 : decode prog_8_method_60_code 146 = .ok (.iconst 0, 1) := by decide +kernel
theorem d_162_147 : decode prog_8_method_60_code 147 = .ok (.ireturn, 1) := by decide +kernel
theorem d_162_148 : decode prog_8_method_60_code 148 = .ok (.iinc 6 1, 3) := by decide +kernel
theorem d_162_151 : decode prog_8_method_60_code 151 = .ok (.goto (-34), 3) := by decide +kernel
theorem d_162_154 : decode prog_8_method_60_code 154 = .ok (.aload_n 0, 1) := by decide +kernel
theorem d_162_155 : decode prog_8_method_60_code 155 = .ok (.getfield 43, 3) := by decide +kernel
theorem d_162_158 : decode prog_8_method_60_code 158 = .ok (.iload 5, 2) := by decide +kernel
theorem d_162_160 : decode prog_8_method_60_code 160 = .ok (.aload_n 0, 1) := by decide +kernel
theorem d_162_161 : decode prog_8_method_60_code 161 = .ok (.aload_n 0, 1) := by decide +kernel
theorem d_162_162 : decode prog_8_method_60_code 162 = .ok (.getfield 40, 3) := by decide +kernel
theorem d_162_165 : decode prog_8_method_60_code 165 = .ok (.iload 5, 2) := by decide +kernel
theorem d_162_167 : decode prog_8_method_60_code 167 = .ok (.iaload, 1) := by decide +kernel
theorem d_162_168 : decode prog_8_method_60_code 168 = .ok (.invokevirtual 235, 3) := by decide +kernel
theorem d_162_171 : decode prog_8_method_60_code 171 = .ok (.iastore, 1) := by decide +kernel
theorem d_162_172 : decode prog_8_method_60_code 172 = .ok (.aload_n 0, 1) := by decide +kernel
theorem d_162_173 : decode prog_8_method_60_code 173 = .ok (.getfield 46, 3) := by decide +kernel
theorem d_162_176 : decode prog_8_method_60_code 176 = .ok (.iload 5, 2) := by decide +kernel
theorem d_162_178 : decode prog_8_method_60_code 178 = .ok (.aload_n 0, 1) := by decide +kernel
theorem d_162_179 : decode prog_8_method_60_code 179 = .ok (.aload_n 0, 1) := by decide +kernel
theorem d_162_180 : decode prog_8_method_60_code 180 = .ok (.getfield 40, 3) := by decide +kernel
theorem d_162_183 : decode prog_8_method_60_code 183 = .ok (.iload 5, 2) := by decide +kernel
theorem d_162_185 : decode prog_8_method_60_code 185 = .ok (.iaload, 1) := by decide +kernel
theorem d_162_186 : decode prog_8_method_60_code 186 = .ok (.invokevirtual 235, 3) := by decide +kernel
theorem d_162_189 : decode prog_8_method_60_code 189 = .ok (.iastore, 1) := by decide +kernel
theorem d_162_190 : decode prog_8_method_60_code 190 = .ok (.aload_n 0, 1) := by decide +kernel
theorem d_162_191 : decode prog_8_method_60_code 191 = .ok (.aload_n 0, 1) := by decide +kernel
theorem d_162_192 : decode prog_8_method_60_code 192 = .ok (.getfield 222, 3) := by decide +kernel
theorem d_162_195 : decode prog_8_method_60_code 195 = .ok (.iconst 3, 1) := by decide +kernel
theorem d_162_196 : decode prog_8_method_60_code 196 = .ok (.iadd, 1) := by decide +kernel
theorem d_162_197 : decode prog_8_method_60_code 197 = .ok (.iconst 4, 1) := by decide +kernel
theorem d_162_198 : decode prog_8_method_60_code 198 = .ok (.idiv, 1) := by decide +kernel
theorem d_162_199 : decode prog_8_method_60_code 199 = .ok (.iconst 4, 1) := by decide +kernel
theorem d_162_200 : decode prog_8_method_60_code 200 = .ok (.imul, 1) := by decide +kernel
theorem d_162_201 : decode prog_8_method_60_code 201 = .ok (.putfield 222, 3) := by decide +kernel
theorem d_162_204 : decode prog_8_method_60_code 204 = .ok (.iinc 4 1, 3) := by decide +kernel
theorem d_162_207 : decode prog_8_method_60_code 207 = .ok (.goto (-178), 3) := by decide +kernel
theorem d_162_210 : decode prog_8_method_60_code 210 = .ok (.iload_n 3, 1) := by decide +kernel
theorem d_162_211 : decode prog_8_method_60_code 211 = .ok (.ifCond .lt 7, 3) := by decide +kernel
theorem d_162_214 : decode prog_8_method_60_code 214 = .ok (.iconst 1, 1) := by decide +kernel
theorem d_162_215 : decode prog_8_method_60_code 215 = .ok (.goto 4, 3) := by decide +kernel
theorem d_162_218 : decode prog_8_method_60_code 218 = .ok (.iconst 0, 1) := by decide +kernel
theorem d_162_219 : decode prog_8_method_60_code 219 = .ok (.ireturn, 1) := by decide +kernel
theorem d_163_0 : decode prog_8_method_57_code 0 = .ok (.aload_n 0, 1) := by decide +kernel
theorem d_163_1 : decode prog_8_method_57_code 1 = .ok (.iload_n 1, 1) := by decide +kernel
theorem d_163_2 : decode prog_8_method_57_code 2 = .ok (.invokestatic 79, 3) := by decide +kernel
theorem d_163_5 : decode prog_8_method_57_code 5 = .ok (.invokevirtual 225, 3) := by decide +kernel
theorem d_163_8 : decode prog_8_method_57_code 8 = .ok (.istore_n 2, 1) := by decide +kernel
theorem d_163_9 : decode prog_8_method_57_code 9 = .ok (.iload_n 1, 1) := by decide +kernel
theorem d_163_10 : decode prog_8_method_57_code 10 = .ok (.iconst 1, 1) := by decide +kernel
theorem d_163_11 : decode prog_8_method_57_code 11 = .ok (.if_icmp .ne 8, 3) := by decide +kernel
theorem d_163_14 : decode prog_8_method_57_code 14 = .ok (.iload_n 2, 1) := by decide +kernel
theorem d_163_15 : decode prog_8_method_57_code 15 = .ok (.i2b, 1) := by decide +kernel
theorem d_163_16 : decode prog_8_method_57_code 16 = .ok (.goto 14, 3) := by decide +kernel
theorem d_163_19 : decode prog_8_method_57_code 19 = .ok (.iload_n 1, 1) := by decide +kernel
theorem d_163_20 : decode prog_8_method_57_code 20 = .ok (.iconst 3, 1) := by decide +kernel
theorem d_163_21 : decode prog_8_method_57_code 21 = .ok (.if_icmp .ne 8, 3) := by decide +kernel
theorem d_163_24 : decode prog_8_method_57_code 24 = .ok (.iload_n 2, 1) := by decide +kernel
theorem d_163_25 : decode prog_8_method_57_code 25 = .ok (.i2s, 1) := by decide +kernel
theorem d_163_26 : decode prog_8_method_57_code 26 = .ok (.goto 4, 3) := by decide +kernel
theorem d_163_29 : decode prog_8_method_57_code 29 = .ok (.iload_n 2, 1) := by decide +kernel
theorem d_163_30 : decode prog_8_method_57_code 30 = .ok (.ireturn, 1) := by decide +kernel
theorem d_164_0 : decode prog_8_method_62_code 0 = .ok (.iconst 5, 1) := by decide +kernel
theorem d_164_1 : decode prog_8_method_62_code 1 = .ok (.iload_n 1, 1) := by decide +kernel
theorem d_164_2 : decode prog_8_method_62_code 2 = .ok (.imul, 1) := by decide +kernel
theorem d_164_3 : decode prog_8_method_62_code 3 = .ok (.iload_n 2, 1) := by decide +kernel
theorem d_164_4 : decode prog_8_method_62_code 4 = .ok (.iadd, 1) := by decide +kernel
theorem d_164_5 : decode prog_8_method_62_code 5 = .ok (.istore_n 3, 1) := by decide +kernel
theorem d_164_6 : decode prog_8_method_62_code 6 = .ok (.aload_n 0, 1) := by decide +kernel
theorem d_164_7 : decode prog_8_method_62_code 7 = .ok (.getfield 22, 3) := by decide +kernel
theorem d_164_10 : decode prog_8_method_62_code 10 = .ok (.iload_n 3, 1) := by decide +kernel
theorem d_164_11 : decode prog_8_method_62_code 11 = .ok (.aload_n 0, 1) := by decide +kernel
theorem d_164_12 : decode prog_8_method_62_code 12 = .ok (.invokevirtual 231, 3) := by decide +kernel
theorem d_164_15 : decode prog_8_method_62_code 15 = .ok (.iastore, 1) := by decide +kernel
theorem d_164_16 : decode prog_8_method_62_code 16 = .ok (.aload_n 0, 1) := by decide +kernel
theorem d_164_17 : decode prog_8_method_62_code 17 = .ok (.getfield 28, 3) := by decide +kernel
theorem d_164_20 : decode prog_8_method_62_code 20 = .ok (.iload_n 3, 1) := by decide +kernel
theorem d_164_21 : decode prog_8_method_62_code 21 = .ok (.aload_n 0, 1) := by decide +kernel
theorem d_164_22 : decode prog_8_method_62_code 22 = .ok (.iconst 4, 1) := by decide +kernel
theorem d_164_23 : decode prog_8_method_62_code 23 = .ok (.invokevirtual 225, 3) := by decide +kernel
theorem d_164_26 : decode prog_8_method_62_code 26 = .ok (.iastore, 1) := by decide +kernel
theorem d_164_27 : decode prog_8_method_62_code 27 = .ok (.aload_n 0, 1) := by decide +kernel
theorem d_164_28 : decode prog_8_method_62_code 28 = .ok (.getfield 22, 3) := by decide +kernel
theorem d_164_31 : decode prog_8_method_62_code 31 = .ok (.iload_n 3, 1) := by decide +kernel
theorem d_164_32 : decode prog_8_method_62_code 32 = .ok (.iaload, 1) := by decide +kernel
theorem d_164_33 : decode prog_8_method_62_code 33 = .ok (.invokestatic 144, 3) := by decide +kernel
theorem d_164_36 : decode prog_8_method_62_code 36 = .ok (.ifCond .eq 37, 3) := by decide +kernel
theorem d_164_39 : decode prog_8_method_62_code 39 = .ok (.aload_n 0, 1) := by decide +kernel
theorem d_164_40 : decode prog_8_method_62_code 40 = .ok (.iload_n 1, 1) := by decide +kernel
theorem d_164_41 : decode prog_8_method_62_code 41 = .ok (.aload_n 0, 1) := by decide +kernel
theorem d_164_42 : decode prog_8_method_62_code 42 = .ok (.getfield 22, 3) := by decide +kernel
theorem d_164_45 : decode prog_8_method_62_code 45 = .ok (.iload_n 3, 1) := by decide +kernel
theorem d_164_46 : decode prog_8_method_62_code 46 = .ok (.iaload, 1) := by decide +kernel
theorem d_164_47 : decode prog_8_method_62_code 47 = .ok (.iconst (-1), 1) := by decide +kernel
theorem d_164_48 : decode prog_8_method_62_code 48 = .ok (.invokevirtual 161, 3) := by decide +kernel
theorem d_164_51 : decode prog_8_method_62_code 51 = .ok (.ifCond .ne 22, 3) := by decide +kernel
theorem d_164_54 : decode prog_8_method_62_code 54 = .ok (.aload_n 0, 1) := by decide +kernel
theorem d_164_55 : decode prog_8_method_62_code 55 = .ok (.getfield 28, 3) := by decide +kernel
theorem d_164_58 : decode prog_8_method_62_code 58 = .ok (.iload_n 3, 1) := by decide +kernel
theorem d_164_59 : decode prog_8_method_62_code 59 = .ok (.iaload, 1) := by decide +kernel
theorem d_164_60 : decode prog_8_method_62_code 60 = .ok (.ifCond .lt 13, 3) := by decide +kernel
theorem d_164_63 : decode prog_8_method_62_code 63 = .ok (.aload_n 0, 1) := by decide +kernel
theorem d_164_64 : decode prog_8_method_62_code 64 = .ok (.getfield 28, 3) := by decide +kernel
theorem d_164_67 : decode prog_8_method_62_code 67 = .ok (.iload_n 3, 1) := by decide +kernel
theorem d_164_68 : decode prog_8_method_62_code 68 = .ok (.iaload, 1) := by decide +kernel
theorem d_164_69 : decode prog_8_method_62_code 69 = .ok (.iconst 2, 1) := by decide +kernel
theorem d_164_70 : decode prog_8_method_62_code 70 = .ok (.if_icmp .le 5, 3) := by decide +kernel
theorem d_164_73 : decode prog_8_method_62_code 73 = .ok (.iconst 0, 1) := by decide +kernel
theorem d_164_74 : decode prog_8_method_62_code 74 = .ok (.ireturn, 1) := by decide +kernel
theorem d_164_75 : decode prog_8_method_62_code 75 = .ok (.iconst 0, 1) := by decide +kernel
theorem d_164_76 : decode prog_8_method_62_code 76 = .ok (.istore 4, 2) := by decide +kernel
theorem d_164_78 : decode prog_8_method_62_code 78 = .ok (.iload 4, 2) := by decide +kernel
theorem d_164_80 : decode prog_8_method_62_code 80 = .ok (.aload_n 0, 1) := by decide +kernel
theorem d_164_81 : decode prog_8_method_62_code 81 = .ok (.getfield 28, 3) := by decide +kernel
theorem d_164_84 : decode prog_8_method_62_code 84 = .ok (.iload_n 3, 1) := by decide +kernel
theorem d_164_85 : decode prog_8_method_62_code 85 = .ok (.iaload, 1) := by decide +kernel
theorem d_164_86 : decode prog_8_method_62_code 86 = .ok (.if_icmp .ge 67, 3) := by decide +kernel
theorem d_164_89 : decode prog_8_method_62_code 89 = .ok (.aload_n 0, 1) := by decide +kernel
theorem d_164_90 : decode prog_8_method_62_code 90 = .ok (.iconst 4, 1) := by decide +kernel
theorem d_164_91 : decode prog_8_method_62_code 91 = .ok (.invokevirtual 225, 3) := by decide +kernel
theorem d_164_94 : decode prog_8_method_62_code 94 = .ok (.istore 5, 2) := by decide +kernel
theorem d_164_96 : decode prog_8_method_62_code 96 = .ok (.iload 5, 2) := by decide +kernel
theorem d_164_98 : decode prog_8_method_62_code 98 = .ok (.ifCond .lt 34, 3) := by decide +kernel
theorem d_164_101 : decode prog_8_method_62_code 101 = .ok (.iload 5, 2) := by decide +kernel
theorem d_164_103 : decode prog_8_method_62_code 103 = .ok (.aload_n 0, 1) := by decide +kernel
theorem d_164_104 : decode prog_8_method_62_code 104 = .ok (.getfield 7, 3) := by decide +kernel
theorem d_164_107 : decode prog_8_method_62_code 107 = .ok (.iload_n 1, 1) := by decide +kernel
theorem d_164_108 : decode prog_8_method_62_code 108 = .ok (.iaload, 1) := by decide +kernel
theorem d_164_109 : decode prog_8_method_62_code 109 = .ok (.if_icmp .ge 23, 3) := by decide +kernel
theorem d_164_112 : decode prog_8_method_62_code 112 = .ok (.iload 4, 2) := by decide +kernel
theorem d_164_114 : decode prog_8_method_62_code 114 = .ok (.iconst 1, 1) := by decide +kernel
theorem d_164_115 : decode prog_8_method_62_code 115 = .ok (.if_icmp .ne 19, 3) := by decide +kernel
theorem d_164_118 : decode prog_8_method_62_code 118 = .ok (.aload_n 0, 1) := by decide +kernel
theorem d_164_119 : decode prog_8_method_62_code 119 = .ok (.getfield 16, 3) := by decide +kernel
theorem d_164_122 : decode prog_8_method_62_code 122 = .ok (.iconst 4, 1) := by decide +kernel
theorem d_164_123 : decode prog_8_method_62_code 123 = .ok (.iload_n 1, 1) := by decide +kernel
theorem d_164_124 : decode prog_8_method_62_code 124 = .ok (.imul, 1) := by decide +kernel
theorem d_164_125 : decode prog_8_method_62_code 125 = .ok (.iload 5, 2) := by decide +kernel
theorem d_164_127 : decode prog_8_method_62_code 127 = .ok (.iadd, 1) := by decide +kernel
theorem d_164_128 : decode prog_8_method_62_code 128 = .ok (.iaload, 1) := by decide +kernel
theorem d_164_129 : decode prog_8_method_62_code 129 = .ok (.ifCond .ne 5, 3) := by decide +kernel
theorem d_164_132 : decode prog_8_method_62_code 132 = .ok (.iconst 0, 1) := by decide +kernel
theorem d_164_133 : decode prog_8_method_62_code 133 = .ok (.ireturn, 1) := by decide +kernel
theorem d_164_134 : decode prog_8_method_62_code 134 = .ok (.aload_n 0, 1) := by decide +kernel
theorem d_164_135 : decode prog_8_method_62_code 135 = .ok (.getfield 31, 3) := by decide +kernel
theorem d_164_138 : decode prog_8_method_62_code 138 = .ok (.iconst 2, 1) := by decide +kernel
theorem d_164_139 : decode prog_8_method_62_code 139 = .ok (.iload_n 3, 1) := by decide +kernel
theorem d_164_140 : decode prog_8_method_62_code 140 = .ok (.imul, 1) := by decide +kernel
theorem d_164_141 : decode prog_8_method_62_code 141 = .ok (.iload 4, 2) := by decide +kernel
theorem d_164_143 : decode prog_8_method_62_code 143 = .ok (.iadd, 1) := by decide +kernel
theorem d_164_144 : decode prog_8_method_62_code 144 = .ok (.iload 5, 2) := by decide +kernel
theorem d_164_146 : decode prog_8_method_62_code 146 = .ok (.iastore, 1) := by decide +kernel
theorem d_164_147 : decode prog_8_method_62_code 147 = .ok (.iinc 4 1, 3) := by decide +kernel
theorem d_164_150 : decode prog_8_method_62_code 150 = .ok (.goto (-72), 3) := by decide +kernel
theorem d_164_153 : decode prog_8_method_62_code 153 = .ok (.aload_n 0, 1) := by decide +kernel
theorem d_164_154 : decode prog_8_method_62_code 154 = .ok (.iload_n 1, 1) := by decide +kernel
theorem d_164_155 : decode prog_8_method_62_code 155 = .ok (.iload_n 2, 1) := by decide +kernel
theorem d_164_156 : decode prog_8_method_62_code 156 = .ok (.iconst 1, 1) := by decide +kernel
theorem d_164_157 : decode prog_8_method_62_code 157 = .ok (.iadd, 1) := by decide +kernel
theorem d_164_158 : decode prog_8_method_62_code 158 = .ok (.invokevirtual 238, 3) := by decide +kernel
theorem d_164_161 : decode prog_8_method_62_code 161 = .ok (.ifCond .ne 5, 3) := by decide +kernel
theorem d_164_164 : decode prog_8_method_62_code 164 = .ok (.iconst 0, 1) := by decide +kernel
theorem d_164_165 : decode prog_8_method_62_code 165 = .ok (.ireturn, 1) := by decide +kernel
theorem d_164_166 : decode prog_8_method_62_code 166 = .ok (.aload_n 0, 1) := by decide +kernel
theorem d_164_167 : decode prog_8_method_62_code 167 = .ok (.getfield 25, 3) := by decide +kernel
theorem d_164_170 : decode prog_8_method_62_code 170 = .ok (.iload_n 3, 1) := by decide +kernel
theorem d_164_171 : decode prog_8_method_62_code 171 = .ok (.aload_n 0, 1) := by decide +kernel
theorem d_164_172 : decode prog_8_method_62_code 172 = .ok (.iconst 4, 1) := by decide +kernel
theorem d_164_173 : decode prog_8_method_62_code 173 = .ok (.invokevirtual 225, 3) := by decide +kernel
theorem d_164_176 : decode prog_8_method_62_code 176 = .ok (.iastore, 1) := by decide +kernel
theorem d_164_177 : decode prog_8_method_62_code 177 = .ok (.aload_n 0, 1) := by decide +kernel
theorem d_164_178 : decode prog_8_method_62_code 178 = .ok (.iconst 4, 1) := by decide +kernel
theorem d_164_179 : decode prog_8_method_62_code 179 = .ok (.invokevirtual 225, 3) := by decide +kernel
theorem d_164_182 : decode prog_8_method_62_code 182 = .ok (.pop, 1) := by decide +kernel
theorem d_164_183 : decode prog_8_method_62_code 183 = .ok (.aload_n 0, 1) := by decide +kernel
theorem d_164_184 : decode prog_8_method_62_code 184 = .ok (.iconst 4, 1) := by decide +kernel
theorem d_164_185 : decode prog_8_method_62_code 185 = .ok (.invokevirtual 225, 3) := by decide +kernel
theorem d_164_188 : decode prog_8_method_62_code 188 = .ok (.pop, 1) := by decide +kernel
theorem d_164_189 : decode prog_8_method_62_code 189 = .ok (.aload_n 0, 1) := by decide +kernel
theorem d_164_190 : decode prog_8_method_62_code 190 = .ok (.getfield 25, 3) := by decide +kernel
theorem d_164_193 : decode prog_8_method_62_code 193 = .ok (.iload_n 3, 1) := by decide +kernel
theorem d_164_194 : decode prog_8_method_62_code 194 = .ok (.iaload, 1) := by decide +kernel
theorem d_164_195 : decode prog_8_method_62_code 195 = .ok (.iconst 1, 1) := by decide +kernel
theorem d_164_196 : decode prog_8_method_62_code 196 = .ok (.if_icmp .lt 17, 3) := by decide +kernel
theorem d_164_199 : decode prog_8_method_62_code 199 = .ok (.aload_n 0, 1) := by decide +kernel
theorem d_164_200 : decode prog_8_method_62_code 200 = .ok (.getfield 25, 3) := by decide +kernel
theorem d_164_203 : decode prog_8_method_62_code 203 = .ok (.iload_n 3, 1) := by decide +kernel
theorem d_164_204 : decode prog_8_method_62_code 204 = .ok (.iaload, 1) := by decide +kernel
theorem d_164_205 : decode prog_8_method_62_code 205 = .ok (.iconst 4, 1) := by decide +kernel
theorem d_164_206 : decode prog_8_method_62_code 206 = .ok (.if_icmp .gt 7, 3) := by decide +kernel
theorem d_164_209 : decode prog_8_method_62_code 209 = .ok (.iconst 1, 1) := by decide +kernel
theorem d_164_210 : decode prog_8_method_62_code 210 = .ok (.goto 4, 3) := by decide +kernel
theorem d_164_213 : decode prog_8_method_62_code 213 = .ok (.iconst 0, 1) := by decide +kernel
theorem d_164_214 : decode prog_8_method_62_code 214 = .ok (.ireturn, 1) := by decide +kernel
theorem d_165_0 : decode prog_8_method_65_code 0 = .ok (.iconst 0, 1) := by decide +kernel
theorem d_165_1 : decode prog_8_method_65_code 1 = .ok (.istore_n 2, 1) := by decide +kernel
theorem d_165_2 : decode prog_8_method_65_code 2 = .ok (.iload_n 2, 1) := by decide +kernel
theorem d_165_3 : decode prog_8_method_65_code 3 = .ok (.aload_n 0, 1) := by decide +kernel
theorem d_165_4 : decode prog_8_method_65_code 4 = .ok (.getfield 19, 3) := by decide +kernel
theorem d_165_7 : decode prog_8_method_65_code 7 = .ok (.iload_n 1, 1) := by decide +kernel
theorem d_165_8 : decode prog_8_method_65_code 8 = .ok (.iaload, 1) := by decide +kernel
theorem d_165_9 : decode prog_8_method_65_code 9 = .ok (.if_icmp .ge 32, 3) := by decide +kernel
theorem d_165_12 : decode prog_8_method_65_code 12 = .ok (.aload_n 0, 1) := by decide +kernel
theorem d_165_13 : decode prog_8_method_65_code 13 = .ok (.iload_n 1, 1) := by decide +kernel
theorem d_165_14 : decode prog_8_method_65_code 14 = .ok (.iload_n 2, 1) := by decide +kernel
theorem d_165_15 : decode prog_8_method_65_code 15 = .ok (.invokevirtual 164, 3) := by decide +kernel
theorem d_165_18 : decode prog_8_method_65_code 18 = .ok (.aload_n 0, 1) := by decide +kernel
theorem d_165_19 : decode prog_8_method_65_code 19 = .ok (.iload_n 1, 1) := by decide +kernel
theorem d_165_20 : decode prog_8_method_65_code 20 = .ok (.iload_n 2, 1) := by decide +kernel
theorem d_165_21 : decode prog_8_method_65_code 21 = .ok (.invokevirtual 83, 3) := by decide +kernel
theorem d_165_24 : decode prog_8_method_65_code 24 = .ok (.ifCond .ne 11, 3) := by decide +kernel
theorem d_165_27 : decode prog_8_method_65_code 27 = .ok (.aload_n 0, 1) := by decide +kernel
theorem d_165_28 : decode prog_8_method_65_code 28 = .ok (.iload_n 1, 1) := by decide +kernel
theorem d_165_29 : decode prog_8_method_65_code 29 = .ok (.iload_n 2, 1) := by decide +kernel
theorem d_165_30 : decode prog_8_method_65_code 30 = .ok (.iconst 0, 1) := by decide +kernel
theorem d_165_31 : decode prog_8_method_65_code 31 = .ok (.iconst 1, 1) := by decide +kernel
theorem d_165_32 : decode prog_8_method_65_code 32 = .ok (.invokevirtual 247, 3) := by decide +kernel
theorem d_165_35 : decode prog_8_method_65_code 35 = .ok (.iinc 2 1, 3) := by decide +kernel
theorem d_165_38 : decode prog_8_method_65_code 38 = .ok (.goto (-36), 3) := by decide +kernel
theorem d_165_41 : decode prog_8_method_65_code 41 = .ok (.aload_n 0, 1) := by decide +kernel
theorem d_165_42 : decode prog_8_method_65_code 42 = .ok (.iload_n 1, 1) := by decide +kernel
theorem d_165_43 : decode prog_8_method_65_code 43 = .ok (.invokevirtual 96, 3) := by decide +kernel
theorem d_165_46 : decode prog_8_method_65_code 46 = .ok (.iconst 1, 1) := by decide +kernel
theorem d_165_47 : decode prog_8_method_65_code 47 = .ok (.if_icmp .le 7, 3) := by decide +kernel
theorem d_165_50 : decode prog_8_method_65_code 50 = .ok (.iconst 1, 1) := by decide +kernel
theorem d_165_51 : decode prog_8_method_65_code 51 = .ok (.goto 4, 3) := by decide +kernel
theorem d_165_54 : decode prog_8_method_65_code 54 = .ok (.iconst 0, 1) := by decide +kernel
theorem d_165_55 : decode prog_8_method_65_code 55 = .ok (.istore_n 2, 1) := by decide +kernel
theorem d_165_56 : decode prog_8_method_65_code 56 = .ok (.iconst 0, 1) := by decide +kernel
theorem d_165_57 : decode prog_8_method_65_code 57 = .ok (.istore_n 3, 1) := by decide +kernel
theorem d_165_58 : decode prog_8_method_65_code 58 = .ok (.iload_n 3, 1) := by decide +kernel
theorem d_165_59 : decode prog_8_method_65_code 59 = .ok (.aload_n 0, 1) := by decide +kernel
theorem d_165_60 : decode prog_8_method_65_code 60 = .ok (.getfield 49, 3) := by decide +kernel
theorem d_165_63 : decode prog_8_method_65_code 63 = .ok (.iload_n 1, 1) := by decide +kernel
theorem d_165_64 : decode prog_8_method_65_code 64 = .ok (.iaload, 1) := by decide +kernel
theorem d_165_65 : decode prog_8_method_65_code 65 = .ok (.if_icmp .ge 48, 3) := by decide +kernel
theorem d_165_68 : decode prog_8_method_65_code 68 = .ok (.iconst 0, 1) := by decide +kernel
theorem d_165_69 : decode prog_8_method_65_code 69 = .ok (.istore 4, 2) := by decide +kernel
theorem d_165_71 : decode prog_8_method_65_code 71 = .ok (.iload 4, 2) := by decide +kernel
theorem d_165_73 : decode prog_8_method_65_code 73 = .ok (.aload_n 0, 1) := by decide +kernel
theorem d_165_74 : decode prog_8_method_65_code 74 = .ok (.getfield 19, 3) := by decide +kernel
theorem d_165_77 : decode prog_8_method_65_code 77 = .ok (.iload_n 1, 1) := by decide +kernel
theorem d_165_78 : decode prog_8_method_65_code 78 = .ok (.iaload, 1) := by decide +kernel
theorem d_165_79 : decode prog_8_method_65_code 79 = .ok (.if_icmp .ge 28, 3) := by decide +kernel
theorem d_165_82 : decode prog_8_method_65_code 82 = .ok (.aload_n 0, 1) := by decide +kernel
theorem d_165_83 : decode prog_8_method_65_code 83 = .ok (.iload_n 1, 1) := by decide +kernel
theorem d_165_84 : decode prog_8_method_65_code 84 = .ok (.iload 4, 2) := by decide +kernel
theorem d_165_86 : decode prog_8_method_65_code 86 = .ok (.invokevirtual 83, 3) := by decide +kernel
theorem d_165_89 : decode prog_8_method_65_code 89 = .ok (.ifCond .eq 12, 3) := by decide +kernel
theorem d_165_92 : decode prog_8_method_65_code 92 = .ok (.aload_n 0, 1) := by decide +kernel
theorem d_165_93 : decode prog_8_method_65_code 93 = .ok (.iload_n 1, 1) := by decide +kernel
theorem d_165_94 : decode prog_8_method_65_code 94 = .ok (.iload 4, 2) := by decide +kernel
theorem d_165_96 : decode prog_8_method_65_code 96 = .ok (.iload_n 3, 1) := by decide +kernel
theorem d_165_97 : decode prog_8_method_65_code 97 = .ok (.iload_n 2, 1) := by decide +kernel
theorem d_165_98 : decode prog_8_method_65_code 98 = .ok (.invokevirtual 247, 3) := by decide +kernel
theorem d_165_101 : decode prog_8_method_65_code 101 = .ok (.iinc 4 1, 3) := by decide +kernel
theorem d_165_104 : decode prog_8_method_65_code 104 = .ok (.goto (-33), 3) := by decide +kernel
theorem d_165_107 : decode prog_8_method_65_code 107 = .ok (.iinc 3 1, 3) := by decide +kernel
theorem d_165_110 : decode prog_8_method_65_code 110 = .ok (.goto (-52), 3) := by decide +kernel
theorem d_165_113 : decode prog_8_method_65_code 113 = .ok (.return_, 1) := by decide +kernel
theorem d_166_0 : decode prog_8_method_64_code 0 = .ok (.iconst 5, 1) := by decide +kernel
theorem d_166_1 : decode prog_8_method_64_code 1 = .ok (.iload_n 1, 1) := by decide +kernel
theorem d_166_2 : decode prog_8_method_64_code 2 = .ok (.imul, 1) := by decide +kernel
theorem d_166_3 : decode prog_8_method_64_code 3 = .ok (.iload_n 2, 1) := by decide +kernel
theorem d_166_4 : decode prog_8_method_64_code 4 = .ok (.iadd, 1) := by decide +kernel
theorem d_166_5 : decode prog_8_method_64_code 5 = .ok (.istore 5, 2) := by decide +kernel
theorem d_166_7 : decode prog_8_method_64_code 7 = .ok (.aload_n 0, 1) := by decide +kernel
theorem d_166_8 : decode prog_8_method_64_code 8 = .ok (.iload_n 1, 1) := by decide +kernel
theorem d_166_9 : decode prog_8_method_64_code 9 = .ok (.iload_n 2, 1) := by decide +kernel
theorem d_166_10 : decode prog_8_method_64_code 10 = .ok (.invokevirtual 75, 3) := by decide +kernel
theorem d_166_13 : decode prog_8_method_64_code 13 = .ok (.istore 6, 2) := by decide +kernel
theorem d_166_15 : decode prog_8_method_64_code 15 = .ok (.iconst 0, 1) := by decide +kernel
theorem d_166_16 : decode prog_8_method_64_code 16 = .ok (.istore 7, 2) := by decide +kernel
theorem d_166_18 : decode prog_8_method_64_code 18 = .ok (.iload 7, 2) := by decide +kernel
theorem d_166_20 : decode prog_8_method_64_code 20 = .ok (.iload 6, 2) := by decide +kernel
theorem d_166_22 : decode prog_8_method_64_code 22 = .ok (.if_icmp .ge 39, 3) := by decide +kernel
theorem d_166_25 : decode prog_8_method_64_code 25 = .ok (.aload_n 0, 1) := by decide +kernel
theorem d_166_26 : decode prog_8_method_64_code 26 = .ok (.getfield 52, 3) := by decide +kernel
theorem d_166_29 : decode prog_8_method_64_code 29 = .ok (.sipush 800, 3) := by decide +kernel
theorem d_166_32 : decode prog_8_method_64_code 32 = .ok (.iload 5, 2) := by decide +kernel
theorem d_166_34 : decode prog_8_method_64_code 34 = .ok (.imul, 1) := by decide +kernel
theorem d_166_35 : decode prog_8_method_64_code 35 = .ok (.iload_n 3, 1) := by decide +kernel
theorem d_166_36 : decode prog_8_method_64_code 36 = .ok (.iload 6, 2) := by decide +kernel
theorem d_166_38 : decode prog_8_method_64_code 38 = .ok (.imul, 1) := by decide +kernel
theorem d_166_39 : decode prog_8_method_64_code 39 = .ok (.iadd, 1) := by decide +kernel
theorem d_166_40 : decode prog_8_method_64_code 40 = .ok (.iload 7, 2) := by decide +kernel
theorem d_166_42 : decode prog_8_method_64_code 42 = .ok (.iadd, 1) := by decide +kernel
theorem d_166_43 : decode prog_8_method_64_code 43 = .ok (.aload_n 0, 1) := by decide +kernel
theorem d_166_44 : decode prog_8_method_64_code 44 = .ok (.aload_n 0, 1) := by decide +kernel
theorem d_166_45 : decode prog_8_method_64_code 45 = .ok (.getfield 25, 3) := by decide +kernel
theorem d_166_48 : decode prog_8_method_64_code 48 = .ok (.iload 5, 2) := by decide +kernel
theorem d_166_50 : decode prog_8_method_64_code 50 = .ok (.iaload, 1) := by decide +kernel
theorem d_166_51 : decode prog_8_method_64_code 51 = .ok (.invokevirtual 235, 3) := by decide +kernel
theorem d_166_54 : decode prog_8_method_64_code 54 = .ok (.iastore, 1) := by decide +kernel
theorem d_166_55 : decode prog_8_method_64_code 55 = .ok (.iinc 7 1, 3) := by decide +kernel
theorem d_166_58 : decode prog_8_method_64_code 58 = .ok (.goto (-40), 3) := by decide +kernel
theorem d_166_61 : decode prog_8_method_64_code 61 = .ok (.aload_n 0, 1) := by decide +kernel
theorem d_166_62 : decode prog_8_method_64_code 62 = .ok (.iload 4, 2) := by decide +kernel
theorem d_166_64 : decode prog_8_method_64_code 64 = .ok (.ifCond .eq 16, 3) := by decide +kernel
theorem d_166_67 : decode prog_8_method_64_code 67 = .ok (.aload_n 0, 1) := by decide +kernel
theorem d_166_68 : decode prog_8_method_64_code 68 = .ok (.getfield 222, 3) := by decide +kernel
theorem d_166_71 : decode prog_8_method_64_code 71 = .ok (.iconst 3, 1) := by decide +kernel
theorem d_166_72 : decode prog_8_method_64_code 72 = .ok (.iadd, 1) := by decide +kernel
theorem d_166_73 : decode prog_8_method_64_code 73 = .ok (.iconst 4, 1) := by decide +kernel
theorem d_166_74 : decode prog_8_method_64_code 74 = .ok (.idiv, 1) := by decide +kernel
theorem d_166_75 : decode prog_8_method_64_code 75 = .ok (.iconst 4, 1) := by decide +kernel
theorem d_166_76 : decode prog_8_method_64_code 76 = .ok (.imul, 1) := by decide +kernel
theorem d_166_77 : decode prog_8_method_64_code 77 = .ok (.goto 7, 3) := by decide +kernel
theorem d_166_80 : decode prog_8_method_64_code 80 = .ok (.aload_n 0, 1) := by decide +kernel
theorem d_166_81 : decode prog_8_method_64_code 81 = .ok (.getfield 222, 3) := by decide +kernel
theorem d_166_84 : decode prog_8_method_64_code 84 = .ok (.putfield 222, 3) := by decide +kernel
theorem d_166_87 : decode prog_8_method_64_code 87 = .ok (.return_, 1) := by decide +kernel
theorem d_167_0 : decode code 0 = .ok (.new 7, 3) := by decide +kernel
theorem d_167_3 : decode code 3 = .ok (.dup, 1) := by decide +kernel
theorem d_167_4 : decode code 4 = .ok (.invokespecial 9, 3) := by decide +kernel
theorem d_167_7 : decode code 7 = .ok (.astore_n 1, 1) := by decide +kernel
theorem d_167_8 : decode code 8 = .ok (.new 10, 3) := by decide +kernel
theorem d_167_11 : decode code 11 = .ok (.dup, 1) := by decide +kernel
theorem d_167_12 : decode code 12 = .ok (.invokespecial 12, 3) := by decide +kernel
theorem d_167_15 : decode code 15 = .ok (.astore_n 2, 1) := by decide +kernel
theorem d_167_16 : decode code 16 = .ok (.iconst 0, 1) := by decide +kernel
theorem d_167_17 : decode code 17 = .ok (.istore_n 3, 1) := by decide +kernel
theorem d_167_18 : decode code 18 = .ok (.iload_n 3, 1) := by decide +kernel
theorem d_167_19 : decode code 19 = .ok (.aload_n 0, 1) := by decide +kernel
theorem d_167_20 : decode code 20 = .ok (.arraylength, 1) := by decide +kernel
theorem d_167_21 : decode code 21 = .ok (.bipush 6, 2) := by decide +kernel
theorem d_167_23 : decode code 23 = .ok (.isub, 1) := by decide +kernel
theorem d_167_24 : decode code 24 = .ok (.if_icmp .gt 760, 3) := by decide +kernel
theorem d_167_27 : decode code 27 = .ok (.aload_n 0, 1) := by decide +kernel
theorem d_167_28 : decode code 28 = .ok (.iload_n 3, 1) := by decide +kernel
theorem d_167_29 : decode code 29 = .ok (.iaload, 1) := by decide +kernel
theorem d_167_30 : decode code 30 = .ok (.bipush 31, 2) := by decide +kernel
theorem d_167_32 : decode code 32 = .ok (.iand, 1) := by decide +kernel
theorem d_167_33 : decode code 33 = .ok (.tableswitch 745 0 18 #[91, 124, 177, 240, 273, 332, 345, 358, 411, 455, 508, 551, 585, 598, 611, 634, 658, 721, 732], 91) := by decide +kernel
theorem d_167_124 : decode code 124 = .ok (.aload_n 1, 1) := by decide +kernel
theorem d_167_125 : decode code 125 = .ok (.aload_n 0, 1) := by decide +kernel
theorem d_167_126 : decode code 126 = .ok (.iload_n 3, 1) := by decide +kernel
theorem d_167_127 : decode code 127 = .ok (.iconst 1, 1) := by decide +kernel
theorem d_167_128 : decode code 128 = .ok (.iadd, 1) := by decide +kernel
theorem d_167_129 : decode code 129 = .ok (.iaload, 1) := by decide +kernel
theorem d_167_130 : decode code 130 = .ok (.aload_n 0, 1) := by decide +kernel
theorem d_167_131 : decode code 131 = .ok (.iload_n 3, 1) := by decide +kernel
theorem d_167_132 : decode code 132 = .ok (.iconst 2, 1) := by decide +kernel
theorem d_167_133 : decode code 133 = .ok (.iadd, 1) := by decide +kernel
theorem d_167_134 : decode code 134 = .ok (.iaload, 1) := by decide +kernel
theorem d_167_135 : decode code 135 = .ok (.invokevirtual 13, 3) := by decide +kernel
theorem d_167_138 : decode code 138 = .ok (.aload_n 2, 1) := by decide +kernel
theorem d_167_139 : decode code 139 = .ok (.aload_n 0, 1) := by decide +kernel
theorem d_167_140 : decode code 140 = .ok (.iload_n 3, 1) := by decide +kernel
theorem d_167_141 : decode code 141 = .ok (.iconst 1, 1) := by decide +kernel
theorem d_167_142 : decode code 142 = .ok (.iadd, 1) := by decide +kernel
theorem d_167_143 : decode code 143 = .ok (.iaload, 1) := by decide +kernel
theorem d_167_144 : decode code 144 = .ok (.aload_n 0, 1) := by decide +kernel
theorem d_167_145 : decode code 145 = .ok (.iload_n 3, 1) := by decide +kernel
theorem d_167_146 : decode code 146 = .ok (.iconst 2, 1) := by decide +kernel
theorem d_167_147 : decode code 147 = .ok (.iadd, 1) := by decide +kernel
theorem d_167_148 : decode code 148 = .ok (.iaload, 1) := by decide +kernel
theorem d_167_149 : decode code 149 = .ok (.invokevirtual 17, 3) := by decide +kernel
theorem d_167_152 : decode code 152 = .ok (.if_icmp .eq 626, 3) := by decide +kernel
theorem d_167_155 : decode code 155 = .ok (.iconst 0, 1) := by decide +kernel
theorem d_167_156 : decode code 156 = .ok (.ireturn, 1) := by decide +kernel
theorem d_167_157 : decode code 157 = .ok (.aload_n 1, 1) := by decide +kernel
theorem d_167_158 : decode code 158 = .ok (.aload_n 0, 1) := by decide +kernel
theorem d_167_159 : decode code 159 = .ok (.iload_n 3, 1) := by decide +kernel
theorem d_167_160 : decode code 160 = .ok (.iconst 1, 1) := by decide +kernel
theorem d_167_161 : decode code 161 = .ok (.iadd, 1) := by decide +kernel
theorem d_167_162 : decode code 162 = .ok (.iaload, 1) := by decide +kernel
theorem d_167_163 : decode code 163 = .ok (.aload_n 0, 1) := by decide +kernel
theorem d_167_164 : decode code 164 = .ok (.iload_n 3, 1) := by decide +kernel
theorem d_167_165 : decode code 165 = .ok (.iconst 2, 1) := by decide +kernel
theorem d_167_166 : decode code 166 = .ok (.iadd, 1) := by decide +kernel
theorem d_167_167 : decode code 167 = .ok (.iaload, 1) := by decide +kernel
theorem d_167_168 : decode code 168 = .ok (.aload_n 0, 1) := by decide +kernel
theorem d_167_169 : decode code 169 = .ok (.iload_n 3, 1) := by decide +kernel
theorem d_167_170 : decode code 170 = .ok (.iconst 3, 1) := by decide +kernel
theorem d_167_171 : decode code 171 = .ok (.iadd, 1) := by decide +kernel
theorem d_167_172 : decode code 172 = .ok (.iaload, 1) := by decide +kernel
theorem d_167_173 : decode code 173 = .ok (.aload_n 0, 1) := by decide +kernel
theorem d_167_174 : decode code 174 = .ok (.iload_n 3, 1) := by decide +kernel
theorem d_167_175 : decode code 175 = .ok (.iconst 4, 1) := by decide +kernel
theorem d_167_176 : decode code 176 = .ok (.iadd, 1) := by decide +kernel
theorem d_167_177 : decode code 177 = .ok (.iaload, 1) := by decide +kernel
theorem d_167_178 : decode code 178 = .ok (.invokevirtual 18, 3) := by decide +kernel
theorem d_167_181 : decode code 181 = .ok (.aload_n 2, 1) := by decide +kernel
theorem d_167_182 : decode code 182 = .ok (.aload_n 0, 1) := by decide +kernel
theorem d_167_183 : decode code 183 = .ok (.iload_n 3, 1) := by decide +kernel
theorem d_167_184 : decode code 184 = .ok (.iconst 1, 1) := by decide +kernel
theorem d_167_185 : decode code 185 = .ok (.iadd, 1) := by decide +kernel
theorem d_167_186 : decode code 186 = .ok (.iaload, 1) := by decide +kernel
theorem d_167_187 : decode code 187 = .ok (.aload_n 0, 1) := by decide +kernel
theorem d_167_188 : decode code 188 = .ok (.iload_n 3, 1) := by decide +kernel
theorem d_167_189 : decode code 189 = .ok (.iconst 2, 1) := by decide +kernel
theorem d_167_190 : decode code 190 = .ok (.iadd, 1) := by decide +kernel
theorem d_167_191 : decode code 191 = .ok (.iaload, 1) := by decide +kernel
theorem d_167_192 : decode code 192 = .ok (.aload_n 0, 1) := by decide +kernel
theorem d_167_193 : decode code 193 = .ok (.iload_n 3, 1) := by decide +kernel
theorem d_167_194 : decode code 194 = .ok (.iconst 3, 1) := by decide +kernel
theorem d_167_195 : decode code 195 = .ok (.iadd, 1) := by decide +kernel
theorem d_167_196 : decode code 196 = .ok (.iaload, 1) := by decide +kernel
theorem d_167_197 : decode code 197 = .ok (.aload_n 0, 1) := by decide +kernel
theorem d_167_198 : decode code 198 = .ok (.iload_n 3, 1) := by decide +kernel
theorem d_167_199 : decode code 199 = .ok (.iconst 4, 1) := by decide +kernel
theorem d_167_200 : decode code 200 = .ok (.iadd, 1) := by decide +kernel
theorem d_167_201 : decode code 201 = .ok (.iaload, 1) := by decide +kernel
theorem d_167_202 : decode code 202 = .ok (.invokevirtual 22, 3) := by decide +kernel
theorem d_167_205 : decode code 205 = .ok (.if_icmp .eq 573, 3) := by decide +kernel
theorem d_167_208 : decode code 208 = .ok (.iconst 0, 1) := by decide +kernel
theorem d_167_209 : decode code 209 = .ok (.ireturn, 1) := by decide +kernel
theorem d_167_210 : decode code 210 = .ok (.aload_n 1, 1) := by decide +kernel
theorem d_167_211 : decode code 211 = .ok (.aload_n 0, 1) := by decide +kernel
theorem d_167_212 : decode code 212 = .ok (.iload_n 3, 1) := by decide +kernel
theorem d_167_213 : decode code 213 = .ok (.iconst 1, 1) := by decide +kernel
theorem d_167_214 : decode code 214 = .ok (.iadd, 1) := by decide +kernel
theorem d_167_215 : decode code 215 = .ok (.iaload, 1) := by decide +kernel
theorem d_167_216 : decode code 216 = .ok (.aload_n 0, 1) := by decide +kernel
theorem d_167_217 : decode code 217 = .ok (.iload_n 3, 1) := by decide +kernel
theorem d_167_218 : decode code 218 = .ok (.iconst 2, 1) := by decide +kernel
theorem d_167_219 : decode code 219 = .ok (.iadd, 1) := by decide +kernel
theorem d_167_220 : decode code 220 = .ok (.iaload, 1) := by decide +kernel
theorem d_167_221 : decode code 221 = .ok (.aload_n 0, 1) := by decide +kernel
theorem d_167_222 : decode code 222 = .ok (.iload_n 3, 1) := by decide +kernel
theorem d_167_223 : decode code 223 = .ok (.iconst 3, 1) := by decide +kernel
theorem d_167_224 : decode code 224 = .ok (.iadd, 1) := by decide +kernel
theorem d_167_225 : decode code 225 = .ok (.iaload, 1) := by decide +kernel
theorem d_167_226 : decode code 226 = .ok (.aload_n 0, 1) := by decide +kernel
theorem d_167_227 : decode code 227 = .ok (.iload_n 3, 1) := by decide +kernel
theorem d_167_228 : decode code 228 = .ok (.iconst 4, 1) := by decide +kernel
theorem d_167_229 : decode code 229 = .ok (.iadd, 1) := by decide +kernel
theorem d_167_230 : decode code 230 = .ok (.iaload, 1) := by decide +kernel
theorem d_167_231 : decode code 231 = .ok (.aload_n 0, 1) := by decide +kernel
theorem d_167_232 : decode code 232 = .ok (.iload_n 3, 1) := by decide +kernel
theorem d_167_233 : decode code 233 = .ok (.iconst 5, 1) := by decide +kernel
theorem d_167_234 : decode code 234 = .ok (.iadd, 1) := by decide +kernel
theorem d_167_235 : decode code 235 = .ok (.iaload, 1) := by decide +kernel
theorem d_167_236 : decode code 236 = .ok (.invokevirtual 23, 3) := by decide +kernel
theorem d_167_239 : decode code 239 = .ok (.aload_n 2, 1) := by decide +kernel
theorem d_167_240 : decode code 240 = .ok (.aload_n 0, 1) := by decide +kernel
theorem d_167_241 : decode code 241 = .ok (.iload_n 3, 1) := by decide +kernel
theorem d_167_242 : decode code 242 = .ok (.iconst 1, 1) := by decide +kernel
theorem d_167_243 : decode code 243 = .ok (.iadd, 1) := by decide +kernel
theorem d_167_244 : decode code 244 = .ok (.iaload, 1) := by decide +kernel
theorem d_167_245 : decode code 245 = .ok (.aload_n 0, 1) := by decide +kernel
theorem d_167_246 : decode code 246 = .ok (.iload_n 3, 1) := by decide +kernel
theorem d_167_247 : decode code 247 = .ok (.iconst 2, 1) := by decide +kernel
theorem d_167_248 : decode code 248 = .ok (.iadd, 1) := by decide +kernel
theorem d_167_249 : decode code 249 = .ok (.iaload, 1) := by decide +kernel
theorem d_167_250 : decode code 250 = .ok (.aload_n 0, 1) := by decide +kernel
theorem d_167_251 : decode code 251 = .ok (.iload_n 3, 1) := by decide +kernel
theorem d_167_252 : decode code 252 = .ok (.iconst 3, 1) := by decide +kernel
theorem d_167_253 : decode code 253 = .ok (.iadd, 1) := by decide +kernel
theorem d_167_254 : decode code 254 = .ok (.iaload, 1) := by decide +kernel
theorem d_167_255 : decode code 255 = .ok (.aload_n 0, 1) := by decide +kernel
theorem d_167_256 : decode code 256 = .ok (.iload_n 3, 1) := by decide +kernel
theorem d_167_257 : decode code 257 = .ok (.iconst 4, 1) := by decide +kernel
theorem d_167_258 : decode code 258 = .ok (.iadd, 1) := by decide +kernel
theorem d_167_259 : decode code 259 = .ok (.iaload, 1) := by decide +kernel
theorem d_167_260 : decode code 260 = .ok (.aload_n 0, 1) := by decide +kernel
theorem d_167_261 : decode code 261 = .ok (.iload_n 3, 1) := by decide +kernel
theorem d_167_262 : decode code 262 = .ok (.iconst 5, 1) := by decide +kernel
theorem d_167_263 : decode code 263 = .ok (.iadd, 1) := by decide +kernel
theorem d_167_264 : decode code 264 = .ok (.iaload, 1) := by decide +kernel
theorem d_167_265 : decode code 265 = .ok (.invokevirtual 27, 3) := by decide +kernel
theorem d_167_268 : decode code 268 = .ok (.if_icmp .eq 510, 3) := by decide +kernel
theorem d_167_271 : decode code 271 = .ok (.iconst 0, 1) := by decide +kernel
theorem d_167_272 : decode code 272 = .ok (.ireturn, 1) := by decide +kernel
theorem d_167_273 : decode code 273 = .ok (.aload_n 1, 1) := by decide +kernel
theorem d_167_274 : decode code 274 = .ok (.aload_n 0, 1) := by decide +kernel
theorem d_167_275 : decode code 275 = .ok (.iload_n 3, 1) := by decide +kernel
theorem d_167_276 : decode code 276 = .ok (.iconst 1, 1) := by decide +kernel
theorem d_167_277 : decode code 277 = .ok (.iadd, 1) := by decide +kernel
theorem d_167_278 : decode code 278 = .ok (.iaload, 1) := by decide +kernel
theorem d_167_279 : decode code 279 = .ok (.aload_n 0, 1) := by decide +kernel
theorem d_167_280 : decode code 280 = .ok (.iload_n 3, 1) := by decide +kernel
theorem d_167_281 : decode code 281 = .ok (.iconst 2, 1) := by decide +kernel
theorem d_167_282 : decode code 282 = .ok (.iadd, 1) := by decide +kernel
theorem d_167_283 : decode code 283 = .ok (.iaload, 1) := by decide +kernel
theorem d_167_284 : decode code 284 = .ok (.invokevirtual 28, 3) := by decide +kernel
theorem d_167_287 : decode code 287 = .ok (.aload_n 2, 1) := by decide +kernel
theorem d_167_288 : decode code 288 = .ok (.aload_n 0, 1) := by decide +kernel
theorem d_167_289 : decode code 289 = .ok (.iload_n 3, 1) := by decide +kernel
theorem d_167_290 : decode code 290 = .ok (.iconst 1, 1) := by decide +kernel
theorem d_167_291 : decode code 291 = .ok (.iadd, 1) := by decide +kernel
theorem d_167_292 : decode code 292 = .ok (.iaload, 1) := by decide +kernel
theorem d_167_293 : decode code 293 = .ok (.aload_n 0, 1) := by decide +kernel
theorem d_167_294 : decode code 294 = .ok (.iload_n 3, 1) := by decide +kernel
theorem d_167_295 : decode code 295 = .ok (.iconst 2, 1) := by decide +kernel
theorem d_167_296 : decode code 296 = .ok (.iadd, 1) := by decide +kernel
theorem d_167_297 : decode code 297 = .ok (.iaload, 1) := by decide +kernel
theorem d_167_298 : decode code 298 = .ok (.invokevirtual 31, 3) := by decide +kernel
theorem d_167_301 : decode code 301 = .ok (.if_icmp .eq 477, 3) := by decide +kernel
theorem d_167_304 : decode code 304 = .ok (.iconst 0, 1) := by decide +kernel
theorem d_167_305 : decode code 305 = .ok (.ireturn, 1) := by decide +kernel
theorem d_167_306 : decode code 306 = .ok (.aload_n 1, 1) := by decide +kernel
theorem d_167_307 : decode code 307 = .ok (.aload_n 0, 1) := by decide +kernel
theorem d_167_308 : decode code 308 = .ok (.iload_n 3, 1) := by decide +kernel
theorem d_167_309 : decode code 309 = .ok (.iconst 1, 1) := by decide +kernel
theorem d_167_310 : decode code 310 = .ok (.iadd, 1) := by decide +kernel
theorem d_167_311 : decode code 311 = .ok (.iaload, 1) := by decide +kernel
theorem d_167_312 : decode code 312 = .ok (.ifCond .eq 7, 3) := by decide +kernel
theorem d_167_315 : decode code 315 = .ok (.iconst 1, 1) := by decide +kernel
theorem d_167_316 : decode code 316 = .ok (.goto 4, 3) := by decide +kernel
theorem d_167_319 : decode code 319 = .ok (.iconst 0, 1) := by decide +kernel
theorem d_167_320 : decode code 320 = .ok (.aload_n 0, 1) := by decide +kernel
theorem d_167_321 : decode code 321 = .ok (.iload_n 3, 1) := by decide +kernel
theorem d_167_322 : decode code 322 = .ok (.iconst 2, 1) := by decide +kernel
theorem d_167_323 : decode code 323 = .ok (.iadd, 1) := by decide +kernel
theorem d_167_324 : decode code 324 = .ok (.iaload, 1) := by decide +kernel
theorem d_167_325 : decode code 325 = .ok (.aload_n 0, 1) := by decide +kernel
theorem d_167_326 : decode code 326 = .ok (.iload_n 3, 1) := by decide +kernel
theorem d_167_327 : decode code 327 = .ok (.iconst 3, 1) := by decide +kernel
theorem d_167_328 : decode code 328 = .ok (.iadd, 1) := by decide +kernel
theorem d_167_329 : decode code 329 = .ok (.iaload, 1) := by decide +kernel
theorem d_167_330 : decode code 330 = .ok (.invokevirtual 32, 3) := by decide +kernel
theorem d_167_333 : decode code 333 = .ok (.aload_n 2, 1) := by decide +kernel
theorem d_167_334 : decode code 334 = .ok (.aload_n 0, 1) := by decide +kernel
theorem d_167_335 : decode code 335 = .ok (.iload_n 3, 1) := by decide +kernel
theorem d_167_336 : decode code 336 = .ok (.iconst 1, 1) := by decide +kernel
theorem d_167_337 : decode code 337 = .ok (.iadd, 1) := by decide +kernel
theorem d_167_338 : decode code 338 = .ok (.iaload, 1) := by decide +kernel
theorem d_167_339 : decode code 339 = .ok (.ifCond .eq 7, 3) := by decide +kernel
theorem d_167_342 : decode code 342 = .ok (.iconst 1, 1) := by decide +kernel
theorem d_167_343 : decode code 343 = .ok (.goto 4, 3) := by decide +kernel
theorem d_167_346 : decode code 346 = .ok (.iconst 0, 1) := by decide +kernel
theorem d_167_347 : decode code 347 = .ok (.aload_n 0, 1) := by decide +kernel
theorem d_167_348 : decode code 348 = .ok (.iload_n 3, 1) := by decide +kernel
theorem d_167_349 : decode code 349 = .ok (.iconst 2, 1) := by decide +kernel
theorem d_167_350 : decode code 350 = .ok (.iadd, 1) := by decide +kernel
theorem d_167_351 : decode code 351 = .ok (.iaload, 1) := by decide +kernel
theorem d_167_352 : decode code 352 = .ok (.aload_n 0, 1) := by decide +kernel
theorem d_167_353 : decode code 353 = .ok (.iload_n 3, 1) := by decide +kernel
theorem d_167_354 : decode code 354 = .ok (.iconst 3, 1) := by decide +kernel
theorem d_167_355 : decode code 355 = .ok (.iadd, 1) := by decide +kernel
theorem d_167_356 : decode code 356 = .ok (.iaload, 1) := by decide +kernel
theorem d_167_357 : decode code 357 = .ok (.invokevirtual 36, 3) := by decide +kernel
theorem d_167_360 : decode code 360 = .ok (.if_icmp .eq 418, 3) := by decide +kernel
theorem d_167_363 : decode code 363 = .ok (.iconst 0, 1) := by decide +kernel
theorem d_167_364 : decode code 364 = .ok (.ireturn, 1) := by decide +kernel
theorem d_167_365 : decode code 365 = .ok (.aload_n 1, 1) := by decide +kernel
theorem d_167_366 : decode code 366 = .ok (.invokevirtual 37, 3) := by decide +kernel
theorem d_167_369 : decode code 369 = .ok (.aload_n 2, 1) := by decide +kernel
theorem d_167_370 : decode code 370 = .ok (.invokevirtual 41, 3) := by decide +kernel
theorem d_167_373 : decode code 373 = .ok (.if_icmp .eq 405, 3) := by decide +kernel
theorem d_167_376 : decode code 376 = .ok (.iconst 0, 1) := by decide +kernel
theorem d_167_377 : decode code 377 = .ok (.ireturn, 1) := by decide +kernel
theorem d_167_378 : decode code 378 = .ok (.aload_n 1, 1) := by decide +kernel
theorem d_167_379 : decode code 379 = .ok (.invokevirtual 42, 3) := by decide +kernel
theorem d_167_382 : decode code 382 = .ok (.aload_n 2, 1) := by decide +kernel
theorem d_167_383 : decode code 383 = .ok (.invokevirtual 45, 3) := by decide +kernel
theorem d_167_386 : decode code 386 = .ok (.if_icmp .eq 392, 3) := by decide +kernel
theorem d_167_389 : decode code 389 = .ok (.iconst 0, 1) := by decide +kernel
theorem d_167_390 : decode code 390 = .ok (.ireturn, 1) := by decide +kernel
theorem d_167_391 : decode code 391 = .ok (.aload_n 1, 1) := by decide +kernel
theorem d_167_392 : decode code 392 = .ok (.aload_n 0, 1) := by decide +kernel
theorem d_167_393 : decode code 393 = .ok (.iload_n 3, 1) := by decide +kernel
theorem d_167_394 : decode code 394 = .ok (.iconst 1, 1) := by decide +kernel
theorem d_167_395 : decode code 395 = .ok (.iadd, 1) := by decide +kernel
theorem d_167_396 : decode code 396 = .ok (.iaload, 1) := by decide +kernel
theorem d_167_397 : decode code 397 = .ok (.aload_n 0, 1) := by decide +kernel
theorem d_167_398 : decode code 398 = .ok (.iload_n 3, 1) := by decide +kernel
theorem d_167_399 : decode code 399 = .ok (.iconst 2, 1) := by decide +kernel
theorem d_167_400 : decode code 400 = .ok (.iadd, 1) := by decide +kernel
theorem d_167_401 : decode code 401 = .ok (.iaload, 1) := by decide +kernel
theorem d_167_402 : decode code 402 = .ok (.aload_n 0, 1) := by decide +kernel
theorem d_167_403 : decode code 403 = .ok (.iload_n 3, 1) := by decide +kernel
theorem d_167_404 : decode code 404 = .ok (.iconst 3, 1) := by decide +kernel
theorem d_167_405 : decode code 405 = .ok (.iadd, 1) := by decide +kernel
theorem d_167_406 : decode code 406 = .ok (.iaload, 1) := by decide +kernel
theorem d_167_407 : decode code 407 = .ok (.aload_n 0, 1) := by decide +kernel
theorem d_167_408 : decode code 408 = .ok (.iload_n 3, 1) := by decide +kernel
theorem d_167_409 : decode code 409 = .ok (.iconst 4, 1) := by decide +kernel
theorem d_167_410 : decode code 410 = .ok (.iadd, 1) := by decide +kernel
theorem d_167_411 : decode code 411 = .ok (.iaload, 1) := by decide +kernel
theorem d_167_412 : decode code 412 = .ok (.invokevirtual 46, 3) := by decide +kernel
theorem d_167_415 : decode code 415 = .ok (.aload_n 2, 1) := by decide +kernel
theorem d_167_416 : decode code 416 = .ok (.aload_n 0, 1) := by decide +kernel
theorem d_167_417 : decode code 417 = .ok (.iload_n 3, 1) := by decide +kernel
theorem d_167_418 : decode code 418 = .ok (.iconst 1, 1) := by decide +kernel
theorem d_167_419 : decode code 419 = .ok (.iadd, 1) := by decide +kernel
theorem d_167_420 : decode code 420 = .ok (.iaload, 1) := by decide +kernel
theorem d_167_421 : decode code 421 = .ok (.aload_n 0, 1) := by decide +kernel
theorem d_167_422 : decode code 422 = .ok (.iload_n 3, 1) := by decide +kernel
theorem d_167_423 : decode code 423 = .ok (.iconst 2, 1) := by decide +kernel
theorem d_167_424 : decode code 424 = .ok (.iadd, 1) := by decide +kernel
theorem d_167_425 : decode code 425 = .ok (.iaload, 1) := by decide +kernel
theorem d_167_426 : decode code 426 = .ok (.aload_n 0, 1) := by decide +kernel
theorem d_167_427 : decode code 427 = .ok (.iload_n 3, 1) := by decide +kernel
theorem d_167_428 : decode code 428 = .ok (.iconst 3, 1) := by decide +kernel
theorem d_167_429 : decode code 429 = .ok (.iadd, 1) := by decide +kernel
theorem d_167_430 : decode code 430 = .ok (.iaload, 1) := by decide +kernel
theorem d_167_431 : decode code 431 = .ok (.aload_n 0, 1) := by decide +kernel
theorem d_167_432 : decode code 432 = .ok (.iload_n 3, 1) := by decide +kernel
theorem d_167_433 : decode code 433 = .ok (.iconst 4, 1) := by decide +kernel
theorem d_167_434 : decode code 434 = .ok (.iadd, 1) := by decide +kernel
theorem d_167_435 : decode code 435 = .ok (.iaload, 1) := by decide +kernel
theorem d_167_436 : decode code 436 = .ok (.invokevirtual 49, 3) := by decide +kernel
theorem d_167_439 : decode code 439 = .ok (.if_icmp .eq 339, 3) := by decide +kernel
theorem d_167_442 : decode code 442 = .ok (.iconst 0, 1) := by decide +kernel
theorem d_167_443 : decode code 443 = .ok (.ireturn, 1) := by decide +kernel
theorem d_167_444 : decode code 444 = .ok (.aload_n 1, 1) := by decide +kernel
theorem d_167_445 : decode code 445 = .ok (.aload_n 0, 1) := by decide +kernel
theorem d_167_446 : decode code 446 = .ok (.iload_n 3, 1) := by decide +kernel
theorem d_167_447 : decode code 447 = .ok (.iconst 1, 1) := by decide +kernel
theorem d_167_448 : decode code 448 = .ok (.iadd, 1) := by decide +kernel
theorem d_167_449 : decode code 449 = .ok (.iaload, 1) := by decide +kernel
theorem d_167_450 : decode code 450 = .ok (.aload_n 0, 1) := by decide +kernel
theorem d_167_451 : decode code 451 = .ok (.iload_n 3, 1) := by decide +kernel
theorem d_167_452 : decode code 452 = .ok (.iconst 2, 1) := by decide +kernel
theorem d_167_453 : decode code 453 = .ok (.iadd, 1) := by decide +kernel
theorem d_167_454 : decode code 454 = .ok (.iaload, 1) := by decide +kernel
theorem d_167_455 : decode code 455 = .ok (.aload_n 0, 1) := by decide +kernel
theorem d_167_456 : decode code 456 = .ok (.iload_n 3, 1) := by decide +kernel
theorem d_167_457 : decode code 457 = .ok (.iconst 3, 1) := by decide +kernel
theorem d_167_458 : decode code 458 = .ok (.iadd, 1) := by decide +kernel
theorem d_167_459 : decode code 459 = .ok (.iaload, 1) := by decide +kernel
theorem d_167_460 : decode code 460 = .ok (.invokevirtual 50, 3) := by decide +kernel
theorem d_167_463 : decode code 463 = .ok (.aload_n 2, 1) := by decide +kernel
theorem d_167_464 : decode code 464 = .ok (.aload_n 0, 1) := by decide +kernel
theorem d_167_465 : decode code 465 = .ok (.iload_n 3, 1) := by decide +kernel
theorem d_167_466 : decode code 466 = .ok (.iconst 1, 1) := by decide +kernel
theorem d_167_467 : decode code 467 = .ok (.iadd, 1) := by decide +kernel
theorem d_167_468 : decode code 468 = .ok (.iaload, 1) := by decide +kernel
theorem d_167_469 : decode code 469 = .ok (.aload_n 0, 1) := by decide +kernel
theorem d_167_470 : decode code 470 = .ok (.iload_n 3, 1) := by decide +kernel
theorem d_167_471 : decode code 471 = .ok (.iconst 2, 1) := by decide +kernel
theorem d_167_472 : decode code 472 = .ok (.iadd, 1) := by decide +kernel
theorem d_167_473 : decode code 473 = .ok (.iaload, 1) := by decide +kernel
theorem d_167_474 : decode code 474 = .ok (.aload_n 0, 1) := by decide +kernel
theorem d_167_475 : decode code 475 = .ok (.iload_n 3, 1) := by decide +kernel
theorem d_167_476 : decode code 476 = .ok (.iconst 3, 1) := by decide +kernel
theorem d_167_477 : decode code 477 = .ok (.iadd, 1) := by decide +kernel
theorem d_167_478 : decode code 478 = .ok (.iaload, 1) := by decide +kernel
theorem d_167_479 : decode code 479 = .ok (.invokevirtual 54, 3) := by decide +kernel
theorem d_167_482 : decode code 482 = .ok (.lcmp, 1) := by decide +kernel
theorem d_167_483 : decode code 483 = .ok (.ifCond .eq 295, 3) := by decide +kernel
theorem d_167_486 : decode code 486 = .ok (.iconst 0, 1) := by decide +kernel
theorem d_167_487 : decode code 487 = .ok (.ireturn, 1) := by decide +kernel
theorem d_167_488 : decode code 488 = .ok (.aload_n 1, 1) := by decide +kernel
theorem d_167_489 : decode code 489 = .ok (.aload_n 0, 1) := by decide +kernel
theorem d_167_490 : decode code 490 = .ok (.iload_n 3, 1) := by decide +kernel
theorem d_167_491 : decode code 491 = .ok (.iconst 1, 1) := by decide +kernel
theorem d_167_492 : decode code 492 = .ok (.iadd, 1) := by decide +kernel
theorem d_167_493 : decode code 493 = .ok (.iaload, 1) := by decide +kernel
theorem d_167_494 : decode code 494 = .ok (.aload_n 0, 1) := by decide +kernel
theorem d_167_495 : decode code 495 = .ok (.iload_n 3, 1) := by decide +kernel
theorem d_167_496 : decode code 496 = .ok (.iconst 2, 1) := by decide +kernel
theorem d_167_497 : decode code 497 = .ok (.iadd, 1) := by decide +kernel
theorem d_167_498 : decode code 498 = .ok (.iaload, 1) := by decide +kernel
theorem d_167_499 : decode code 499 = .ok (.aload_n 0, 1) := by decide +kernel
theorem d_167_500 : decode code 500 = .ok (.iload_n 3, 1) := by decide +kernel
theorem d_167_501 : decode code 501 = .ok (.iconst 3, 1) := by decide +kernel
theorem d_167_502 : decode code 502 = .ok (.iadd, 1) := by decide +kernel
theorem d_167_503 : decode code 503 = .ok (.iaload, 1) := by decide +kernel
theorem d_167_504 : decode code 504 = .ok (.aload_n 0, 1) := by decide +kernel
theorem d_167_505 : decode code 505 = .ok (.iload_n 3, 1) := by decide +kernel
theorem d_167_506 : decode code 506 = .ok (.iconst 4, 1) := by decide +kernel
theorem d_167_507 : decode code 507 = .ok (.iadd, 1) := by decide +kernel
theorem d_167_508 : decode code 508 = .ok (.iaload, 1) := by decide +kernel
theorem d_167_509 : decode code 509 = .ok (.invokevirtual 55, 3) := by decide +kernel
theorem d_167_512 : decode code 512 = .ok (.aload_n 2, 1) := by decide +kernel
theorem d_167_513 : decode code 513 = .ok (.aload_n 0, 1) := by decide +kernel
theorem d_167_514 : decode code 514 = .ok (.iload_n 3, 1) := by decide +kernel
theorem d_167_515 : decode code 515 = .ok (.iconst 1, 1) := by decide +kernel
theorem d_167_516 : decode code 516 = .ok (.iadd, 1) := by decide +kernel
theorem d_167_517 : decode code 517 = .ok (.iaload, 1) := by decide +kernel
theorem d_167_518 : decode code 518 = .ok (.aload_n 0, 1) := by decide +kernel
theorem d_167_519 : decode code 519 = .ok (.iload_n 3, 1) := by decide +kernel
theorem d_167_520 : decode code 520 = .ok (.iconst 2, 1) := by decide +kernel
theorem d_167_521 : decode code 521 = .ok (.iadd, 1) := by decide +kernel
theorem d_167_522 : decode code 522 = .ok (.iaload, 1) := by decide +kernel
theorem d_167_523 : decode code 523 = .ok (.aload_n 0, 1) := by decide +kernel
theorem d_167_524 : decode code 524 = .ok (.iload_n 3, 1) := by decide +kernel
theorem d_167_525 : decode code 525 = .ok (.iconst 3, 1) := by decide +kernel
theorem d_167_526 : decode code 526 = .ok (.iadd, 1) := by decide +kernel
theorem d_167_527 : decode code 527 = .ok (.iaload, 1) := by decide +kernel
theorem d_167_528 : decode code 528 = .ok (.aload_n 0, 1) := by decide +kernel
theorem d_167_529 : decode code 529 = .ok (.iload_n 3, 1) := by decide +kernel
theorem d_167_530 : decode code 530 = .ok (.iconst 4, 1) := by decide +kernel
theorem d_167_531 : decode code 531 = .ok (.iadd, 1) := by decide +kernel
theorem d_167_532 : decode code 532 = .ok (.iaload, 1) := by decide +kernel
theorem d_167_533 : decode code 533 = .ok (.invokevirtual 58, 3) := by decide +kernel
theorem d_167_536 : decode code 536 = .ok (.if_icmp .eq 242, 3) := by decide +kernel
theorem d_167_539 : decode code 539 = .ok (.iconst 0, 1) := by decide +kernel
theorem d_167_540 : decode code 540 = .ok (.ireturn, 1) := by decide +kernel
theorem d_167_541 : decode code 541 = .ok (.aload_n 1, 1) := by decide +kernel
theorem d_167_542 : decode code 542 = .ok (.aload_n 0, 1) := by decide +kernel
theorem d_167_543 : decode code 543 = .ok (.iload_n 3, 1) := by decide +kernel
theorem d_167_544 : decode code 544 = .ok (.iconst 1, 1) := by decide +kernel
theorem d_167_545 : decode code 545 = .ok (.iadd, 1) := by decide +kernel
theorem d_167_546 : decode code 546 = .ok (.iaload, 1) := by decide +kernel
theorem d_167_547 : decode code 547 = .ok (.aload_n 0, 1) := by decide +kernel
theorem d_167_548 : decode code 548 = .ok (.iload_n 3, 1) := by decide +kernel
theorem d_167_549 : decode code 549 = .ok (.iconst 2, 1) := by decide +kernel
theorem d_167_550 : decode code 550 = .ok (.iadd, 1) := by decide +kernel
theorem d_167_551 : decode code 551 = .ok (.iaload, 1) := by decide +kernel
theorem d_167_552 : decode code 552 = .ok (.aload_n 0, 1) := by decide +kernel
theorem d_167_553 : decode code 553 = .ok (.iload_n 3, 1) := by decide +kernel
theorem d_167_554 : decode code 554 = .ok (.iconst 3, 1) := by decide +kernel
theorem d_167_555 : decode code 555 = .ok (.iadd, 1) := by decide +kernel
theorem d_167_556 : decode code 556 = .ok (.iaload, 1) := by decide +kernel
theorem d_167_557 : decode code 557 = .ok (.invokevirtual 59, 3) := by decide +kernel
theorem d_167_560 : decode code 560 = .ok (.aload_n 2, 1) := by decide +kernel
theorem d_167_561 : decode code 561 = .ok (.aload_n 0, 1) := by decide +kernel
theorem d_167_562 : decode code 562 = .ok (.iload_n 3, 1) := by decide +kernel
theorem d_167_563 : decode code 563 = .ok (.iconst 1, 1) := by decide +kernel
theorem d_167_564 : decode code 564 = .ok (.iadd, 1) := by decide +kernel
theorem d_167_565 : decode code 565 = .ok (.iaload, 1) := by decide +kernel
theorem d_167_566 : decode code 566 = .ok (.aload_n 0, 1) := by decide +kernel
theorem d_167_567 : decode code 567 = .ok (.iload_n 3, 1) := by decide +kernel
theorem d_167_568 : decode code 568 = .ok (.iconst 2, 1) := by decide +kernel
theorem d_167_569 : decode code 569 = .ok (.iadd, 1) := by decide +kernel
theorem d_167_570 : decode code 570 = .ok (.iaload, 1) := by decide +kernel
theorem d_167_571 : decode code 571 = .ok (.aload_n 0, 1) := by decide +kernel
theorem d_167_572 : decode code 572 = .ok (.iload_n 3, 1) := by decide +kernel
theorem d_167_573 : decode code 573 = .ok (.iconst 3, 1) := by decide +kernel
theorem d_167_574 : decode code 574 = .ok (.iadd, 1) := by decide +kernel
theorem d_167_575 : decode code 575 = .ok (.iaload, 1) := by decide +kernel
theorem d_167_576 : decode code 576 = .ok (.invokevirtual 63, 3) := by decide +kernel
theorem d_167_579 : decode code 579 = .ok (.if_icmp .eq 199, 3) := by decide +kernel
theorem d_167_582 : decode code 582 = .ok (.iconst 0, 1) := by decide +kernel
theorem d_167_583 : decode code 583 = .ok (.ireturn, 1) := by decide +kernel
theorem d_167_584 : decode code 584 = .ok (.aload_n 1, 1) := by decide +kernel
theorem d_167_585 : decode code 585 = .ok (.aload_n 0, 1) := by decide +kernel
theorem d_167_586 : decode code 586 = .ok (.iload_n 3, 1) := by decide +kernel
theorem d_167_587 : decode code 587 = .ok (.iconst 1, 1) := by decide +kernel
theorem d_167_588 : decode code 588 = .ok (.iadd, 1) := by decide +kernel
theorem d_167_589 : decode code 589 = .ok (.iaload, 1) := by decide +kernel
theorem d_167_590 : decode code 590 = .ok (.aload_n 0, 1) := by decide +kernel
theorem d_167_591 : decode code 591 = .ok (.iload_n 3, 1) := by decide +kernel
theorem d_167_592 : decode code 592 = .ok (.iconst 2, 1) := by decide +kernel
theorem d_167_593 : decode code 593 = .ok (.iadd, 1) := by decide +kernel
theorem d_167_594 : decode code 594 = .ok (.iaload, 1) := by decide +kernel
theorem d_167_595 : decode code 595 = .ok (.invokevirtual 64, 3) := by decide +kernel
theorem d_167_598 : decode code 598 = .ok (.aload_n 2, 1) := by decide +kernel
theorem d_167_599 : decode code 599 = .ok (.aload_n 0, 1) := by decide +kernel
theorem d_167_600 : decode code 600 = .ok (.iload_n 3, 1) := by decide +kernel
theorem d_167_601 : decode code 601 = .ok (.iconst 1, 1) := by decide +kernel
theorem d_167_602 : decode code 602 = .ok (.iadd, 1) := by decide +kernel
theorem d_167_603 : decode code 603 = .ok (.iaload, 1) := by decide +kernel
theorem d_167_604 : decode code 604 = .ok (.aload_n 0, 1) := by decide +kernel
theorem d_167_605 : decode code 605 = .ok (.iload_n 3, 1) := by decide +kernel
theorem d_167_606 : decode code 606 = .ok (.iconst 2, 1) := by decide +kernel
theorem d_167_607 : decode code 607 = .ok (.iadd, 1) := by decide +kernel
theorem d_167_608 : decode code 608 = .ok (.iaload, 1) := by decide +kernel
theorem d_167_609 : decode code 609 = .ok (.invokevirtual 68, 3) := by decide +kernel
theorem d_167_612 : decode code 612 = .ok (.lcmp, 1) := by decide +kernel
theorem d_167_613 : decode code 613 = .ok (.ifCond .eq 165, 3) := by decide +kernel
theorem d_167_616 : decode code 616 = .ok (.iconst 0, 1) := by decide +kernel
theorem d_167_617 : decode code 617 = .ok (.ireturn, 1) := by decide +kernel
theorem d_167_618 : decode code 618 = .ok (.aload_n 1, 1) := by decide +kernel
theorem d_167_619 : decode code 619 = .ok (.invokevirtual 69, 3) := by decide +kernel
theorem d_167_622 : decode code 622 = .ok (.aload_n 2, 1) := by decide +kernel
theorem d_167_623 : decode code 623 = .ok (.invokevirtual 72, 3) := by decide +kernel
theorem d_167_626 : decode code 626 = .ok (.if_icmp .eq 152, 3) := by decide +kernel
theorem d_167_629 : decode code 629 = .ok (.iconst 0, 1) := by decide +kernel
theorem d_167_630 : decode code 630 = .ok (.ireturn, 1) := by decide +kernel
theorem d_167_631 : decode code 631 = .ok (.aload_n 1, 1) := by decide +kernel
theorem d_167_632 : decode code 632 = .ok (.invokevirtual 73, 3) := by decide +kernel
theorem d_167_635 : decode code 635 = .ok (.aload_n 2, 1) := by decide +kernel
theorem d_167_636 : decode code 636 = .ok (.invokevirtual 76, 3) := by decide +kernel
theorem d_167_639 : decode code 639 = .ok (.if_icmp .eq 139, 3) := by decide +kernel
theorem d_167_642 : decode code 642 = .ok (.iconst 0, 1) := by decide +kernel
theorem d_167_643 : decode code 643 = .ok (.ireturn, 1) := by decide +kernel
theorem d_167_644 : decode code 644 = .ok (.aload_n 1, 1) := by decide +kernel
theorem d_167_645 : decode code 645 = .ok (.aload_n 0, 1) := by decide +kernel
theorem d_167_646 : decode code 646 = .ok (.iload_n 3, 1) := by decide +kernel
theorem d_167_647 : decode code 647 = .ok (.iconst 1, 1) := by decide +kernel
theorem d_167_648 : decode code 648 = .ok (.iadd, 1) := by decide +kernel
theorem d_167_649 : decode code 649 = .ok (.iaload, 1) := by decide +kernel
theorem d_167_650 : decode code 650 = .ok (.invokevirtual 77, 3) := by decide +kernel
theorem d_167_653 : decode code 653 = .ok (.aload_n 2, 1) := by decide +kernel
theorem d_167_654 : decode code 654 = .ok (.aload_n 0, 1) := by decide +kernel
theorem d_167_655 : decode code 655 = .ok (.iload_n 3, 1) := by decide +kernel
theorem d_167_656 : decode code 656 = .ok (.iconst 1, 1) := by decide +kernel
theorem d_167_657 : decode code 657 = .ok (.iadd, 1) := by decide +kernel
theorem d_167_658 : decode code 658 = .ok (.iaload, 1) := by decide +kernel
theorem d_167_659 : decode code 659 = .ok (.invokevirtual 81, 3) := by decide +kernel
theorem d_167_662 : decode code 662 = .ok (.if_icmp .eq 116, 3) := by decide +kernel
theorem d_167_665 : decode code 665 = .ok (.iconst 0, 1) := by decide +kernel
theorem d_167_666 : decode code 666 = .ok (.ireturn, 1) := by decide +kernel
theorem d_167_667 : decode code 667 = .ok (.aload_n 1, 1) := by decide +kernel
theorem d_167_668 : decode code 668 = .ok (.aload_n 0, 1) := by decide +kernel
theorem d_167_669 : decode code 669 = .ok (.iload_n 3, 1) := by decide +kernel
theorem d_167_670 : decode code 670 = .ok (.iconst 1, 1) := by decide +kernel
theorem d_167_671 : decode code 671 = .ok (.iadd, 1) := by decide +kernel
theorem d_167_672 : decode code 672 = .ok (.iaload, 1) := by decide +kernel
theorem d_167_673 : decode code 673 = .ok (.invokevirtual 82, 3) := by decide +kernel
theorem d_167_676 : decode code 676 = .ok (.aload_n 2, 1) := by decide +kernel
theorem d_167_677 : decode code 677 = .ok (.aload_n 0, 1) := by decide +kernel
theorem d_167_678 : decode code 678 = .ok (.iload_n 3, 1) := by decide +kernel
theorem d_167_679 : decode code 679 = .ok (.iconst 1, 1) := by decide +kernel
theorem d_167_680 : decode code 680 = .ok (.iadd, 1) := by decide +kernel
theorem d_167_681 : decode code 681 = .ok (.iaload, 1) := by decide +kernel
theorem d_167_682 : decode code 682 = .ok (.invokevirtual 86, 3) := by decide +kernel
theorem d_167_685 : decode code 685 = .ok (.lcmp, 1) := by decide +kernel
theorem d_167_686 : decode code 686 = .ok (.ifCond .eq 92, 3) := by decide +kernel
theorem d_167_689 : decode code 689 = .ok (.iconst 0, 1) := by decide +kernel
theorem d_167_690 : decode code 690 = .ok (.ireturn, 1) := by decide +kernel
theorem d_167_691 : decode code 691 = .ok (.aload_n 1, 1) := by decide +kernel
theorem d_167_692 : decode code 692 = .ok (.aload_n 0, 1) := by decide +kernel
theorem d_167_693 : decode code 693 = .ok (.iload_n 3, 1) := by decide +kernel
theorem d_167_694 : decode code 694 = .ok (.iconst 1, 1) := by decide +kernel
theorem d_167_695 : decode code 695 = .ok (.iadd, 1) := by decide +kernel
theorem d_167_696 : decode code 696 = .ok (.iaload, 1) := by decide +kernel
theorem d_167_697 : decode code 697 = .ok (.i2l, 1) := by decide +kernel
theorem d_167_698 : decode code 698 = .ok (.bipush 32, 2) := by decide +kernel
theorem d_167_700 : decode code 700 = .ok (.lshl, 1) := by decide +kernel
theorem d_167_701 : decode code 701 = .ok (.aload_n 0, 1) := by decide +kernel
theorem d_167_702 : decode code 702 = .ok (.iload_n 3, 1) := by decide +kernel
theorem d_167_703 : decode code 703 = .ok (.iconst 2, 1) := by decide +kernel
theorem d_167_704 : decode code 704 = .ok (.iadd, 1) := by decide +kernel
theorem d_167_705 : decode code 705 = .ok (.iaload, 1) := by decide +kernel
theorem d_167_706 : decode code 706 = .ok (.i2l, 1) := by decide +kernel
theorem d_167_707 : decode code 707 = .ok (.ldc2_w 87, 3) := by decide +kernel
theorem d_167_710 : decode code 710 = .ok (.land, 1) := by decide +kernel
theorem d_167_711 : decode code 711 = .ok (.lor, 1) := by decide +kernel
theorem d_167_712 : decode code 712 = .ok (.aload_n 0, 1) := by decide +kernel
theorem d_167_713 : decode code 713 = .ok (.iload_n 3, 1) := by decide +kernel
theorem d_167_714 : decode code 714 = .ok (.iconst 3, 1) := by decide +kernel
theorem d_167_715 : decode code 715 = .ok (.iadd, 1) := by decide +kernel
theorem d_167_716 : decode code 716 = .ok (.iaload, 1) := by decide +kernel
theorem d_167_717 : decode code 717 = .ok (.invokevirtual 89, 3) := by decide +kernel
theorem d_167_720 : decode code 720 = .ok (.aload_n 2, 1) := by decide +kernel
theorem d_167_721 : decode code 721 = .ok (.aload_n 0, 1) := by decide +kernel
theorem d_167_722 : decode code 722 = .ok (.iload_n 3, 1) := by decide +kernel
theorem d_167_723 : decode code 723 = .ok (.iconst 1, 1) := by decide +kernel
theorem d_167_724 : decode code 724 = .ok (.iadd, 1) := by decide +kernel
theorem d_167_725 : decode code 725 = .ok (.iaload, 1) := by decide +kernel
theorem d_167_726 : decode code 726 = .ok (.i2l, 1) := by decide +kernel
theorem d_167_727 : decode code 727 = .ok (.bipush 32, 2) := by decide +kernel
theorem d_167_729 : decode code 729 = .ok (.lshl, 1) := by decide +kernel
theorem d_167_730 : decode code 730 = .ok (.aload_n 0, 1) := by decide +kernel
theorem d_167_731 : decode code 731 = .ok (.iload_n 3, 1) := by decide +kernel
theorem d_167_732 : decode code 732 = .ok (.iconst 2, 1) := by decide +kernel
theorem d_167_733 : decode code 733 = .ok (.iadd, 1) := by decide +kernel
theorem d_167_734 : decode code 734 = .ok (.iaload, 1) := by decide +kernel
theorem d_167_735 : decode code 735 = .ok (.i2l, 1) := by decide +kernel
theorem d_167_736 : decode code 736 = .ok (.ldc2_w 87, 3) := by decide +kernel
theorem d_167_739 : decode code 739 = .ok (.land, 1) := by decide +kernel
theorem d_167_740 : decode code 740 = .ok (.lor, 1) := by decide +kernel
theorem d_167_741 : decode code 741 = .ok (.aload_n 0, 1) := by decide +kernel
theorem d_167_742 : decode code 742 = .ok (.iload_n 3, 1) := by decide +kernel
theorem d_167_743 : decode code 743 = .ok (.iconst 3, 1) := by decide +kernel
theorem d_167_744 : decode code 744 = .ok (.iadd, 1) := by decide +kernel
theorem d_167_745 : decode code 745 = .ok (.iaload, 1) := by decide +kernel
theorem d_167_746 : decode code 746 = .ok (.invokevirtual 93, 3) := by decide +kernel
theorem d_167_749 : decode code 749 = .ok (.if_icmp .eq 29, 3) := by decide +kernel
theorem d_167_752 : decode code 752 = .ok (.iconst 0, 1) := by decide +kernel
theorem d_167_753 : decode code 753 = .ok (.ireturn, 1) := by decide +kernel
theorem d_167_754 : decode code 754 = .ok (.aload_n 1, 1) := by decide +kernel
theorem d_167_755 : decode code 755 = .ok (.invokevirtual 94, 3) := by decide +kernel
theorem d_167_758 : decode code 758 = .ok (.aload_n 2, 1) := by decide +kernel
theorem d_167_759 : decode code 759 = .ok (.invokevirtual 97, 3) := by decide +kernel
theorem d_167_762 : decode code 762 = .ok (.goto 16, 3) := by decide +kernel
theorem d_167_765 : decode code 765 = .ok (.aload_n 1, 1) := by decide +kernel
theorem d_167_766 : decode code 766 = .ok (.invokevirtual 98, 3) := by decide +kernel
theorem d_167_769 : decode code 769 = .ok (.aload_n 2, 1) := by decide +kernel
theorem d_167_770 : decode code 770 = .ok (.invokevirtual 101, 3) := by decide +kernel
theorem d_167_773 : decode code 773 = .ok (.if_icmp .eq 5, 3) := by decide +kernel
theorem d_167_776 : decode code 776 = .ok (.iconst 0, 1) := by decide +kernel
theorem d_167_777 : decode code 777 = .ok (.ireturn, 1) := by decide +kernel
theorem d_167_778 : decode code 778 = .ok (.iinc 3 6, 3) := by decide +kernel
theorem d_167_781 : decode code 781 = .ok (.goto (-763), 3) := by decide +kernel
theorem d_167_784 : decode code 784 = .ok (.iconst 1, 1) := by decide +kernel
theorem d_167_785 : decode code 785 = .ok (.ireturn, 1) := by decide +kernel
