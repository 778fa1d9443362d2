theorem d_111_85 : decode prog_8_method_34_code 85 = .ok (.iconst 1, 1) := by decide +kernel
theorem d_111_86 : decode prog_8_method_34_code 86 = .ok (.iadd, 1) := by decide +kernel
theorem d_111_87 : decode prog_8_method_34_code 87 = .ok (.istore 7, 2) := by decide +kernel
theorem d_111_89 : decode prog_8_method_34_code 89 = .ok (.iload 6, 2) := by decide +kernel
theorem d_111_91 : decode prog_8_method_34_code 91 = .ok (.iconst 3, 1) := by decide +kernel
theorem d_111_92 : decode prog_8_method_34_code 92 = .ok (.iload 7, 2) := by decide +kernel
theorem d_111_94 : decode prog_8_method_34_code 94 = .ok (.imul, 1) := by decide +kernel
theorem d_111_95 : decode prog_8_method_34_code 95 = .ok (.aload_n 0, 1) := by decide +kernel
theorem d_111_96 : decode prog_8_method_34_code 96 = .ok (.getfield 34, 3) := by decide +kernel
theorem d_111_99 : decode prog_8_method_34_code 99 = .ok (.iload 7, 2) := by decide +kernel
theorem d_111_101 : decode prog_8_method_34_code 101 = .ok (.iaload, 1) := by decide +kernel
theorem d_111_102 : decode prog_8_method_34_code 102 = .ok (.iadd, 1) := by decide +kernel
theorem d_111_103 : decode prog_8_method_34_code 103 = .ok (.if_icmp .ne 28, 3) := by decide +kernel
theorem d_111_106 : decode prog_8_method_34_code 106 = .ok (.aload_n 0, 1) := by decide +kernel
theorem d_111_107 : decode prog_8_method_34_code 107 = .ok (.getfield 34, 3) := by decide +kernel
theorem d_111_110 : decode prog_8_method_34_code 110 = .ok (.iload 7, 2) := by decide +kernel
theorem d_111_112 : decode prog_8_method_34_code 112 = .ok (.iaload, 1) := by decide +kernel
theorem d_111_113 : decode prog_8_method_34_code 113 = .ok (.iconst 3, 1) := by decide +kernel
theorem d_111_114 : decode prog_8_method_34_code 114 = .ok (.if_icmp .ne 6, 3) := by decide +kernel
theorem d_111_117 : decode prog_8_method_34_code 117 = .ok (.bipush (-5), 2) := by decide +kernel
theorem d_111_119 : decode prog_8_method_34_code 119 = .ok (.ireturn, 1) := by decide +kernel
theorem d_111_120 : decode prog_8_method_34_code 120 = .ok (.aload_n 0, 1) := by decide +kernel
theorem d_111_121 : decode prog_8_method_34_code 121 = .ok (.getfield 34, 3) := by decide +kernel
theorem d_111_124 : decode prog_8_method_34_code 124 = .ok (.iload 7, 2) := by decide +kernel
theorem d_111_126 : decode prog_8_method_34_code 126 = .ok (.dup2, 1) := by decide +kernel
theorem d_111_127 : decode prog_8_method_34_code 127 = .ok (.iaload, 1) := by decide +kernel
theorem d_111_128 : decode prog_8_method_34_code 128 = .ok (.iconst 1, 1) := by decide +kernel
theorem d_111_129 : decode prog_8_method_34_code 129 = .ok (.iadd, 1) := by decide +kernel
theorem d_111_130 : decode prog_8_method_34_code 130 = .ok (.iastore, 1) := by decide +kernel
theorem d_111_131 : decode prog_8_method_34_code 131 = .ok (.aload_n 0, 1) := by decide +kernel
theorem d_111_132 : decode prog_8_method_34_code 132 = .ok (.getfield 37, 3) := by decide +kernel
theorem d_111_135 : decode prog_8_method_34_code 135 = .ok (.iload 6, 2) := by decide +kernel
theorem d_111_137 : decode prog_8_method_34_code 137 = .ok (.iload_n 2, 1) := by decide +kernel
theorem d_111_138 : decode prog_8_method_34_code 138 = .ok (.iastore, 1) := by decide +kernel
theorem d_111_139 : decode prog_8_method_34_code 139 = .ok (.aload_n 0, 1) := by decide +kernel
theorem d_111_140 : decode prog_8_method_34_code 140 = .ok (.getfield 40, 3) := by decide +kernel
theorem d_111_143 : decode prog_8_method_34_code 143 = .ok (.iload 6, 2) := by decide +kernel
theorem d_111_145 : decode prog_8_method_34_code 145 = .ok (.iload_n 3, 1) := by decide +kernel
theorem d_111_146 : decode prog_8_method_34_code 146 = .ok (.iastore, 1) := by decide +kernel
theorem d_111_147 : decode prog_8_method_34_code 147 = .ok (.aload_n 0, 1) := by decide +kernel
theorem d_111_148 : decode prog_8_method_34_code 148 = .ok (.getfield 43, 3) := by decide +kernel
theorem d_111_151 : decode prog_8_method_34_code 151 = .ok (.iload 6, 2) := by decide +kernel
theorem d_111_153 : decode prog_8_method_34_code 153 = .ok (.iload 4, 2) := by decide +kernel
theorem d_111_155 : decode prog_8_method_34_code 155 = .ok (.iastore, 1) := by decide +kernel
theorem d_111_156 : decode prog_8_method_34_code 156 = .ok (.aload_n 0, 1) := by decide +kernel
theorem d_111_157 : decode prog_8_method_34_code 157 = .ok (.getfield 46, 3) := by decide +kernel
theorem d_111_160 : decode prog_8_method_34_code 160 = .ok (.iload 6, 2) := by decide +kernel
theorem d_111_162 : decode prog_8_method_34_code 162 = .ok (.iload 5, 2) := by decide +kernel
theorem d_111_164 : decode prog_8_method_34_code 164 = .ok (.iastore, 1) := by decide +kernel
theorem d_111_165 : decode prog_8_method_34_code 165 = .ok (.iconst 0, 1) := by decide +kernel
theorem d_111_166 : decode prog_8_method_34_code 166 = .ok (.ireturn, 1) := by decide +kernel
theorem d_112_0 : decode prog_8_method_26_code 0 = .ok (.iload_n 1, 1) := by decide +kernel
theorem d_112_1 : decode prog_8_method_26_code 1 = .ok (.ifCond .lt 20, 3) := by decide +kernel
theorem d_112_4 : decode prog_8_method_26_code 4 = .ok (.iload_n 1, 1) := by decide +kernel
theorem d_112_5 : decode prog_8_method_26_code 5 = .ok (.aload_n 0, 1) := by decide +kernel
theorem d_112_6 : decode prog_8_method_26_code 6 = .ok (.getfield 19, 3) := by decide +kernel
theorem d_112_9 : decode prog_8_method_26_code 9 = .ok (.aload_n 0, 1) := by decide +kernel
theorem d_112_10 : decode prog_8_method_26_code 10 = .ok (.getfield 137, 3) := by decide +kernel
theorem d_112_13 : decode prog_8_method_26_code 13 = .ok (.iaload, 1) := by decide +kernel
theorem d_112_14 : decode prog_8_method_26_code 14 = .ok (.if_icmp .ge 7, 3) := by decide +kernel
theorem d_112_17 : decode prog_8_method_26_code 17 = .ok (.iconst 1, 1) := by decide +kernel
theorem d_112_18 : decode prog_8_method_26_code 18 = .ok (.goto 4, 3) := by decide +kernel
theorem d_112_21 : decode prog_8_method_26_code 21 = .ok (.iconst 0, 1) := by decide +kernel
theorem d_112_22 : decode prog_8_method_26_code 22 = .ok (.ireturn, 1) := by decide +kernel
theorem d_113_0 : decode prog_8_method_5_code 0 = .ok (.iload_n 0, 1) := by decide +kernel
theorem d_113_1 : decode prog_8_method_5_code 1 = .ok (.iconst 4, 1) := by decide +kernel
theorem d_113_2 : decode prog_8_method_5_code 2 = .ok (.if_icmp .eq 55, 3) := by decide +kernel
theorem d_113_5 : decode prog_8_method_5_code 5 = .ok (.iload_n 0, 1) := by decide +kernel
theorem d_113_6 : decode prog_8_method_5_code 6 = .ok (.iconst 3, 1) := by decide +kernel
theorem d_113_7 : decode prog_8_method_5_code 7 = .ok (.if_icmp .ne 17, 3) := by decide +kernel
theorem d_113_10 : decode prog_8_method_5_code 10 = .ok (.iload_n 1, 1) := by decide +kernel
theorem d_113_11 : decode prog_8_method_5_code 11 = .ok (.sipush (-32768), 3) := by decide +kernel
theorem d_113_14 : decode prog_8_method_5_code 14 = .ok (.if_icmp .lt 10, 3) := by decide +kernel
theorem d_113_17 : decode prog_8_method_5_code 17 = .ok (.iload_n 1, 1) := by decide +kernel
theorem d_113_18 : decode prog_8_method_5_code 18 = .ok (.sipush 32767, 3) := by decide +kernel
theorem d_113_21 : decode prog_8_method_5_code 21 = .ok (.if_icmp .le 36, 3) := by decide +kernel
theorem d_113_24 : decode prog_8_method_5_code 24 = .ok (.iload_n 0, 1) := by decide +kernel
theorem d_113_25 : decode prog_8_method_5_code 25 = .ok (.iconst 2, 1) := by decide +kernel
theorem d_113_26 : decode prog_8_method_5_code 26 = .ok (.if_icmp .ne 14, 3) := by decide +kernel
theorem d_113_29 : decode prog_8_method_5_code 29 = .ok (.iload_n 1, 1) := by decide +kernel
theorem d_113_30 : decode prog_8_method_5_code 30 = .ok (.ifCond .lt 10, 3) := by decide +kernel
theorem d_113_33 : decode prog_8_method_5_code 33 = .ok (.iload_n 1, 1) := by decide +kernel
theorem d_113_34 : decode prog_8_method_5_code 34 = .ok (.sipush 255, 3) := by decide +kernel
theorem d_113_37 : decode prog_8_method_5_code 37 = .ok (.if_icmp .le 20, 3) := by decide +kernel
theorem d_113_40 : decode prog_8_method_5_code 40 = .ok (.iload_n 0, 1) := by decide +kernel
theorem d_113_41 : decode prog_8_method_5_code 41 = .ok (.iconst 1, 1) := by decide +kernel
theorem d_113_42 : decode prog_8_method_5_code 42 = .ok (.if_icmp .ne 19, 3) := by decide +kernel
theorem d_113_45 : decode prog_8_method_5_code 45 = .ok (.iload_n 1, 1) := by decide +kernel
theorem d_113_46 : decode prog_8_method_5_code 46 = .ok (.bipush (-128), 2) := by decide +kernel
theorem d_113_48 : decode prog_8_method_5_code 48 = .ok (.if_icmp .lt 13, 3) := by decide +kernel
theorem d_113_51 : decode prog_8_method_5_code 51 = .ok (.iload_n 1, 1) := by decide +kernel
theorem d_113_52 : decode prog_8_method_5_code 52 = .ok (.bipush 127, 2) := by decide +kernel
theorem d_113_54 : decode prog_8_method_5_code 54 = .ok (.if_icmp .gt 7, 3) := by decide +kernel
theorem d_113_57 : decode prog_8_method_5_code 57 = .ok (.iconst 1, 1) := by decide +kernel
theorem d_113_58 : decode prog_8_method_5_code 58 = .ok (.goto 4, 3) := by decide +kernel
theorem d_113_61 : decode prog_8_method_5_code 61 = .ok (.iconst 0, 1) := by decide +kernel
theorem d_113_62 : decode prog_8_method_5_code 62 = .ok (.ireturn, 1) := by decide +kernel
theorem d_114_0 : decode prog_8_method_33_code 0 = .ok (.bipush 18, 2) := by decide +kernel
theorem d_114_2 : decode prog_8_method_33_code 2 = .ok (.aload_n 0, 1) := by decide +kernel
theorem d_114_3 : decode prog_8_method_33_code 3 = .ok (.getfield 137, 3) := by decide +kernel
theorem d_114_6 : decode prog_8_method_33_code 6 = .ok (.imul, 1) := by decide +kernel
theorem d_114_7 : decode prog_8_method_33_code 7 = .ok (.iconst 3, 1) := by decide +kernel
theorem d_114_8 : decode prog_8_method_33_code 8 = .ok (.iload_n 1, 1) := by decide +kernel
theorem d_114_9 : decode prog_8_method_33_code 9 = .ok (.imul, 1) := by decide +kernel
theorem d_114_10 : decode prog_8_method_33_code 10 = .ok (.iadd, 1) := by decide +kernel
theorem d_114_11 : decode prog_8_method_33_code 11 = .ok (.istore_n 3, 1) := by decide +kernel
theorem d_114_12 : decode prog_8_method_33_code 12 = .ok (.iload_n 3, 1) := by decide +kernel
theorem d_114_13 : decode prog_8_method_33_code 13 = .ok (.aload_n 0, 1) := by decide +kernel
theorem d_114_14 : decode prog_8_method_33_code 14 = .ok (.getfield 34, 3) := by decide +kernel
theorem d_114_17 : decode prog_8_method_33_code 17 = .ok (.bipush 6, 2) := by decide +kernel
theorem d_114_19 : decode prog_8_method_33_code 19 = .ok (.aload_n 0, 1) := by decide +kernel
theorem d_114_20 : decode prog_8_method_33_code 20 = .ok (.getfield 137, 3) := by decide +kernel
theorem d_114_23 : decode prog_8_method_33_code 23 = .ok (.imul, 1) := by decide +kernel
theorem d_114_24 : decode prog_8_method_33_code 24 = .ok (.iload_n 1, 1) := by decide +kernel
theorem d_114_25 : decode prog_8_method_33_code 25 = .ok (.iadd, 1) := by decide +kernel
theorem d_114_26 : decode prog_8_method_33_code 26 = .ok (.iaload, 1) := by decide +kernel
theorem d_114_27 : decode prog_8_method_33_code 27 = .ok (.iadd, 1) := by decide +kernel
theorem d_114_28 : decode prog_8_method_33_code 28 = .ok (.istore 4, 2) := by decide +kernel
theorem d_114_30 : decode prog_8_method_33_code 30 = .ok (.iload_n 3, 1) := by decide +kernel
theorem d_114_31 : decode prog_8_method_33_code 31 = .ok (.iload 4, 2) := by decide +kernel
theorem d_114_33 : decode prog_8_method_33_code 33 = .ok (.if_icmp .ge 19, 3) := by decide +kernel
theorem d_114_36 : decode prog_8_method_33_code 36 = .ok (.aload_n 0, 1) := by decide +kernel
theorem d_114_37 : decode prog_8_method_33_code 37 = .ok (.getfield 37, 3) := by decide +kernel
theorem d_114_40 : decode prog_8_method_33_code 40 = .ok (.iload_n 3, 1) := by decide +kernel
theorem d_114_41 : decode prog_8_method_33_code 41 = .ok (.iaload, 1) := by decide +kernel
theorem d_114_42 : decode prog_8_method_33_code 42 = .ok (.iload_n 2, 1) := by decide +kernel
theorem d_114_43 : decode prog_8_method_33_code 43 = .ok (.if_icmp .eq 9, 3) := by decide +kernel
theorem d_114_46 : decode prog_8_method_33_code 46 = .ok (.iinc 3 1, 3) := by decide +kernel
theorem d_114_49 : decode prog_8_method_33_code 49 = .ok (.goto (-19), 3) := by decide +kernel
theorem d_114_52 : decode prog_8_method_33_code 52 = .ok (.iload_n 3, 1) := by decide +kernel
theorem d_114_53 : decode prog_8_method_33_code 53 = .ok (.ireturn, 1) := by decide +kernel
theorem d_115_0 : decode prog_8_method_35_code 0 = .ok (.aload_n 0, 1) := by decide +kernel
theorem d_115_1 : decode prog_8_method_35_code 1 = .ok (.getfield 140, 3) := by decide +kernel
theorem d_115_4 : decode prog_8_method_35_code 4 = .ok (.ifCond .eq 5, 3) := by decide +kernel
theorem d_115_7 : decode prog_8_method_35_code 7 = .ok (.iconst (-1), 1) := by decide +kernel
theorem d_115_8 : decode prog_8_method_35_code 8 = .ok (.ireturn, 1) := by decide +kernel
theorem d_115_9 : decode prog_8_method_35_code 9 = .ok (.iload_n 1, 1) := by decide +kernel
theorem d_115_10 : decode prog_8_method_35_code 10 = .ok (.iconst (-1), 1) := by decide +kernel
theorem d_115_11 : decode prog_8_method_35_code 11 = .ok (.if_icmp .eq 14, 3) := by decide +kernel
theorem d_115_14 : decode prog_8_method_35_code 14 = .ok (.aload_n 0, 1) := by decide +kernel
theorem d_115_15 : decode prog_8_method_35_code 15 = .ok (.iload_n 1, 1) := by decide +kernel
theorem d_115_16 : decode prog_8_method_35_code 16 = .ok (.invokevirtual 167, 3) := by decide +kernel
theorem d_115_19 : decode prog_8_method_35_code 19 = .ok (.ifCond .ne 6, 3) := by decide +kernel
theorem d_115_22 : decode prog_8_method_35_code 22 = .ok (.bipush (-3), 2) := by decide +kernel
theorem d_115_24 : decode prog_8_method_35_code 24 = .ok (.ireturn, 1) := by decide +kernel
theorem d_115_25 : decode prog_8_method_35_code 25 = .ok (.aload_n 0, 1) := by decide +kernel
theorem d_115_26 : decode prog_8_method_35_code 26 = .ok (.iload_n 1, 1) := by decide +kernel
theorem d_115_27 : decode prog_8_method_35_code 27 = .ok (.iconst 1, 1) := by decide +kernel
theorem d_115_28 : decode prog_8_method_35_code 28 = .ok (.iadd, 1) := by decide +kernel
theorem d_115_29 : decode prog_8_method_35_code 29 = .ok (.iload_n 2, 1) := by decide +kernel
theorem d_115_30 : decode prog_8_method_35_code 30 = .ok (.invokevirtual 173, 3) := by decide +kernel
theorem d_115_33 : decode prog_8_method_35_code 33 = .ok (.istore_n 3, 1) := by decide +kernel
theorem d_115_34 : decode prog_8_method_35_code 34 = .ok (.bipush 6, 2) := by decide +kernel
theorem d_115_36 : decode prog_8_method_35_code 36 = .ok (.aload_n 0, 1) := by decide +kernel
theorem d_115_37 : decode prog_8_method_35_code 37 = .ok (.getfield 137, 3) := by decide +kernel
theorem d_115_40 : decode prog_8_method_35_code 40 = .ok (.imul, 1) := by decide +kernel
theorem d_115_41 : decode prog_8_method_35_code 41 = .ok (.iload_n 1, 1) := by decide +kernel
theorem d_115_42 : decode prog_8_method_35_code 42 = .ok (.iadd, 1) := by decide +kernel
theorem d_115_43 : decode prog_8_method_35_code 43 = .ok (.iconst 1, 1) := by decide +kernel
theorem d_115_44 : decode prog_8_method_35_code 44 = .ok (.iadd, 1) := by decide +kernel
theorem d_115_45 : decode prog_8_method_35_code 45 = .ok (.istore 4, 2) := by decide +kernel
theorem d_115_47 : decode prog_8_method_35_code 47 = .ok (.iconst 3, 1) := by decide +kernel
theorem d_115_48 : decode prog_8_method_35_code 48 = .ok (.iload 4, 2) := by decide +kernel
theorem d_115_50 : decode prog_8_method_35_code 50 = .ok (.imul, 1) := by decide +kernel
theorem d_115_51 : decode prog_8_method_35_code 51 = .ok (.aload_n 0, 1) := by decide +kernel
theorem d_115_52 : decode prog_8_method_35_code 52 = .ok (.getfield 34, 3) := by decide +kernel
theorem d_115_55 : decode prog_8_method_35_code 55 = .ok (.iload 4, 2) := by decide +kernel
theorem d_115_57 : decode prog_8_method_35_code 57 = .ok (.iaload, 1) := by decide +kernel
theorem d_115_58 : decode prog_8_method_35_code 58 = .ok (.iadd, 1) := by decide +kernel
theorem d_115_59 : decode prog_8_method_35_code 59 = .ok (.iconst 1, 1) := by decide +kernel
theorem d_115_60 : decode prog_8_method_35_code 60 = .ok (.isub, 1) := by decide +kernel
theorem d_115_61 : decode prog_8_method_35_code 61 = .ok (.istore 5, 2) := by decide +kernel
theorem d_115_63 : decode prog_8_method_35_code 63 = .ok (.iload_n 3, 1) := by decide +kernel
theorem d_115_64 : decode prog_8_method_35_code 64 = .ok (.iload 5, 2) := by decide +kernel
theorem d_115_66 : decode prog_8_method_35_code 66 = .ok (.if_icmp .le 6, 3) := by decide +kernel
theorem d_115_69 : decode prog_8_method_35_code 69 = .ok (.bipush (-3), 2) := by decide +kernel
theorem d_115_71 : decode prog_8_method_35_code 71 = .ok (.ireturn, 1) := by decide +kernel
theorem d_115_72 : decode prog_8_method_35_code 72 = .ok (.iload_n 3, 1) := by decide +kernel
theorem d_115_73 : decode prog_8_method_35_code 73 = .ok (.istore 6, 2) := by decide +kernel
theorem d_115_75 : decode prog_8_method_35_code 75 = .ok (.iload 6, 2) := by decide +kernel
theorem d_115_77 : decode prog_8_method_35_code 77 = .ok (.iload 5, 2) := by decide +kernel
theorem d_115_79 : decode prog_8_method_35_code 79 = .ok (.if_icmp .ge 73, 3) := by decide +kernel
theorem d_115_82 : decode prog_8_method_35_code 82 = .ok (.aload_n 0, 1) := by decide +kernel
theorem d_115_83 : decode prog_8_method_35_code 83 = .ok (.getfield 37, 3) := by decide +kernel
theorem d_115_86 : decode prog_8_method_35_code 86 = .ok (.iload 6, 2) := by decide +kernel
theorem d_115_88 : decode prog_8_method_35_code 88 = .ok (.aload_n 0, 1) := by decide +kernel
theorem d_115_89 : decode prog_8_method_35_code 89 = .ok (.getfield 37, 3) := by decide +kernel
theorem d_115_92 : decode prog_8_method_35_code 92 = .ok (.iload 6, 2) := by decide +kernel
theorem d_115_94 : decode prog_8_method_35_code 94 = .ok (.iconst 1, 1) := by decide +kernel
theorem d_115_95 : decode prog_8_method_35_code 95 = .ok (.iadd, 1) := by decide +kernel
theorem d_115_96 : decode prog_8_method_35_code 96 = .ok (.iaload, 1) := by decide +kernel
theorem d_115_97 : decode prog_8_method_35_code 97 = .ok (.iastore, 1) := by decide +kernel
theorem d_115_98 : decode prog_8_method_35_code 98 = .ok (.aload_n 0, 1) := by decide +kernel
theorem d_115_99 : decode prog_8_method_35_code 99 = .ok (.getfield 40, 3) := by decide +kernel
theorem d_115_102 : decode prog_8_method_35_code 102 = .ok (.iload 6, 2) := by decide +kernel
theorem d_115_104 : decode prog_8_method_35_code 104 = .ok (.aload_n 0, 1) := by decide +kernel
theorem d_115_105 : decode prog_8_method_35_code 105 = .ok (.getfield 40, 3) := by decide +kernel
theorem d_115_108 : decode prog_8_method_35_code 108 = .ok (.iload 6, 2) := by decide +kernel
theorem d_115_110 : decode prog_8_method_35_code 110 = .ok (.iconst 1, 1) := by decide +kernel
theorem d_115_111 : decode prog_8_method_35_code 111 = .ok (.iadd, 1) := by decide +kernel
theorem d_115_112 : decode prog_8_method_35_code 112 = .ok (.iaload, 1) := by decide +kernel
theorem d_115_113 : decode prog_8_method_35_code 113 = .ok (.iastore, 1) := by decide +kernel
theorem d_115_114 : decode prog_8_method_35_code 114 = .ok (.aload_n 0, 1) := by decide +kernel
theorem d_115_115 : decode prog_8_method_35_code 115 = .ok (.getfield 43, 3) := by decide +kernel
theorem d_115_118 : decode prog_8_method_35_code 118 = .ok (.iload 6, 2) := by decide +kernel
theorem d_115_120 : decode prog_8_method_35_code 120 = .ok (.aload_n 0, 1) := by decide +kernel
theorem d_115_121 : decode prog_8_method_35_code 121 = .ok (.getfield 43, 3) := by decide +kernel
theorem d_115_124 : decode prog_8_method_35_code 124 = .ok (.iload 6, 2) := by decide +kernel
theorem d_115_126 : decode prog_8_method_35_code 126 = .ok (.iconst 1, 1) := by decide +kernel
theorem d_115_127 : decode prog_8_method_35_code 127 = .ok (.iadd, 1) := by decide +kernel
theorem d_115_128 : decode prog_8_method_35_code 128 = .ok (.iaload, 1) := by decide +kernel
theorem d_115_129 : decode prog_8_method_35_code 129 = .ok (.iastore, 1) := by decide +kernel
theorem d_115_130 : decode prog_8_method_35_code 130 = .ok (.aload_n 0, 1) := by decide +kernel
theorem d_115_131 : decode prog_8_method_35_code 131 = .ok (.getfield 46, 3) := by decide +kernel
theorem d_115_134 : decode prog_8_method_35_code 134 = .ok (.iload 6, 2) := by decide +kernel
theorem d_115_136 : decode prog_8_method_35_code 136 = .ok (.aload_n 0, 1) := by decide +kernel
theorem d_115_137 : decode prog_8_method_35_code 137 = .ok (.getfield 46, 3) := by decide +kernel
theorem d_115_140 : decode prog_8_method_35_code 140 = .ok (.iload 6, 2) := by decide +kernel
theorem d_115_142 : decode prog_8_method_35_code 142 = .ok (.iconst 1, 1) := by decide +kernel
theorem d_115_143 : decode prog_8_method_35_code 143 = .ok (.iadd, 1) := by decide +kernel
theorem d_115_144 : decode prog_8_method_35_code 144 = .ok (.iaload, 1) := by decide +kernel
theorem d_115_145 : decode prog_8_method_35_code 145 = .ok (.iastore, 1) := by decide +kernel
theorem d_115_146 : decode prog_8_method_35_code 146 = .ok (.iinc 6 1, 3) := by decide +kernel
theorem d_115_149 : decode prog_8_method_35_code 149 = .ok (.goto (-74), 3) := by decide +kernel
theorem d_115_152 : decode prog_8_method_35_code 152 = .ok (.aload_n 0, 1) := by decide +kernel
theorem d_115_153 : decode prog_8_method_35_code 153 = .ok (.getfield 34, 3) := by decide +kernel
theorem d_115_156 : decode prog_8_method_35_code 156 = .ok (.iload 4, 2) := by decide +kernel
theorem d_115_158 : decode prog_8_method_35_code 158 = .ok (.dup2, 1) := by decide +kernel
theorem d_115_159 : decode prog_8_method_35_code 159 = .ok (.iaload, 1) := by decide +kernel
theorem d_115_160 : decode prog_8_method_35_code 160 = .ok (.iconst 1, 1) := by decide +kernel
theorem d_115_161 : decode prog_8_method_35_code 161 = .ok (.isub, 1) := by decide +kernel
theorem d_115_162 : decode prog_8_method_35_code 162 = .ok (.iastore, 1) := by decide +kernel
theorem d_115_163 : decode prog_8_method_35_code 163 = .ok (.iconst 0, 1) := by decide +kernel
theorem d_115_164 : decode prog_8_method_35_code 164 = .ok (.ireturn, 1) := by decide +kernel
theorem d_116_0 : decode prog_8_method_36_code 0 = .ok (.aload_n 0, 1) := by decide +kernel
theorem d_116_1 : decode prog_8_method_36_code 1 = .ok (.getfield 140, 3) := by decide +kernel
theorem d_116_4 : decode prog_8_method_36_code 4 = .ok (.ifCond .eq 5, 3) := by decide +kernel
theorem d_116_7 : decode prog_8_method_36_code 7 = .ok (.iconst (-1), 1) := by decide +kernel
theorem d_116_8 : decode prog_8_method_36_code 8 = .ok (.ireturn, 1) := by decide +kernel
theorem d_116_9 : decode prog_8_method_36_code 9 = .ok (.iload_n 1, 1) := by decide +kernel
theorem d_116_10 : decode prog_8_method_36_code 10 = .ok (.ifCond .eq 14, 3) := by decide +kernel
theorem d_116_13 : decode prog_8_method_36_code 13 = .ok (.aload_n 0, 1) := by decide +kernel
theorem d_116_14 : decode prog_8_method_36_code 14 = .ok (.iload_n 2, 1) := by decide +kernel
theorem d_116_15 : decode prog_8_method_36_code 15 = .ok (.invokevirtual 167, 3) := by decide +kernel
theorem d_116_18 : decode prog_8_method_36_code 18 = .ok (.ifCond .eq 14, 3) := by decide +kernel
theorem d_116_21 : decode prog_8_method_36_code 21 = .ok (.goto 14, 3) := by decide +kernel
theorem d_116_24 : decode prog_8_method_36_code 24 = .ok (.aload_n 0, 1) := by decide +kernel
theorem d_116_25 : decode prog_8_method_36_code 25 = .ok (.iload_n 2, 1) := by decide +kernel
theorem d_116_26 : decode prog_8_method_36_code 26 = .ok (.invokevirtual 158, 3) := by decide +kernel
theorem d_116_29 : decode prog_8_method_36_code 29 = .ok (.ifCond .ne 6, 3) := by decide +kernel
theorem d_116_32 : decode prog_8_method_36_code 32 = .ok (.bipush (-3), 2) := by decide +kernel
theorem d_116_34 : decode prog_8_method_36_code 34 = .ok (.ireturn, 1) := by decide +kernel
theorem d_116_35 : decode prog_8_method_36_code 35 = .ok (.iload_n 3, 1) := by decide +kernel
theorem d_116_36 : decode prog_8_method_36_code 36 = .ok (.invokestatic 144, 3) := by decide +kernel
theorem d_116_39 : decode prog_8_method_36_code 39 = .ok (.ifCond .ne 6, 3) := by decide +kernel
theorem d_116_42 : decode prog_8_method_36_code 42 = .ok (.bipush (-2), 2) := by decide +kernel
theorem d_116_44 : decode prog_8_method_36_code 44 = .ok (.ireturn, 1) := by decide +kernel
theorem d_116_45 : decode prog_8_method_36_code 45 = .ok (.iload_n 1, 1) := by decide +kernel
theorem d_116_46 : decode prog_8_method_36_code 46 = .ok (.ifCond .eq 19, 3) := by decide +kernel
theorem d_116_49 : decode prog_8_method_36_code 49 = .ok (.aload_n 0, 1) := by decide +kernel
theorem d_116_50 : decode prog_8_method_36_code 50 = .ok (.aload_n 0, 1) := by decide +kernel
theorem d_116_51 : decode prog_8_method_36_code 51 = .ok (.getfield 137, 3) := by decide +kernel
theorem d_116_54 : decode prog_8_method_36_code 54 = .ok (.iload_n 3, 1) := by decide +kernel
theorem d_116_55 : decode prog_8_method_36_code 55 = .ok (.iload_n 2, 1) := by decide +kernel
theorem d_116_56 : decode prog_8_method_36_code 56 = .ok (.invokevirtual 161, 3) := by decide +kernel
theorem d_116_59 : decode prog_8_method_36_code 59 = .ok (.ifCond .eq 22, 3) := by decide +kernel
theorem d_116_62 : decode prog_8_method_36_code 62 = .ok (.goto 16, 3) := by decide +kernel
theorem d_116_65 : decode prog_8_method_36_code 65 = .ok (.aload_n 0, 1) := by decide +kernel
theorem d_116_66 : decode prog_8_method_36_code 66 = .ok (.aload_n 0, 1) := by decide +kernel
theorem d_116_67 : decode prog_8_method_36_code 67 = .ok (.getfield 137, 3) := by decide +kernel
theorem d_116_70 : decode prog_8_method_36_code 70 = .ok (.iload_n 3, 1) := by decide +kernel
theorem d_116_71 : decode prog_8_method_36_code 71 = .ok (.iload_n 2, 1) := by decide +kernel
theorem d_116_72 : decode prog_8_method_36_code 72 = .ok (.invokevirtual 148, 3) := by decide +kernel
theorem d_116_75 : decode prog_8_method_36_code 75 = .ok (.ifCond .eq 6, 3) := by decide +kernel
theorem d_116_78 : decode prog_8_method_36_code 78 = .ok (.bipush (-4), 2) := by decide +kernel
theorem d_116_80 : decode prog_8_method_36_code 80 = .ok (.ireturn, 1) := by decide +kernel
theorem d_116_81 : decode prog_8_method_36_code 81 = .ok (.iload_n 1, 1) := by decide +kernel
theorem d_116_82 : decode prog_8_method_36_code 82 = .ok (.ifCond .eq 20, 3) := by decide +kernel
theorem d_116_85 : decode prog_8_method_36_code 85 = .ok (.aload_n 0, 1) := by decide +kernel
theorem d_116_86 : decode prog_8_method_36_code 86 = .ok (.getfield 22, 3) := by decide +kernel
theorem d_116_89 : decode prog_8_method_36_code 89 = .ok (.iconst 5, 1) := by decide +kernel
theorem d_116_90 : decode prog_8_method_36_code 90 = .ok (.aload_n 0, 1) := by decide +kernel
theorem d_116_91 : decode prog_8_method_36_code 91 = .ok (.getfield 137, 3) := by decide +kernel
theorem d_116_94 : decode prog_8_method_36_code 94 = .ok (.imul, 1) := by decide +kernel
theorem d_116_95 : decode prog_8_method_36_code 95 = .ok (.iload_n 2, 1) := by decide +kernel
theorem d_116_96 : decode prog_8_method_36_code 96 = .ok (.iadd, 1) := by decide +kernel
theorem d_116_97 : decode prog_8_method_36_code 97 = .ok (.iload_n 3, 1) := by decide +kernel
theorem d_116_98 : decode prog_8_method_36_code 98 = .ok (.iastore, 1) := by decide +kernel
theorem d_116_99 : decode prog_8_method_36_code 99 = .ok (.goto 17, 3) := by decide +kernel
theorem d_116_102 : decode prog_8_method_36_code 102 = .ok (.aload_n 0, 1) := by decide +kernel
theorem d_116_103 : decode prog_8_method_36_code 103 = .ok (.getfield 13, 3) := by decide +kernel
theorem d_116_106 : decode prog_8_method_36_code 106 = .ok (.iconst 4, 1) := by decide +kernel
theorem d_116_107 : decode prog_8_method_36_code 107 = .ok (.aload_n 0, 1) := by decide +kernel
theorem d_116_108 : decode prog_8_method_36_code 108 = .ok (.getfield 137, 3) := by decide +kernel
theorem d_116_111 : decode prog_8_method_36_code 111 = .ok (.imul, 1) := by decide +kernel
theorem d_116_112 : decode prog_8_method_36_code 112 = .ok (.iload_n 2, 1) := by decide +kernel
theorem d_116_113 : decode prog_8_method_36_code 113 = .ok (.iadd, 1) := by decide +kernel
theorem d_116_114 : decode prog_8_method_36_code 114 = .ok (.iload_n 3, 1) := by decide +kernel
theorem d_116_115 : decode prog_8_method_36_code 115 = .ok (.iastore, 1) := by decide +kernel
theorem d_116_116 : decode prog_8_method_36_code 116 = .ok (.iconst 0, 1) := by decide +kernel
theorem d_116_117 : decode prog_8_method_36_code 117 = .ok (.ireturn, 1) := by decide +kernel
theorem d_117_0 : decode prog_8_method_37_code 0 = .ok (.aload_n 0, 1) := by decide +kernel
theorem d_117_1 : decode prog_8_method_37_code 1 = .ok (.getfield 140, 3) := by decide +kernel
theorem d_117_4 : decode prog_8_method_37_code 4 = .ok (.ifCond .eq 5, 3) := by decide +kernel
theorem d_117_7 : decode prog_8_method_37_code 7 = .ok (.iconst (-1), 1) := by decide +kernel
theorem d_117_8 : decode prog_8_method_37_code 8 = .ok (.ireturn, 1) := by decide +kernel
theorem d_117_9 : decode prog_8_method_37_code 9 = .ok (.aload_n 0, 1) := by decide +kernel
theorem d_117_10 : decode prog_8_method_37_code 10 = .ok (.aload_n 0, 1) := by decide +kernel
theorem d_117_11 : decode prog_8_method_37_code 11 = .ok (.getfield 137, 3) := by decide +kernel
theorem d_117_14 : decode prog_8_method_37_code 14 = .ok (.aload_n 0, 1) := by decide +kernel
theorem d_117_15 : decode prog_8_method_37_code 15 = .ok (.getfield 49, 3) := by decide +kernel
theorem d_117_18 : decode prog_8_method_37_code 18 = .ok (.aload_n 0, 1) := by decide +kernel
theorem d_117_19 : decode prog_8_method_37_code 19 = .ok (.getfield 137, 3) := by decide +kernel
theorem d_117_22 : decode prog_8_method_37_code 22 = .ok (.iaload, 1) := by decide +kernel
theorem d_117_23 : decode prog_8_method_37_code 23 = .ok (.i2l, 1) := by decide +kernel
theorem d_117_24 : decode prog_8_method_37_code 24 = .ok (.invokevirtual 176, 3) := by decide +kernel
theorem d_117_27 : decode prog_8_method_37_code 27 = .ok (.lstore_n 1, 1) := by decide +kernel
theorem d_117_28 : decode prog_8_method_37_code 28 = .ok (.lload_n 1, 1) := by decide +kernel
theorem d_117_29 : decode prog_8_method_37_code 29 = .ok (.ldc2_w 180, 3) := by decide +kernel
theorem d_117_32 : decode prog_8_method_37_code 32 = .ok (.lcmp, 1) := by decide +kernel
theorem d_117_33 : decode prog_8_method_37_code 33 = .ok (.ifCond .le 6, 3) := by decide +kernel
theorem d_117_36 : decode prog_8_method_37_code 36 = .ok (.bipush (-8), 2) := by decide +kernel
theorem d_117_38 : decode prog_8_method_37_code 38 = .ok (.ireturn, 1) := by decide +kernel
theorem d_117_39 : decode prog_8_method_37_code 39 = .ok (.aload_n 0, 1) := by decide +kernel
theorem d_117_40 : decode prog_8_method_37_code 40 = .ok (.iconst 1, 1) := by decide +kernel
theorem d_117_41 : decode prog_8_method_37_code 41 = .ok (.putfield 140, 3) := by decide +kernel
theorem d_117_44 : decode prog_8_method_37_code 44 = .ok (.lload_n 1, 1) := by decide +kernel
theorem d_117_45 : decode prog_8_method_37_code 45 = .ok (.l2i, 1) := by decide +kernel
theorem d_117_46 : decode prog_8_method_37_code 46 = .ok (.ireturn, 1) := by decide +kernel
theorem d_118_0 : decode prog_8_method_15_code 0 = .ok (.aload_n 0, 1) := by decide +kernel
theorem d_118_1 : decode prog_8_method_15_code 1 = .ok (.iload_n 1, 1) := by decide +kernel
theorem d_118_2 : decode prog_8_method_15_code 2 = .ok (.aload_n 0, 1) := by decide +kernel
theorem d_118_3 : decode prog_8_method_15_code 3 = .ok (.getfield 19, 3) := by decide +kernel
theorem d_118_6 : decode prog_8_method_15_code 6 = .ok (.iload_n 1, 1) := by decide +kernel
theorem d_118_7 : decode prog_8_method_15_code 7 = .ok (.iaload, 1) := by decide +kernel
theorem d_118_8 : decode prog_8_method_15_code 8 = .ok (.invokevirtual 99, 3) := by decide +kernel
theorem d_118_11 : decode prog_8_method_15_code 11 = .ok (.i2l, 1) := by decide +kernel
theorem d_118_12 : decode prog_8_method_15_code 12 = .ok (.lload_n 2, 1) := by decide +kernel
theorem d_118_13 : decode prog_8_method_15_code 13 = .ok (.aload_n 0, 1) := by decide +kernel
theorem d_118_14 : decode prog_8_method_15_code 14 = .ok (.iload_n 1, 1) := by decide +kernel
theorem d_118_15 : decode prog_8_method_15_code 15 = .ok (.invokevirtual 102, 3) := by decide +kernel
theorem d_118_18 : decode prog_8_method_15_code 18 = .ok (.i2l, 1) := by decide +kernel
theorem d_118_19 : decode prog_8_method_15_code 19 = .ok (.lmul, 1) := by decide +kernel
theorem d_118_20 : decode prog_8_method_15_code 20 = .ok (.ladd, 1) := by decide +kernel
theorem d_118_21 : decode prog_8_method_15_code 21 = .ok (.lreturn, 1) := by decide +kernel
theorem d_119_0 : decode prog_8_method_13_code 0 = .ok (.iload_n 2, 1) := by decide +kernel
theorem d_119_1 : decode prog_8_method_13_code 1 = .ok (.aload_n 0, 1) := by decide +kernel
theorem d_119_2 : decode prog_8_method_13_code 2 = .ok (.getfield 19, 3) := by decide +kernel
theorem d_119_5 : decode prog_8_method_13_code 5 = .ok (.iload_n 1, 1) := by decide +kernel
theorem d_119_6 : decode prog_8_method_13_code 6 = .ok (.iaload, 1) := by decide +kernel
theorem d_119_7 : decode prog_8_method_13_code 7 = .ok (.if_icmp .eq 12, 3) := by decide +kernel
theorem d_119_10 : decode prog_8_method_13_code 10 = .ok (.aload_n 0, 1) := by decide +kernel
theorem d_119_11 : decode prog_8_method_13_code 11 = .ok (.iload_n 1, 1) := by decide +kernel
theorem d_119_12 : decode prog_8_method_13_code 12 = .ok (.iload_n 2, 1) := by decide +kernel
theorem d_119_13 : decode prog_8_method_13_code 13 = .ok (.invokevirtual 83, 3) := by decide +kernel
theorem d_119_16 : decode prog_8_method_13_code 16 = .ok (.ifCond .eq 7, 3) := by decide +kernel
theorem d_119_19 : decode prog_8_method_13_code 19 = .ok (.iconst 1, 1) := by decide +kernel
theorem d_119_20 : decode prog_8_method_13_code 20 = .ok (.goto 4, 3) := by decide +kernel
theorem d_119_23 : decode prog_8_method_13_code 23 = .ok (.iconst 0, 1) := by decide +kernel
theorem d_119_24 : decode prog_8_method_13_code 24 = .ok (.istore_n 3, 1) := by decide +kernel
theorem d_119_25 : decode prog_8_method_13_code 25 = .ok (.aload_n 0, 1) := by decide +kernel
theorem d_119_26 : decode prog_8_method_13_code 26 = .ok (.iload_n 1, 1) := by decide +kernel
theorem d_119_27 : decode prog_8_method_13_code 27 = .ok (.invokevirtual 90, 3) := by decide +kernel
theorem d_119_30 : decode prog_8_method_13_code 30 = .ok (.istore 4, 2) := by decide +kernel
theorem d_119_32 : decode prog_8_method_13_code 32 = .ok (.iconst 0, 1) := by decide +kernel
theorem d_119_33 : decode prog_8_method_13_code 33 = .ok (.istore 5, 2) := by decide +kernel
theorem d_119_35 : decode prog_8_method_13_code 35 = .ok (.iload 5, 2) := by decide +kernel
theorem d_119_37 : decode prog_8_method_13_code 37 = .ok (.aload_n 0, 1) := by decide +kernel
theorem d_119_38 : decode prog_8_method_13_code 38 = .ok (.getfield 19, 3) := by decide +kernel
theorem d_119_41 : decode prog_8_method_13_code 41 = .ok (.iload_n 1, 1) := by decide +kernel
theorem d_119_42 : decode prog_8_method_13_code 42 = .ok (.iaload, 1) := by decide +kernel
theorem d_119_43 : decode prog_8_method_13_code 43 = .ok (.if_icmp .ge 86, 3) := by decide +kernel
theorem d_119_46 : decode prog_8_method_13_code 46 = .ok (.aload_n 0, 1) := by decide +kernel
theorem d_119_47 : decode prog_8_method_13_code 47 = .ok (.iload_n 1, 1) := by decide +kernel
theorem d_119_48 : decode prog_8_method_13_code 48 = .ok (.iload 5, 2) := by decide +kernel
theorem d_119_50 : decode prog_8_method_13_code 50 = .ok (.invokevirtual 83, 3) := by decide +kernel
theorem d_119_53 : decode prog_8_method_13_code 53 = .ok (.ifCond .eq 31, 3) := by decide +kernel
theorem d_119_56 : decode prog_8_method_13_code 56 = .ok (.iload_n 3, 1) := by decide +kernel
theorem d_119_57 : decode prog_8_method_13_code 57 = .ok (.ifCond .eq 23, 3) := by decide +kernel
theorem d_119_60 : decode prog_8_method_13_code 60 = .ok (.iload_n 2, 1) := by decide +kernel
theorem d_119_61 : decode prog_8_method_13_code 61 = .ok (.aload_n 0, 1) := by decide +kernel
theorem d_119_62 : decode prog_8_method_13_code 62 = .ok (.getfield 19, 3) := by decide +kernel
theorem d_119_65 : decode prog_8_method_13_code 65 = .ok (.iload_n 1, 1) := by decide +kernel
theorem d_119_66 : decode prog_8_method_13_code 66 = .ok (.iaload, 1) := by decide +kernel
theorem d_119_67 : decode prog_8_method_13_code 67 = .ok (.if_icmp .ge 13, 3) := by decide +kernel
theorem d_119_70 : decode prog_8_method_13_code 70 = .ok (.iload 5, 2) := by decide +kernel
theorem d_119_72 : decode prog_8_method_13_code 72 = .ok (.iload_n 2, 1) := by decide +kernel
theorem d_119_73 : decode prog_8_method_13_code 73 = .ok (.if_icmp .ge 7, 3) := by decide +kernel
theorem d_119_76 : decode prog_8_method_13_code 76 = .ok (.iconst 1, 1) := by decide +kernel
theorem d_119_77 : decode prog_8_method_13_code 77 = .ok (.goto 22, 3) := by decide +kernel
theorem d_119_80 : decode prog_8_method_13_code 80 = .ok (.iconst 0, 1) := by decide +kernel
theorem d_119_81 : decode prog_8_method_13_code 81 = .ok (.goto 18, 3) := by decide +kernel
theorem d_119_84 : decode prog_8_method_13_code 84 = .ok (.iload_n 3, 1) := by decide +kernel
theorem d_119_85 : decode prog_8_method_13_code 85 = .ok (.ifCond .ne 9, 3) := by decide +kernel
theorem d_119_88 : decode prog_8_method_13_code 88 = .ok (.iload 5, 2) := by decide +kernel
theorem d_119_90 : decode prog_8_method_13_code 90 = .ok (.iload_n 2, 1) := by decide +kernel
theorem d_119_91 : decode prog_8_method_13_code 91 = .ok (.if_icmp .ge 7, 3) := by decide +kernel
theorem d_119_94 : decode prog_8_method_13_code 94 = .ok (.iconst 1, 1) := by decide +kernel
theorem d_119_95 : decode prog_8_method_13_code 95 = .ok (.goto 4, 3) := by decide +kernel
theorem d_119_98 : decode prog_8_method_13_code 98 = .ok (.iconst 0, 1) := by decide +kernel
theorem d_119_99 : decode prog_8_method_13_code 99 = .ok (.istore 6, 2) := by decide +kernel
theorem d_119_101 : decode prog_8_method_13_code 101 = .ok (.iload 6, 2) := by decide +kernel
theorem d_119_103 : decode prog_8_method_13_code 103 = .ok (.ifCond .eq 16, 3) := by decide +kernel
theorem d_119_106 : decode prog_8_method_13_code 106 = .ok (.iload 4, 2) := by decide +kernel
theorem d_119_108 : decode prog_8_method_13_code 108 = .ok (.aload_n 0, 1) := by decide +kernel
theorem d_119_109 : decode prog_8_method_13_code 109 = .ok (.iload_n 1, 1) := by decide +kernel
theorem d_119_110 : decode prog_8_method_13_code 110 = .ok (.iload 5, 2) := by decide +kernel
theorem d_119_112 : decode prog_8_method_13_code 112 = .ok (.invokevirtual 93, 3) := by decide +kernel
theorem d_119_115 : decode prog_8_method_13_code 115 = .ok (.iadd, 1) := by decide +kernel
theorem d_119_116 : decode prog_8_method_13_code 116 = .ok (.goto 5, 3) := by decide +kernel
theorem d_119_119 : decode prog_8_method_13_code 119 = .ok (.iload 4, 2) := by decide +kernel
theorem d_119_121 : decode prog_8_method_13_code 121 = .ok (.istore 4, 2) := by decide +kernel
theorem d_119_123 : decode prog_8_method_13_code 123 = .ok (.iinc 5 1, 3) := by decide +kernel
theorem d_119_126 : decode prog_8_method_13_code 126 = .ok (.goto (-91), 3) := by decide +kernel
theorem d_119_129 : decode prog_8_method_13_code 129 = .ok (.iload 4, 2) := by decide +kernel
theorem d_119_131 : decode prog_8_method_13_code 131 = .ok (.ireturn, 1) := by decide +kernel
theorem d_120_0 : decode prog_8_method_7_code 0 = .ok (.aload_n 0, 1) := by decide +kernel
theorem d_120_1 : decode prog_8_method_7_code 1 = .ok (.iload_n 1, 1) := by decide +kernel
theorem d_120_2 : decode prog_8_method_7_code 2 = .ok (.iload_n 2, 1) := by decide +kernel
theorem d_120_3 : decode prog_8_method_7_code 3 = .ok (.iconst 0, 1) := by decide +kernel
theorem d_120_4 : decode prog_8_method_7_code 4 = .ok (.invokevirtual 71, 3) := by decide +kernel
theorem d_120_7 : decode prog_8_method_7_code 7 = .ok (.ifCond .ne 7, 3) := by decide +kernel
theorem d_120_10 : decode prog_8_method_7_code 10 = .ok (.iconst 1, 1) := by decide +kernel
theorem d_120_11 : decode prog_8_method_7_code 11 = .ok (.goto 4, 3) := by decide +kernel
theorem d_120_14 : decode prog_8_method_7_code 14 = .ok (.iconst 0, 1) := by decide +kernel
theorem d_120_15 : decode prog_8_method_7_code 15 = .ok (.ireturn, 1) := by decide +kernel
theorem d_121_0 : decode prog_8_method_6_code 0 = .ok (.iload_n 3, 1) := by decide +kernel
theorem d_121_1 : decode prog_8_method_6_code 1 = .ok (.aload_n 0, 1) := by decide +kernel
theorem d_121_2 : decode prog_8_method_6_code 2 = .ok (.getfield 28, 3) := by decide +kernel
theorem d_121_5 : decode prog_8_method_6_code 5 = .ok (.iconst 5, 1) := by decide +kernel
theorem d_121_6 : decode prog_8_method_6_code 6 = .ok (.iload_n 1, 1) := by decide +kernel
theorem d_121_7 : decode prog_8_method_6_code 7 = .ok (.imul, 1) := by decide +kernel
theorem d_121_8 : decode prog_8_method_6_code 8 = .ok (.iload_n 2, 1) := by decide +kernel
theorem d_121_9 : decode prog_8_method_6_code 9 = .ok (.iadd, 1) := by decide +kernel
theorem d_121_10 : decode prog_8_method_6_code 10 = .ok (.iaload, 1) := by decide +kernel
theorem d_121_11 : decode prog_8_method_6_code 11 = .ok (.if_icmp .ge 30, 3) := by decide +kernel
theorem d_121_14 : decode prog_8_method_6_code 14 = .ok (.aload_n 0, 1) := by decide +kernel
theorem d_121_15 : decode prog_8_method_6_code 15 = .ok (.getfield 16, 3) := by decide +kernel
theorem d_121_18 : decode prog_8_method_6_code 18 = .ok (.iconst 4, 1) := by decide +kernel
theorem d_121_19 : decode prog_8_method_6_code 19 = .ok (.iload_n 1, 1) := by decide +kernel
theorem d_121_20 : decode prog_8_method_6_code 20 = .ok (.imul, 1) := by decide +kernel
theorem d_121_21 : decode prog_8_method_6_code 21 = .ok (.aload_n 0, 1) := by decide +kernel
theorem d_121_22 : decode prog_8_method_6_code 22 = .ok (.getfield 31, 3) := by decide +kernel
theorem d_121_25 : decode prog_8_method_6_code 25 = .ok (.bipush 10, 2) := by decide +kernel
theorem d_121_27 : decode prog_8_method_6_code 27 = .ok (.iload_n 1, 1) := by decide +kernel
theorem d_121_28 : decode prog_8_method_6_code 28 = .ok (.imul, 1) := by decide +kernel
theorem d_121_29 : decode prog_8_method_6_code 29 = .ok (.iconst 2, 1) := by decide +kernel
theorem d_121_30 : decode prog_8_method_6_code 30 = .ok (.iload_n 2, 1) := by decide +kernel
theorem d_121_31 : decode prog_8_method_6_code 31 = .ok (.imul, 1) := by decide +kernel
theorem d_121_32 : decode prog_8_method_6_code 32 = .ok (.iadd, 1) := by decide +kernel
theorem d_121_33 : decode prog_8_method_6_code 33 = .ok (.iload_n 3, 1) := by decide +kernel
theorem d_121_34 : decode prog_8_method_6_code 34 = .ok (.iadd, 1) := by decide +kernel
theorem d_121_35 : decode prog_8_method_6_code 35 = .ok (.iaload, 1) := by decide +kernel
theorem d_121_36 : decode prog_8_method_6_code 36 = .ok (.iadd, 1) := by decide +kernel
theorem d_121_37 : decode prog_8_method_6_code 37 = .ok (.iaload, 1) := by decide +kernel
theorem d_121_38 : decode prog_8_method_6_code 38 = .ok (.goto 4, 3) := by decide +kernel
theorem d_121_41 : decode prog_8_method_6_code 41 = .ok (.iconst 1, 1) := by decide +kernel
theorem d_121_42 : decode prog_8_method_6_code 42 = .ok (.ireturn, 1) := by decide +kernel
theorem d_122_0 : decode prog_8_method_12_code 0 = .ok (.bipush 16, 2) := by decide +kernel
theorem d_122_2 : decode prog_8_method_12_code 2 = .ok (.bipush 12, 2) := by decide +kernel
theorem d_122_4 : decode prog_8_method_12_code 4 = .ok (.aload_n 0, 1) := by decide +kernel
theorem d_122_5 : decode prog_8_method_12_code 5 = .ok (.getfield 7, 3) := by decide +kernel
theorem d_122_8 : decode prog_8_method_12_code 8 = .ok (.iload_n 1, 1) := by decide +kernel
theorem d_122_9 : decode prog_8_method_12_code 9 = .ok (.iaload, 1) := by decide +kernel
theorem d_122_10 : decode prog_8_method_12_code 10 = .ok (.imul, 1) := by decide +kernel
theorem d_122_11 : decode prog_8_method_12_code 11 = .ok (.iadd, 1) := by decide +kernel
theorem d_122_12 : decode prog_8_method_12_code 12 = .ok (.aload_n 0, 1) := by decide +kernel
theorem d_122_13 : decode prog_8_method_12_code 13 = .ok (.iload_n 1, 1) := by decide +kernel
theorem d_122_14 : decode prog_8_method_12_code 14 = .ok (.iconst 0, 1) := by decide +kernel
theorem d_122_15 : decode prog_8_method_12_code 15 = .ok (.invokevirtual 87, 3) := by decide +kernel
theorem d_122_18 : decode prog_8_method_12_code 18 = .ok (.iadd, 1) := by decide +kernel
theorem d_122_19 : decode prog_8_method_12_code 19 = .ok (.bipush 8, 2) := by decide +kernel
theorem d_122_21 : decode prog_8_method_12_code 21 = .ok (.iadd, 1) := by decide +kernel
theorem d_122_22 : decode prog_8_method_12_code 22 = .ok (.istore_n 2, 1) := by decide +kernel
theorem d_122_23 : decode prog_8_method_12_code 23 = .ok (.iconst 0, 1) := by decide +kernel
theorem d_122_24 : decode prog_8_method_12_code 24 = .ok (.istore_n 3, 1) := by decide +kernel
theorem d_122_25 : decode prog_8_method_12_code 25 = .ok (.iload_n 3, 1) := by decide +kernel
theorem d_122_26 : decode prog_8_method_12_code 26 = .ok (.aload_n 0, 1) := by decide +kernel
theorem d_122_27 : decode prog_8_method_12_code 27 = .ok (.getfield 19, 3) := by decide +kernel
theorem d_122_30 : decode prog_8_method_12_code 30 = .ok (.iload_n 1, 1) := by decide +kernel
theorem d_122_31 : decode prog_8_method_12_code 31 = .ok (.iaload, 1) := by decide +kernel
theorem d_122_32 : decode prog_8_method_12_code 32 = .ok (.if_icmp .ge 36, 3) := by decide +kernel
theorem d_122_35 : decode prog_8_method_12_code 35 = .ok (.iload_n 2, 1) := by decide +kernel
theorem d_122_36 : decode prog_8_method_12_code 36 = .ok (.bipush 24, 2) := by decide +kernel
theorem d_122_38 : decode prog_8_method_12_code 38 = .ok (.iadd, 1) := by decide +kernel
theorem d_122_39 : decode prog_8_method_12_code 39 = .ok (.iconst 4, 1) := by decide +kernel
theorem d_122_40 : decode prog_8_method_12_code 40 = .ok (.aload_n 0, 1) := by decide +kernel
theorem d_122_41 : decode prog_8_method_12_code 41 = .ok (.getfield 28, 3) := by decide +kernel
theorem d_122_44 : decode prog_8_method_12_code 44 = .ok (.iconst 5, 1) := by decide +kernel
theorem d_122_45 : decode prog_8_method_12_code 45 = .ok (.iload_n 1, 1) := by decide +kernel
theorem d_122_46 : decode prog_8_method_12_code 46 = .ok (.imul, 1) := by decide +kernel
theorem d_122_47 : decode prog_8_method_12_code 47 = .ok (.iload_n 3, 1) := by decide +kernel
theorem d_122_48 : decode prog_8_method_12_code 48 = .ok (.iadd, 1) := by decide +kernel
theorem d_122_49 : decode prog_8_method_12_code 49 = .ok (.iaload, 1) := by decide +kernel
theorem d_122_50 : decode prog_8_method_12_code 50 = .ok (.imul, 1) := by decide +kernel
theorem d_122_51 : decode prog_8_method_12_code 51 = .ok (.iadd, 1) := by decide +kernel
theorem d_122_52 : decode prog_8_method_12_code 52 = .ok (.aload_n 0, 1) := by decide +kernel
theorem d_122_53 : decode prog_8_method_12_code 53 = .ok (.iload_n 1, 1) := by decide +kernel
theorem d_122_54 : decode prog_8_method_12_code 54 = .ok (.iload_n 3, 1) := by decide +kernel
theorem d_122_55 : decode prog_8_method_12_code 55 = .ok (.iconst 1, 1) := by decide +kernel
theorem d_122_56 : decode prog_8_method_12_code 56 = .ok (.iadd, 1) := by decide +kernel
theorem d_122_57 : decode prog_8_method_12_code 57 = .ok (.invokevirtual 87, 3) := by decide +kernel
theorem d_122_60 : decode prog_8_method_12_code 60 = .ok (.iadd, 1) := by decide +kernel
theorem d_122_61 : decode prog_8_method_12_code 61 = .ok (.istore_n 2, 1) := by decide +kernel
theorem d_122_62 : decode prog_8_method_12_code 62 = .ok (.iinc 3 1, 3) := by decide +kernel
theorem d_122_65 : decode prog_8_method_12_code 65 = .ok (.goto (-40), 3) := by decide +kernel
theorem d_122_68 : decode prog_8_method_12_code 68 = .ok (.iload_n 2, 1) := by decide +kernel
theorem d_122_69 : decode prog_8_method_12_code 69 = .ok (.ireturn, 1) := by decide +kernel
theorem d_123_0 : decode prog_8_method_11_code 0 = .ok (.bipush 8, 2) := by decide +kernel
theorem d_123_2 : decode prog_8_method_11_code 2 = .ok (.istore_n 3, 1) := by decide +kernel
theorem d_123_3 : decode prog_8_method_11_code 3 = .ok (.iconst 0, 1) := by decide +kernel
theorem d_123_4 : decode prog_8_method_11_code 4 = .ok (.istore 4, 2) := by decide +kernel
theorem d_123_6 : decode prog_8_method_11_code 6 = .ok (.iload 4, 2) := by decide +kernel
theorem d_123_8 : decode prog_8_method_11_code 8 = .ok (.aload_n 0, 1) := by decide +kernel
theorem d_123_9 : decode prog_8_method_11_code 9 = .ok (.getfield 34, 3) := by decide +kernel
theorem d_123_12 : decode prog_8_method_11_code 12 = .ok (.bipush 6, 2) := by decide +kernel
theorem d_123_14 : decode prog_8_method_11_code 14 = .ok (.iload_n 1, 1) := by decide +kernel
theorem d_123_15 : decode prog_8_method_11_code 15 = .ok (.imul, 1) := by decide +kernel
theorem d_123_16 : decode prog_8_method_11_code 16 = .ok (.iload_n 2, 1) := by decide +kernel
theorem d_123_17 : decode prog_8_method_11_code 17 = .ok (.iadd, 1) := by decide +kernel
theorem d_123_18 : decode prog_8_method_11_code 18 = .ok (.iaload, 1) := by decide +kernel
theorem d_123_19 : decode prog_8_method_11_code 19 = .ok (.if_icmp .ge 41, 3) := by decide +kernel
theorem d_123_22 : decode prog_8_method_11_code 22 = .ok (.iload_n 3, 1) := by decide +kernel
theorem d_123_23 : decode prog_8_method_11_code 23 = .ok (.bipush 16, 2) := by decide +kernel
theorem d_123_25 : decode prog_8_method_11_code 25 = .ok (.iadd, 1) := by decide +kernel
theorem d_123_26 : decode prog_8_method_11_code 26 = .ok (.aload_n 0, 1) := by decide +kernel
theorem d_123_27 : decode prog_8_method_11_code 27 = .ok (.getfield 40, 3) := by decide +kernel
theorem d_123_30 : decode prog_8_method_11_code 30 = .ok (.bipush 18, 2) := by decide +kernel
theorem d_123_32 : decode prog_8_method_11_code 32 = .ok (.iload_n 1, 1) := by decide +kernel
theorem d_123_33 : decode prog_8_method_11_code 33 = .ok (.imul, 1) := by decide +kernel
theorem d_123_34 : decode prog_8_method_11_code 34 = .ok (.iconst 3, 1) := by decide +kernel
theorem d_123_35 : decode prog_8_method_11_code 35 = .ok (.iload_n 2, 1) := by decide +kernel
theorem d_123_36 : decode prog_8_method_11_code 36 = .ok (.imul, 1) := by decide +kernel
theorem d_123_37 : decode prog_8_method_11_code 37 = .ok (.iadd, 1) := by decide +kernel
theorem d_123_38 : decode prog_8_method_11_code 38 = .ok (.iload 4, 2) := by decide +kernel
theorem d_123_40 : decode prog_8_method_11_code 40 = .ok (.iadd, 1) := by decide +kernel
theorem d_123_41 : decode prog_8_method_11_code 41 = .ok (.iaload, 1) := by decide +kernel
theorem d_123_42 : decode prog_8_method_11_code 42 = .ok (.iconst 4, 1) := by decide +kernel
theorem d_123_43 : decode prog_8_method_11_code 43 = .ok (.if_icmp .ne 8, 3) := by decide +kernel
theorem d_123_46 : decode prog_8_method_11_code 46 = .ok (.bipush 8, 2) := by decide +kernel
theorem d_123_48 : decode prog_8_method_11_code 48 = .ok (.goto 4, 3) := by decide +kernel
theorem d_123_51 : decode prog_8_method_11_code 51 = .ok (.iconst 4, 1) := by decide +kernel
theorem d_123_52 : decode prog_8_method_11_code 52 = .ok (.iadd, 1) := by decide +kernel
theorem d_123_53 : decode prog_8_method_11_code 53 = .ok (.istore_n 3, 1) := by decide +kernel
theorem d_123_54 : decode prog_8_method_11_code 54 = .ok (.iinc 4 1, 3) := by decide +kernel
theorem d_123_57 : decode prog_8_method_11_code 57 = .ok (.goto (-51), 3) := by decide +kernel
theorem d_123_60 : decode prog_8_method_11_code 60 = .ok (.iload_n 3, 1) := by decide +kernel
theorem d_123_61 : decode prog_8_method_11_code 61 = .ok (.ireturn, 1) := by decide +kernel
theorem d_124_0 : decode prog_8_method_9_code 0 = .ok (.aload_n 0, 1) := by decide +kernel
theorem d_124_1 : decode prog_8_method_9_code 1 = .ok (.iload_n 1, 1) := by decide +kernel
theorem d_124_2 : decode prog_8_method_9_code 2 = .ok (.iload_n 2, 1) := by decide +kernel
theorem d_124_3 : decode prog_8_method_9_code 3 = .ok (.invokevirtual 75, 3) := by decide +kernel
theorem d_124_6 : decode prog_8_method_9_code 6 = .ok (.aload_n 0, 1) := by decide +kernel
theorem d_124_7 : decode prog_8_method_9_code 7 = .ok (.getfield 25, 3) := by decide +kernel
theorem d_124_10 : decode prog_8_method_9_code 10 = .ok (.iconst 5, 1) := by decide +kernel
theorem d_124_11 : decode prog_8_method_9_code 11 = .ok (.iload_n 1, 1) := by decide +kernel
theorem d_124_12 : decode prog_8_method_9_code 12 = .ok (.imul, 1) := by decide +kernel
theorem d_124_13 : decode prog_8_method_9_code 13 = .ok (.iload_n 2, 1) := by decide +kernel
theorem d_124_14 : decode prog_8_method_9_code 14 = .ok (.iadd, 1) := by decide +kernel
theorem d_124_15 : decode prog_8_method_9_code 15 = .ok (.iaload, 1) := by decide +kernel
theorem d_124_16 : decode prog_8_method_9_code 16 = .ok (.invokestatic 79, 3) := by decide +kernel
theorem d_124_19 : decode prog_8_method_9_code 19 = .ok (.imul, 1) := by decide +kernel
theorem d_124_20 : decode prog_8_method_9_code 20 = .ok (.iconst 3, 1) := by decide +kernel
theorem d_124_21 : decode prog_8_method_9_code 21 = .ok (.iadd, 1) := by decide +kernel
theorem d_124_22 : decode prog_8_method_9_code 22 = .ok (.iconst 4, 1) := by decide +kernel
theorem d_124_23 : decode prog_8_method_9_code 23 = .ok (.idiv, 1) := by decide +kernel
theorem d_124_24 : decode prog_8_method_9_code 24 = .ok (.iconst 4, 1) := by decide +kernel
theorem d_124_25 : decode prog_8_method_9_code 25 = .ok (.imul, 1) := by decide +kernel
theorem d_124_26 : decode prog_8_method_9_code 26 = .ok (.ireturn, 1) := by decide +kernel
theorem d_125_0 : decode prog_8_method_8_code 0 = .ok (.aload_n 0, 1) := by decide +kernel
theorem d_125_1 : decode prog_8_method_8_code 1 = .ok (.iload_n 1, 1) := by decide +kernel
theorem d_125_2 : decode prog_8_method_8_code 2 = .ok (.iload_n 2, 1) := by decide +kernel
theorem d_125_3 : decode prog_8_method_8_code 3 = .ok (.iconst 0, 1) := by decide +kernel
theorem d_125_4 : decode prog_8_method_8_code 4 = .ok (.invokevirtual 71, 3) := by decide +kernel
theorem d_125_7 : decode prog_8_method_8_code 7 = .ok (.istore_n 3, 1) := by decide +kernel
theorem d_125_8 : decode prog_8_method_8_code 8 = .ok (.iload_n 3, 1) := by decide +kernel
theorem d_125_9 : decode prog_8_method_8_code 9 = .ok (.ifCond .ne 7, 3) := by decide +kernel
theorem d_125_12 : decode prog_8_method_8_code 12 = .ok (.iconst 1, 1) := by decide +kernel
theorem d_125_13 : decode prog_8_method_8_code 13 = .ok (.goto 4, 3) := by decide +kernel
theorem d_125_16 : decode prog_8_method_8_code 16 = .ok (.iload_n 3, 1) := by decide +kernel
theorem d_125_17 : decode prog_8_method_8_code 17 = .ok (.aload_n 0, 1) := by decide +kernel
theorem d_125_18 : decode prog_8_method_8_code 18 = .ok (.iload_n 1, 1) := by decide +kernel
theorem d_125_19 : decode prog_8_method_8_code 19 = .ok (.iload_n 2, 1) := by decide +kernel
theorem d_125_20 : decode prog_8_method_8_code 20 = .ok (.iconst 1, 1) := by decide +kernel
theorem d_125_21 : decode prog_8_method_8_code 21 = .ok (.invokevirtual 71, 3) := by decide +kernel
theorem d_125_24 : decode prog_8_method_8_code 24 = .ok (.imul, 1) := by decide +kernel
theorem d_125_25 : decode prog_8_method_8_code 25 = .ok (.ireturn, 1) := by decide +kernel
theorem d_126_0 : decode prog_8_method_3_code 0 = .ok (.iload_n 0, 1) := by decide +kernel
theorem d_126_1 : decode prog_8_method_3_code 1 = .ok (.iconst 2, 1) := by decide +kernel
theorem d_126_2 : decode prog_8_method_3_code 2 = .ok (.if_icmp .gt 7, 3) := by decide +kernel
theorem d_126_5 : decode prog_8_method_3_code 5 = .ok (.iconst 1, 1) := by decide +kernel
theorem d_126_6 : decode prog_8_method_3_code 6 = .ok (.goto 13, 3) := by decide +kernel
theorem d_126_9 : decode prog_8_method_3_code 9 = .ok (.iload_n 0, 1) := by decide +kernel
theorem d_126_10 : decode prog_8_method_3_code 10 = .ok (.iconst 3, 1) := by decide +kernel
theorem d_126_11 : decode prog_8_method_3_code 11 = .ok (.if_icmp .ne 7, 3) := by decide +kernel
theorem d_126_14 : decode prog_8_method_3_code 14 = .ok (.iconst 2, 1) := by decide +kernel
theorem d_126_15 : decode prog_8_method_3_code 15 = .ok (.goto 4, 3) := by decide +kernel
theorem d_126_18 : decode prog_8_method_3_code 18 = .ok (.iconst 4, 1) := by decide +kernel
theorem d_126_19 : decode prog_8_method_3_code 19 = .ok (.ireturn, 1) := by decide +kernel
theorem d_127_0 : decode prog_8_method_14_code 0 = .ok (.iconst 0, 1) := by decide +kernel
theorem d_127_1 : decode prog_8_method_14_code 1 = .ok (.istore_n 2, 1) := by decide +kernel
theorem d_127_2 : decode prog_8_method_14_code 2 = .ok (.aload_n 0, 1) := by decide +kernel
theorem d_127_3 : decode prog_8_method_14_code 3 = .ok (.iload_n 1, 1) := by decide +kernel
theorem d_127_4 : decode prog_8_method_14_code 4 = .ok (.invokevirtual 96, 3) := by decide +kernel
theorem d_127_7 : decode prog_8_method_14_code 7 = .ok (.iconst 1, 1) := by decide +kernel
theorem d_127_8 : decode prog_8_method_14_code 8 = .ok (.if_icmp .ne 7, 3) := by decide +kernel
theorem d_127_11 : decode prog_8_method_14_code 11 = .ok (.iconst 1, 1) := by decide +kernel
theorem d_127_12 : decode prog_8_method_14_code 12 = .ok (.goto 4, 3) := by decide +kernel
theorem d_127_15 : decode prog_8_method_14_code 15 = .ok (.iconst 0, 1) := by decide +kernel
theorem d_127_16 : decode prog_8_method_14_code 16 = .ok (.istore_n 3, 1) := by decide +kernel
theorem d_127_17 : decode prog_8_method_14_code 17 = .ok (.iconst 0, 1) := by decide +kernel
theorem d_127_18 : decode prog_8_method_14_code 18 = .ok (.istore 4, 2) := by decide +kernel
theorem d_127_20 : decode prog_8_method_14_code 20 = .ok (.iload 4, 2) := by decide +kernel
theorem d_127_22 : decode prog_8_method_14_code 22 = .ok (.aload_n 0, 1) := by decide +kernel
theorem d_127_23 : decode prog_8_method_14_code 23 = .ok (.getfield 19, 3) := by decide +kernel
theorem d_127_26 : decode prog_8_method_14_code 26 = .ok (.iload_n 1, 1) := by decide +kernel
theorem d_127_27 : decode prog_8_method_14_code 27 = .ok (.iaload, 1) := by decide +kernel
theorem d_127_28 : decode prog_8_method_14_code 28 = .ok (.if_icmp .ge 66, 3) := by decide +kernel
theorem d_127_31 : decode prog_8_method_14_code 31 = .ok (.iload_n 3, 1) := by decide +kernel
theorem d_127_32 : decode prog_8_method_14_code 32 = .ok (.ifCond .eq 28, 3) := by decide +kernel
theorem d_127_35 : decode prog_8_method_14_code 35 = .ok (.aload_n 0, 1) := by decide +kernel
theorem d_127_36 : decode prog_8_method_14_code 36 = .ok (.iload_n 1, 1) := by decide +kernel
theorem d_127_37 : decode prog_8_method_14_code 37 = .ok (.iload 4, 2) := by decide +kernel
theorem d_127_39 : decode prog_8_method_14_code 39 = .ok (.invokevirtual 75, 3) := by decide +kernel
theorem d_127_42 : decode prog_8_method_14_code 42 = .ok (.aload_n 0, 1) := by decide +kernel
theorem d_127_43 : decode prog_8_method_14_code 43 = .ok (.getfield 25, 3) := by decide +kernel
theorem d_127_46 : decode prog_8_method_14_code 46 = .ok (.iconst 5, 1) := by decide +kernel
theorem d_127_47 : decode prog_8_method_14_code 47 = .ok (.iload_n 1, 1) := by decide +kernel
theorem d_127_48 : decode prog_8_method_14_code 48 = .ok (.imul, 1) := by decide +kernel
theorem d_127_49 : decode prog_8_method_14_code 49 = .ok (.iload 4, 2) := by decide +kernel
theorem d_127_51 : decode prog_8_method_14_code 51 = .ok (.iadd, 1) := by decide +kernel
theorem d_127_52 : decode prog_8_method_14_code 52 = .ok (.iaload, 1) := by decide +kernel
theorem d_127_53 : decode prog_8_method_14_code 53 = .ok (.invokestatic 79, 3) := by decide +kernel
theorem d_127_56 : decode prog_8_method_14_code 56 = .ok (.imul, 1) := by decide +kernel
theorem d_127_57 : decode prog_8_method_14_code 57 = .ok (.goto 10, 3) := by decide +kernel
theorem d_127_60 : decode prog_8_method_14_code 60 = .ok (.aload_n 0, 1) := by decide +kernel
theorem d_127_61 : decode prog_8_method_14_code 61 = .ok (.iload_n 1, 1) := by decide +kernel
theorem d_127_62 : decode prog_8_method_14_code 62 = .ok (.iload 4, 2) := by decide +kernel
theorem d_127_64 : decode prog_8_method_14_code 64 = .ok (.invokevirtual 93, 3) := by decide +kernel
theorem d_127_67 : decode prog_8_method_14_code 67 = .ok (.istore 5, 2) := by decide +kernel
theorem d_127_69 : decode prog_8_method_14_code 69 = .ok (.aload_n 0, 1) := by decide +kernel
theorem d_127_70 : decode prog_8_method_14_code 70 = .ok (.iload_n 1, 1) := by decide +kernel
theorem d_127_71 : decode prog_8_method_14_code 71 = .ok (.iload 4, 2) := by decide +kernel
theorem d_127_73 : decode prog_8_method_14_code 73 = .ok (.invokevirtual 83, 3) := by decide +kernel
theorem d_127_76 : decode prog_8_method_14_code 76 = .ok (.ifCond .eq 10, 3) := by decide +kernel
theorem d_127_79 : decode prog_8_method_14_code 79 = .ok (.iload_n 2, 1) := by decide +kernel
theorem d_127_80 : decode prog_8_method_14_code 80 = .ok (.iload 5, 2) := by decide +kernel
theorem d_127_82 : decode prog_8_method_14_code 82 = .ok (.iadd, 1) := by decide +kernel
theorem d_127_83 : decode prog_8_method_14_code 83 = .ok (.goto 4, 3) := by decide +kernel
theorem d_127_86 : decode prog_8_method_14_code 86 = .ok (.iload_n 2, 1) := by decide +kernel
theorem d_127_87 : decode prog_8_method_14_code 87 = .ok (.istore_n 2, 1) := by decide +kernel
theorem d_127_88 : decode prog_8_method_14_code 88 = .ok (.iinc 4 1, 3) := by decide +kernel
theorem d_127_91 : decode prog_8_method_14_code 91 = .ok (.goto (-71), 3) := by decide +kernel
theorem d_127_94 : decode prog_8_method_14_code 94 = .ok (.iload_n 2, 1) := by decide +kernel
theorem d_127_95 : decode prog_8_method_14_code 95 = .ok (.ireturn, 1) := by decide +kernel
theorem d_128_0 : decode prog_8_method_10_code 0 = .ok (.iconst 0, 1) := by decide +kernel
theorem d_128_1 : decode prog_8_method_10_code 1 = .ok (.istore_n 2, 1) := by decide +kernel
theorem d_128_2 : decode prog_8_method_10_code 2 = .ok (.iconst 0, 1) := by decide +kernel
theorem d_128_3 : decode prog_8_method_10_code 3 = .ok (.istore_n 3, 1) := by decide +kernel
theorem d_128_4 : decode prog_8_method_10_code 4 = .ok (.iload_n 3, 1) := by decide +kernel
theorem d_128_5 : decode prog_8_method_10_code 5 = .ok (.aload_n 0, 1) := by decide +kernel
theorem d_128_6 : decode prog_8_method_10_code 6 = .ok (.getfield 19, 3) := by decide +kernel
theorem d_128_9 : decode prog_8_method_10_code 9 = .ok (.iload_n 1, 1) := by decide +kernel
theorem d_128_10 : decode prog_8_method_10_code 10 = .ok (.iaload, 1) := by decide +kernel
theorem d_128_11 : decode prog_8_method_10_code 11 = .ok (.if_icmp .ge 26, 3) := by decide +kernel
theorem d_128_14 : decode prog_8_method_10_code 14 = .ok (.aload_n 0, 1) := by decide +kernel
theorem d_128_15 : decode prog_8_method_10_code 15 = .ok (.iload_n 1, 1) := by decide +kernel
theorem d_128_16 : decode prog_8_method_10_code 16 = .ok (.iload_n 3, 1) := by decide +kernel
theorem d_128_17 : decode prog_8_method_10_code 17 = .ok (.invokevirtual 83, 3) := by decide +kernel
theorem d_128_20 : decode prog_8_method_10_code 20 = .ok (.ifCond .eq 9, 3) := by decide +kernel
theorem d_128_23 : decode prog_8_method_10_code 23 = .ok (.iload_n 2, 1) := by decide +kernel
theorem d_128_24 : decode prog_8_method_10_code 24 = .ok (.iconst 1, 1) := by decide +kernel
theorem d_128_25 : decode prog_8_method_10_code 25 = .ok (.iadd, 1) := by decide +kernel
theorem d_128_26 : decode prog_8_method_10_code 26 = .ok (.goto 4, 3) := by decide +kernel
theorem d_128_29 : decode prog_8_method_10_code 29 = .ok (.iload_n 2, 1) := by decide +kernel
theorem d_128_30 : decode prog_8_method_10_code 30 = .ok (.istore_n 2, 1) := by decide +kernel
theorem d_128_31 : decode prog_8_method_10_code 31 = .ok (.iinc 3 1, 3) := by decide +kernel
theorem d_128_34 : decode prog_8_method_10_code 34 = .ok (.goto (-30), 3) := by decide +kernel
theorem d_128_37 : decode prog_8_method_10_code 37 = .ok (.iload_n 2, 1) := by decide +kernel
theorem d_128_38 : decode prog_8_method_10_code 38 = .ok (.ireturn, 1) := by decide +kernel
theorem d_129_0 : decode prog_8_method_38_code 0 = .ok (.aload_n 0, 1) := by decide +kernel
theorem d_129_1 : decode prog_8_method_38_code 1 = .ok (.getfield 140, 3) := by decide +kernel
theorem d_129_4 : decode prog_8_method_38_code 4 = .ok (.ifCond .ne 5, 3) := by decide +kernel
theorem d_129_7 : decode prog_8_method_38_code 7 = .ok (.iconst (-1), 1) := by decide +kernel
theorem d_129_8 : decode prog_8_method_38_code 8 = .ok (.ireturn, 1) := by decide +kernel
theorem d_129_9 : decode prog_8_method_38_code 9 = .ok (.aload_n 0, 1) := by decide +kernel
theorem d_129_10 : decode prog_8_method_38_code 10 = .ok (.iconst 0, 1) := by decide +kernel
theorem d_129_11 : decode prog_8_method_38_code 11 = .ok (.putfield 140, 3) := by decide +kernel
theorem d_129_14 : decode prog_8_method_38_code 14 = .ok (.iconst 0, 1) := by decide +kernel
theorem d_129_15 : decode prog_8_method_38_code 15 = .ok (.ireturn, 1) := by decide +kernel
theorem d_130_0 : decode prog_8_method_41_code 0 = .ok (.aload_n 0, 1) := by decide +kernel
theorem d_130_1 : decode prog_8_method_41_code 1 = .ok (.getfield 140, 3) := by decide +kernel
theorem d_130_4 : decode prog_8_method_41_code 4 = .ok (.ifCond .ne 5, 3) := by decide +kernel
theorem d_130_7 : decode prog_8_method_41_code 7 = .ok (.iconst (-1), 1) := by decide +kernel
theorem d_130_8 : decode prog_8_method_41_code 8 = .ok (.ireturn, 1) := by decide +kernel
theorem d_130_9 : decode prog_8_method_41_code 9 = .ok (.aload_n 0, 1) := by decide +kernel
theorem d_130_10 : decode prog_8_method_41_code 10 = .ok (.iload_n 1, 1) := by decide +kernel
theorem d_130_11 : decode prog_8_method_41_code 11 = .ok (.invokevirtual 167, 3) := by decide +kernel
theorem d_130_14 : decode prog_8_method_41_code 14 = .ok (.ifCond .ne 6, 3) := by decide +kernel
theorem d_130_17 : decode prog_8_method_41_code 17 = .ok (.bipush (-3), 2) := by decide +kernel
theorem d_130_19 : decode prog_8_method_41_code 19 = .ok (.ireturn, 1) := by decide +kernel
theorem d_130_20 : decode prog_8_method_41_code 20 = .ok (.aload_n 0, 1) := by decide +kernel
theorem d_130_21 : decode prog_8_method_41_code 21 = .ok (.iload_n 1, 1) := by decide +kernel
theorem d_130_22 : decode prog_8_method_41_code 22 = .ok (.iload_n 2, 1) := by decide +kernel
theorem d_130_23 : decode prog_8_method_41_code 23 = .ok (.i2l, 1) := by decide +kernel
theorem d_130_24 : decode prog_8_method_41_code 24 = .ok (.iload_n 3, 1) := by decide +kernel
theorem d_130_25 : decode prog_8_method_41_code 25 = .ok (.i2l, 1) := by decide +kernel
theorem d_130_26 : decode prog_8_method_41_code 26 = .ok (.iconst 1, 1) := by decide +kernel
theorem d_130_27 : decode prog_8_method_41_code 27 = .ok (.invokevirtual 182, 3) := by decide +kernel
theorem d_130_30 : decode prog_8_method_41_code 30 = .ok (.ifCond .ne 6, 3) := by decide +kernel
theorem d_130_33 : decode prog_8_method_41_code 33 = .ok (.bipush (-7), 2) := by decide +kernel
theorem d_130_35 : decode prog_8_method_41_code 35 = .ok (.ireturn, 1) := by decide +kernel
theorem d_130_36 : decode prog_8_method_41_code 36 = .ok (.aload_n 0, 1) := by decide +kernel
theorem d_130_37 : decode prog_8_method_41_code 37 = .ok (.getfield 25, 3) := by decide +kernel
theorem d_130_40 : decode prog_8_method_41_code 40 = .ok (.iconst 5, 1) := by decide +kernel
theorem d_130_41 : decode prog_8_method_41_code 41 = .ok (.aload_n 0, 1) := by decide +kernel
theorem d_130_42 : decode prog_8_method_41_code 42 = .ok (.getfield 137, 3) := by decide +kernel
theorem d_130_45 : decode prog_8_method_41_code 45 = .ok (.imul, 1) := by decide +kernel
theorem d_130_46 : decode prog_8_method_41_code 46 = .ok (.iload_n 1, 1) := by decide +kernel
theorem d_130_47 : decode prog_8_method_41_code 47 = .ok (.iadd, 1) := by decide +kernel
theorem d_130_48 : decode prog_8_method_41_code 48 = .ok (.iaload, 1) := by decide +kernel
theorem d_130_49 : decode prog_8_method_41_code 49 = .ok (.iload 4, 2) := by decide +kernel
theorem d_130_51 : decode prog_8_method_41_code 51 = .ok (.invokestatic 170, 3) := by decide +kernel
theorem d_130_54 : decode prog_8_method_41_code 54 = .ok (.ifCond .ne 6, 3) := by decide +kernel
theorem d_130_57 : decode prog_8_method_41_code 57 = .ok (.bipush (-6), 2) := by decide +kernel
theorem d_130_59 : decode prog_8_method_41_code 59 = .ok (.ireturn, 1) := by decide +kernel
theorem d_130_60 : decode prog_8_method_41_code 60 = .ok (.aload_n 0, 1) := by decide +kernel
theorem d_130_61 : decode prog_8_method_41_code 61 = .ok (.iload_n 1, 1) := by decide +kernel
theorem d_130_62 : decode prog_8_method_41_code 62 = .ok (.iload_n 2, 1) := by decide +kernel
theorem d_130_63 : decode prog_8_method_41_code 63 = .ok (.i2l, 1) := by decide +kernel
theorem d_130_64 : decode prog_8_method_41_code 64 = .ok (.invokevirtual 186, 3) := by decide +kernel
theorem d_130_67 : decode prog_8_method_41_code 67 = .ok (.ifCond .ne 6, 3) := by decide +kernel
theorem d_130_70 : decode prog_8_method_41_code 70 = .ok (.bipush (-8), 2) := by decide +kernel
theorem d_130_72 : decode prog_8_method_41_code 72 = .ok (.ireturn, 1) := by decide +kernel
theorem d_130_73 : decode prog_8_method_41_code 73 = .ok (.aload_n 0, 1) := by decide +kernel
theorem d_130_74 : decode prog_8_method_41_code 74 = .ok (.getfield 52, 3) := by decide +kernel
theorem d_130_77 : decode prog_8_method_41_code 77 = .ok (.aload_n 0, 1) := by decide +kernel
theorem d_130_78 : decode prog_8_method_41_code 78 = .ok (.iload_n 1, 1) := by decide +kernel
theorem d_130_79 : decode prog_8_method_41_code 79 = .ok (.iload_n 2, 1) := by decide +kernel
theorem d_130_80 : decode prog_8_method_41_code 80 = .ok (.i2l, 1) := by decide +kernel
theorem d_130_81 : decode prog_8_method_41_code 81 = .ok (.iload_n 3, 1) := by decide +kernel
theorem d_130_82 : decode prog_8_method_41_code 82 = .ok (.i2l, 1) := by decide +kernel
theorem d_130_83 : decode prog_8_method_41_code 83 = .ok (.invokevirtual 190, 3) := by decide +kernel
theorem d_130_86 : decode prog_8_method_41_code 86 = .ok (.iload 4, 2) := by decide +kernel
theorem d_130_88 : decode prog_8_method_41_code 88 = .ok (.iastore, 1) := by decide +kernel
theorem d_130_89 : decode prog_8_method_41_code 89 = .ok (.iconst 0, 1) := by decide +kernel
theorem d_130_90 : decode prog_8_method_41_code 90 = .ok (.ireturn, 1) := by decide +kernel
theorem d_131_0 : decode prog_8_method_39_code 0 = .ok (.lload_n 2, 1) := by decide +kernel
theorem d_131_1 : decode prog_8_method_39_code 1 = .ok (.lconst 0, 1) := by decide +kernel
theorem d_131_2 : decode prog_8_method_39_code 2 = .ok (.lcmp, 1) := by decide +kernel
theorem d_131_3 : decode prog_8_method_39_code 3 = .ok (.ifCond .lt 27, 3) := by decide +kernel
theorem d_131_6 : decode prog_8_method_39_code 6 = .ok (.lload 4, 2) := by decide +kernel
theorem d_131_8 : decode prog_8_method_39_code 8 = .ok (.lconst 0, 1) := by decide +kernel
theorem d_131_9 : decode prog_8_method_39_code 9 = .ok (.lcmp, 1) := by decide +kernel
theorem d_131_10 : decode prog_8_method_39_code 10 = .ok (.ifCond .lt 20, 3) := by decide +kernel
theorem d_131_13 : decode prog_8_method_39_code 13 = .ok (.lload 4, 2) := by decide +kernel
theorem d_131_15 : decode prog_8_method_39_code 15 = .ok (.aload_n 0, 1) := by decide +kernel
theorem d_131_16 : decode prog_8_method_39_code 16 = .ok (.aload_n 0, 1) := by decide +kernel
theorem d_131_17 : decode prog_8_method_39_code 17 = .ok (.getfield 137, 3) := by decide +kernel
theorem d_131_20 : decode prog_8_method_39_code 20 = .ok (.iload_n 1, 1) := by decide +kernel
theorem d_131_21 : decode prog_8_method_39_code 21 = .ok (.iconst 1, 1) := by decide +kernel
theorem d_131_22 : decode prog_8_method_39_code 22 = .ok (.invokevirtual 71, 3) := by decide +kernel
theorem d_131_25 : decode prog_8_method_39_code 25 = .ok (.i2l, 1) := by decide +kernel
theorem d_131_26 : decode prog_8_method_39_code 26 = .ok (.lcmp, 1) := by decide +kernel
theorem d_131_27 : decode prog_8_method_39_code 27 = .ok (.ifCond .lt 5, 3) := by decide +kernel
theorem d_131_30 : decode prog_8_method_39_code 30 = .ok (.iconst 0, 1) := by decide +kernel
theorem d_131_31 : decode prog_8_method_39_code 31 = .ok (.ireturn, 1) := by decide +kernel
theorem d_131_32 : decode prog_8_method_39_code 32 = .ok (.aload_n 0, 1) := by decide +kernel
theorem d_131_33 : decode prog_8_method_39_code 33 = .ok (.aload_n 0, 1) := by decide +kernel
theorem d_131_34 : decode prog_8_method_39_code 34 = .ok (.getfield 137, 3) := by decide +kernel
theorem d_131_37 : decode prog_8_method_39_code 37 = .ok (.iload_n 1, 1) := by decide +kernel
theorem d_131_38 : decode prog_8_method_39_code 38 = .ok (.invokevirtual 83, 3) := by decide +kernel
theorem d_131_41 : decode prog_8_method_39_code 41 = .ok (.ifCond .eq 31, 3) := by decide +kernel
theorem d_131_44 : decode prog_8_method_39_code 44 = .ok (.iload 6, 2) := by decide +kernel
theorem d_131_46 : decode prog_8_method_39_code 46 = .ok (.ifCond .ne 18, 3) := by decide +kernel
theorem d_131_49 : decode prog_8_method_39_code 49 = .ok (.lload_n 2, 1) := by decide +kernel
theorem d_131_50 : decode prog_8_method_39_code 50 = .ok (.aload_n 0, 1) := by decide +kernel
theorem d_131_51 : decode prog_8_method_39_code 51 = .ok (.getfield 49, 3) := by decide +kernel
theorem d_131_54 : decode prog_8_method_39_code 54 = .ok (.aload_n 0, 1) := by decide +kernel
theorem d_131_55 : decode prog_8_method_39_code 55 = .ok (.getfield 137, 3) := by decide +kernel
theorem d_131_58 : decode prog_8_method_39_code 58 = .ok (.iaload, 1) := by decide +kernel
theorem d_131_59 : decode prog_8_method_39_code 59 = .ok (.i2l, 1) := by decide +kernel
theorem d_131_60 : decode prog_8_method_39_code 60 = .ok (.lcmp, 1) := by decide +kernel
theorem d_131_61 : decode prog_8_method_39_code 61 = .ok (.ifCond .ge 7, 3) := by decide +kernel
theorem d_131_64 : decode prog_8_method_39_code 64 = .ok (.iconst 1, 1) := by decide +kernel
theorem d_131_65 : decode prog_8_method_39_code 65 = .ok (.goto 28, 3) := by decide +kernel
theorem d_131_68 : decode prog_8_method_39_code 68 = .ok (.iconst 0, 1) := by decide +kernel
theorem d_131_69 : decode prog_8_method_39_code 69 = .ok (.goto 24, 3) := by decide +kernel
theorem d_131_72 : decode prog_8_method_39_code 72 = .ok (.lload_n 2, 1) := by decide +kernel
theorem d_131_73 : decode prog_8_method_39_code 73 = .ok (.aload_n 0, 1) := by decide +kernel
theorem d_131_74 : decode prog_8_method_39_code 74 = .ok (.aload_n 0, 1) := by decide +kernel
theorem d_131_75 : decode prog_8_method_39_code 75 = .ok (.getfield 137, 3) := by decide +kernel
theorem d_131_78 : decode prog_8_method_39_code 78 = .ok (.iload_n 1, 1) := by decide +kernel
theorem d_131_79 : decode prog_8_method_39_code 79 = .ok (.iconst 0, 1) := by decide +kernel
theorem d_131_80 : decode prog_8_method_39_code 80 = .ok (.invokevirtual 71, 3) := by decide +kernel
theorem d_131_83 : decode prog_8_method_39_code 83 = .ok (.i2l, 1) := by decide +kernel
theorem d_131_84 : decode prog_8_method_39_code 84 = .ok (.lcmp, 1) := by decide +kernel
theorem d_131_85 : decode prog_8_method_39_code 85 = .ok (.ifCond .ge 7, 3) := by decide +kernel
theorem d_131_88 : decode prog_8_method_39_code 88 = .ok (.iconst 1, 1) := by decide +kernel
theorem d_131_89 : decode prog_8_method_39_code 89 = .ok (.goto 4, 3) := by decide +kernel
theorem d_131_92 : decode prog_8_method_39_code 92 = .ok (.iconst 0, 1) := by decide +kernel
theorem d_131_93 : decode prog_8_method_39_code 93 = .ok (.ireturn, 1) := by decide +kernel
theorem d_132_0 : decode prog_8_method_42_code 0 = .ok (.aload_n 0, 1) := by decide +kernel
theorem d_132_1 : decode prog_8_method_42_code 1 = .ok (.aload_n 0, 1) := by decide +kernel
theorem d_132_2 : decode prog_8_method_42_code 2 = .ok (.getfield 137, 3) := by decide +kernel
theorem d_132_5 : decode prog_8_method_42_code 5 = .ok (.iload_n 1, 1) := by decide +kernel
theorem d_132_6 : decode prog_8_method_42_code 6 = .ok (.invokevirtual 83, 3) := by decide +kernel
theorem d_132_9 : decode prog_8_method_42_code 9 = .ok (.ifCond .eq 18, 3) := by decide +kernel
theorem d_132_12 : decode prog_8_method_42_code 12 = .ok (.lload_n 2, 1) := by decide +kernel
theorem d_132_13 : decode prog_8_method_42_code 13 = .ok (.aload_n 0, 1) := by decide +kernel
theorem d_132_14 : decode prog_8_method_42_code 14 = .ok (.getfield 49, 3) := by decide +kernel
theorem d_132_17 : decode prog_8_method_42_code 17 = .ok (.aload_n 0, 1) := by decide +kernel
theorem d_132_18 : decode prog_8_method_42_code 18 = .ok (.getfield 137, 3) := by decide +kernel
theorem d_132_21 : decode prog_8_method_42_code 21 = .ok (.iaload, 1) := by decide +kernel
theorem d_132_22 : decode prog_8_method_42_code 22 = .ok (.i2l, 1) := by decide +kernel
theorem d_132_23 : decode prog_8_method_42_code 23 = .ok (.lcmp, 1) := by decide +kernel
theorem d_132_24 : decode prog_8_method_42_code 24 = .ok (.ifCond .ge 5, 3) := by decide +kernel
theorem d_132_27 : decode prog_8_method_42_code 27 = .ok (.iconst 1, 1) := by decide +kernel
theorem d_132_28 : decode prog_8_method_42_code 28 = .ok (.ireturn, 1) := by decide +kernel
theorem d_132_29 : decode prog_8_method_42_code 29 = .ok (.aload_n 0, 1) := by decide +kernel
theorem d_132_30 : decode prog_8_method_42_code 30 = .ok (.aload_n 0, 1) := by decide +kernel
theorem d_132_31 : decode prog_8_method_42_code 31 = .ok (.getfield 137, 3) := by decide +kernel
theorem d_132_34 : decode prog_8_method_42_code 34 = .ok (.lload_n 2, 1) := by decide +kernel
theorem d_132_35 : decode prog_8_method_42_code 35 = .ok (.lconst 1, 1) := by decide +kernel
theorem d_132_36 : decode prog_8_method_42_code 36 = .ok (.ladd, 1) := by decide +kernel
theorem d_132_37 : decode prog_8_method_42_code 37 = .ok (.invokevirtual 176, 3) := by decide +kernel
theorem d_132_40 : decode prog_8_method_42_code 40 = .ok (.ldc2_w 180, 3) := by decide +kernel
theorem d_132_43 : decode prog_8_method_42_code 43 = .ok (.lcmp, 1) := by decide +kernel
theorem d_132_44 : decode prog_8_method_42_code 44 = .ok (.ifCond .le 5, 3) := by decide +kernel
theorem d_132_47 : decode prog_8_method_42_code 47 = .ok (.iconst 0, 1) := by decide +kernel
theorem d_132_48 : decode prog_8_method_42_code 48 = .ok (.ireturn, 1) := by decide +kernel
theorem d_132_49 : decode prog_8_method_42_code 49 = .ok (.aload_n 0, 1) := by decide +kernel
theorem d_132_50 : decode prog_8_method_42_code 50 = .ok (.getfield 49, 3) := by decide +kernel
theorem d_132_53 : decode prog_8_method_42_code 53 = .ok (.aload_n 0, 1) := by decide +kernel
theorem d_132_54 : decode prog_8_method_42_code 54 = .ok (.getfield 137, 3) := by decide +kernel
theorem d_132_57 : decode prog_8_method_42_code 57 = .ok (.lload_n 2, 1) := by decide +kernel
theorem d_132_58 : decode prog_8_method_42_code 58 = .ok (.l2i, 1) := by decide +kernel
theorem d_132_59 : decode prog_8_method_42_code 59 = .ok (.iconst 1, 1) := by decide +kernel
theorem d_132_60 : decode prog_8_method_42_code 60 = .ok (.iadd, 1) := by decide +kernel
theorem d_132_61 : decode prog_8_method_42_code 61 = .ok (.iastore, 1) := by decide +kernel
theorem d_132_62 : decode prog_8_method_42_code 62 = .ok (.iconst 1, 1) := by decide +kernel
theorem d_132_63 : decode prog_8_method_42_code 63 = .ok (.ireturn, 1) := by decide +kernel
theorem d_133_0 : decode prog_8_method_40_code 0 = .ok (.sipush 800, 3) := by decide +kernel
theorem d_133_3 : decode prog_8_method_40_code 3 = .ok (.iconst 5, 1) := by decide +kernel
theorem d_133_4 : decode prog_8_method_40_code 4 = .ok (.aload_n 0, 1) := by decide +kernel
theorem d_133_5 : decode prog_8_method_40_code 5 = .ok (.getfield 137, 3) := by decide +kernel
theorem d_133_8 : decode prog_8_method_40_code 8 = .ok (.imul, 1) := by decide +kernel
theorem d_133_9 : decode prog_8_method_40_code 9 = .ok (.iload_n 1, 1) := by decide +kernel
theorem d_133_10 : decode prog_8_method_40_code 10 = .ok (.iadd, 1) := by decide +kernel
theorem d_133_11 : decode prog_8_method_40_code 11 = .ok (.imul, 1) := by decide +kernel
theorem d_133_12 : decode prog_8_method_40_code 12 = .ok (.lload_n 2, 1) := by decide +kernel
theorem d_133_13 : decode prog_8_method_40_code 13 = .ok (.l2i, 1) := by decide +kernel
theorem d_133_14 : decode prog_8_method_40_code 14 = .ok (.aload_n 0, 1) := by decide +kernel
theorem d_133_15 : decode prog_8_method_40_code 15 = .ok (.aload_n 0, 1) := by decide +kernel
theorem d_133_16 : decode prog_8_method_40_code 16 = .ok (.getfield 137, 3) := by decide +kernel
theorem d_133_19 : decode prog_8_method_40_code 19 = .ok (.iload_n 1, 1) := by decide +kernel
theorem d_133_20 : decode prog_8_method_40_code 20 = .ok (.iconst 1, 1) := by decide +kernel
theorem d_133_21 : decode prog_8_method_40_code 21 = .ok (.invokevirtual 71, 3) := by decide +kernel
theorem d_133_24 : decode prog_8_method_40_code 24 = .ok (.imul, 1) := by decide +kernel
theorem d_133_25 : decode prog_8_method_40_code 25 = .ok (.iadd, 1) := by decide +kernel
theorem d_133_26 : decode prog_8_method_40_code 26 = .ok (.lload 4, 2) := by decide +kernel
theorem d_133_28 : decode prog_8_method_40_code 28 = .ok (.l2i, 1) := by decide +kernel
theorem d_133_29 : decode prog_8_method_40_code 29 = .ok (.iadd, 1) := by decide +kernel
theorem d_133_30 : decode prog_8_method_40_code 30 = .ok (.ireturn, 1) := by decide +kernel
theorem d_134_0 : decode prog_8_method_43_code 0 = .ok (.aload_n 0, 1) := by decide +kernel
theorem d_134_1 : decode prog_8_method_43_code 1 = .ok (.getfield 140, 3) := by decide +kernel
theorem d_134_4 : decode prog_8_method_43_code 4 = .ok (.ifCond .eq 24, 3) := by decide +kernel
theorem d_134_7 : decode prog_8_method_43_code 7 = .ok (.aload_n 0, 1) := by decide +kernel
theorem d_134_8 : decode prog_8_method_43_code 8 = .ok (.iload_n 1, 1) := by decide +kernel
theorem d_134_9 : decode prog_8_method_43_code 9 = .ok (.invokevirtual 167, 3) := by decide +kernel
theorem d_134_12 : decode prog_8_method_43_code 12 = .ok (.ifCond .eq 16, 3) := by decide +kernel
theorem d_134_15 : decode prog_8_method_43_code 15 = .ok (.aload_n 0, 1) := by decide +kernel
theorem d_134_16 : decode prog_8_method_43_code 16 = .ok (.iload_n 1, 1) := by decide +kernel
theorem d_134_17 : decode prog_8_method_43_code 17 = .ok (.iload_n 2, 1) := by decide +kernel
theorem d_134_18 : decode prog_8_method_43_code 18 = .ok (.i2l, 1) := by decide +kernel
theorem d_134_19 : decode prog_8_method_43_code 19 = .ok (.iload_n 3, 1) := by decide +kernel
theorem d_134_20 : decode prog_8_method_43_code 20 = .ok (.i2l, 1) := by decide +kernel
theorem d_134_21 : decode prog_8_method_43_code 21 = .ok (.iconst 0, 1) := by decide +kernel
theorem d_134_22 : decode prog_8_method_43_code 22 = .ok (.invokevirtual 182, 3) := by decide +kernel
theorem d_134_25 : decode prog_8_method_43_code 25 = .ok (.ifCond .ne 7, 3) := by decide +kernel
theorem d_134_28 : decode prog_8_method_43_code 28 = .ok (.ldc2_w 194, 3) := by decide +kernel
theorem d_134_31 : decode prog_8_method_43_code 31 = .ok (.lreturn, 1) := by decide +kernel
theorem d_134_32 : decode prog_8_method_43_code 32 = .ok (.aload_n 0, 1) := by decide +kernel
theorem d_134_33 : decode prog_8_method_43_code 33 = .ok (.getfield 52, 3) := by decide +kernel
theorem d_134_36 : decode prog_8_method_43_code 36 = .ok (.aload_n 0, 1) := by decide +kernel
theorem d_134_37 : decode prog_8_method_43_code 37 = .ok (.iload_n 1, 1) := by decide +kernel
theorem d_134_38 : decode prog_8_method_43_code 38 = .ok (.iload_n 2, 1) := by decide +kernel
theorem d_134_39 : decode prog_8_method_43_code 39 = .ok (.i2l, 1) := by decide +kernel
theorem d_134_40 : decode prog_8_method_43_code 40 = .ok (.iload_n 3, 1) := by decide +kernel
theorem d_134_41 : decode prog_8_method_43_code 41 = .ok (.i2l, 1) := by decide +kernel
theorem d_134_42 : decode prog_8_method_43_code 42 = .ok (.invokevirtual 190, 3) := by decide +kernel
theorem d_134_45 : decode prog_8_method_43_code 45 = .ok (.iaload, 1) := by decide +kernel
theorem d_134_46 : decode prog_8_method_43_code 46 = .ok (.i2l, 1) := by decide +kernel
theorem d_134_47 : decode prog_8_method_43_code 47 = .ok (.lreturn, 1) := by decide +kernel
theorem d_135_0 : decode prog_8_method_44_code 0 = .ok (.iload_n 1, 1) := by decide +kernel
theorem d_135_1 : decode prog_8_method_44_code 1 = .ok (.ifCond .eq 11, 3) := by decide +kernel
theorem d_135_4 : decode prog_8_method_44_code 4 = .ok (.iload_n 1, 1) := by decide +kernel
theorem d_135_5 : decode prog_8_method_44_code 5 = .ok (.iconst 1, 1) := by decide +kernel
theorem d_135_6 : decode prog_8_method_44_code 6 = .ok (.if_icmp .eq 6, 3) := by decide +kernel
theorem d_135_9 : decode prog_8_method_44_code 9 = .ok (.bipush (-3), 2) := by decide +kernel
theorem d_135_11 : decode prog_8_method_44_code 11 = .ok (.ireturn, 1) := by decide +kernel
theorem d_135_12 : decode prog_8_method_44_code 12 = .ok (.iload_n 2, 1) := by decide +kernel
theorem d_135_13 : decode prog_8_method_44_code 13 = .ok (.ifCond .lt 27, 3) := by decide +kernel
theorem d_135_16 : decode prog_8_method_44_code 16 = .ok (.iload_n 3, 1) := by decide +kernel
theorem d_135_17 : decode prog_8_method_44_code 17 = .ok (.iconst 1, 1) := by decide +kernel
theorem d_135_18 : decode prog_8_method_44_code 18 = .ok (.if_icmp .lt 22, 3) := by decide +kernel
theorem d_135_21 : decode prog_8_method_44_code 21 = .ok (.iload_n 3, 1) := by decide +kernel
theorem d_135_22 : decode prog_8_method_44_code 22 = .ok (.bipush 8, 2) := by decide +kernel
theorem d_135_24 : decode prog_8_method_44_code 24 = .ok (.if_icmp .gt 16, 3) := by decide +kernel
theorem d_135_27 : decode prog_8_method_44_code 27 = .ok (.iload 4, 2) := by decide +kernel
theorem d_135_29 : decode prog_8_method_44_code 29 = .ok (.iconst 1, 1) := by decide +kernel
theorem d_135_30 : decode prog_8_method_44_code 30 = .ok (.if_icmp .lt 10, 3) := by decide +kernel
theorem d_135_33 : decode prog_8_method_44_code 33 = .ok (.iload 4, 2) := by decide +kernel
theorem d_135_35 : decode prog_8_method_44_code 35 = .ok (.bipush 8, 2) := by decide +kernel
theorem d_135_37 : decode prog_8_method_44_code 37 = .ok (.if_icmp .le 6, 3) := by decide +kernel
theorem d_135_40 : decode prog_8_method_44_code 40 = .ok (.bipush (-2), 2) := by decide +kernel
theorem d_135_42 : decode prog_8_method_44_code 42 = .ok (.ireturn, 1) := by decide +kernel
theorem d_135_43 : decode prog_8_method_44_code 43 = .ok (.aload_n 0, 1) := by decide +kernel
theorem d_135_44 : decode prog_8_method_44_code 44 = .ok (.getfield 55, 3) := by decide +kernel
theorem d_135_47 : decode prog_8_method_44_code 47 = .ok (.iload_n 1, 1) := by decide +kernel
theorem d_135_48 : decode prog_8_method_44_code 48 = .ok (.iload_n 2, 1) := by decide +kernel
theorem d_135_49 : decode prog_8_method_44_code 49 = .ok (.iastore, 1) := by decide +kernel
theorem d_135_50 : decode prog_8_method_44_code 50 = .ok (.aload_n 0, 1) := by decide +kernel
theorem d_135_51 : decode prog_8_method_44_code 51 = .ok (.getfield 58, 3) := by decide +kernel
theorem d_135_54 : decode prog_8_method_44_code 54 = .ok (.iload_n 1, 1) := by decide +kernel
theorem d_135_55 : decode prog_8_method_44_code 55 = .ok (.iload_n 3, 1) := by decide +kernel
theorem d_135_56 : decode prog_8_method_44_code 56 = .ok (.iastore, 1) := by decide +kernel
theorem d_135_57 : decode prog_8_method_44_code 57 = .ok (.aload_n 0, 1) := by decide +kernel
theorem d_135_58 : decode prog_8_method_44_code 58 = .ok (.getfield 61, 3) := by decide +kernel
theorem d_135_61 : decode prog_8_method_44_code 61 = .ok (.iload_n 1, 1) := by decide +kernel
theorem d_135_62 : decode prog_8_method_44_code 62 = .ok (.iload 4, 2) := by decide +kernel
theorem d_135_64 : decode prog_8_method_44_code 64 = .ok (.iastore, 1) := by decide +kernel
theorem d_135_65 : decode prog_8_method_44_code 65 = .ok (.iconst 0, 1) := by decide +kernel
theorem d_135_66 : decode prog_8_method_44_code 66 = .ok (.ireturn, 1) := by decide +kernel
theorem d_136_0 : decode prog_8_method_48_code 0 = .ok (.aload_n 0, 1) := by decide +kernel
theorem d_136_1 : decode prog_8_method_48_code 1 = .ok (.getfield 140, 3) := by decide +kernel
theorem d_136_4 : decode prog_8_method_48_code 4 = .ok (.ifCond .ne 5, 3) := by decide +kernel
theorem d_136_7 : decode prog_8_method_48_code 7 = .ok (.iconst (-1), 1) := by decide +kernel
theorem d_136_8 : decode prog_8_method_48_code 8 = .ok (.ireturn, 1) := by decide +kernel
theorem d_136_9 : decode prog_8_method_48_code 9 = .ok (.aload_n 0, 1) := by decide +kernel
theorem d_136_10 : decode prog_8_method_48_code 10 = .ok (.iload_n 1, 1) := by decide +kernel
theorem d_136_11 : decode prog_8_method_48_code 11 = .ok (.invokevirtual 167, 3) := by decide +kernel
theorem d_136_14 : decode prog_8_method_48_code 14 = .ok (.ifCond .ne 6, 3) := by decide +kernel
theorem d_136_17 : decode prog_8_method_48_code 17 = .ok (.bipush (-3), 2) := by decide +kernel
theorem d_136_19 : decode prog_8_method_48_code 19 = .ok (.ireturn, 1) := by decide +kernel
theorem d_136_20 : decode prog_8_method_48_code 20 = .ok (.aload_n 0, 1) := by decide +kernel
theorem d_136_21 : decode prog_8_method_48_code 21 = .ok (.iload_n 1, 1) := by decide +kernel
theorem d_136_22 : decode prog_8_method_48_code 22 = .ok (.iconst 1, 1) := by decide +kernel
theorem d_136_23 : decode prog_8_method_48_code 23 = .ok (.invokevirtual 203, 3) := by decide +kernel
theorem d_136_26 : decode prog_8_method_48_code 26 = .ok (.ifCond .ne 6, 3) := by decide +kernel
theorem d_136_29 : decode prog_8_method_48_code 29 = .ok (.bipush (-7), 2) := by decide +kernel
theorem d_136_31 : decode prog_8_method_48_code 31 = .ok (.ireturn, 1) := by decide +kernel
theorem d_136_32 : decode prog_8_method_48_code 32 = .ok (.aload_n 0, 1) := by decide +kernel
theorem d_136_33 : decode prog_8_method_48_code 33 = .ok (.iload_n 1, 1) := by decide +kernel
theorem d_136_34 : decode prog_8_method_48_code 34 = .ok (.iconst 0, 1) := by decide +kernel
theorem d_136_35 : decode prog_8_method_48_code 35 = .ok (.invokevirtual 196, 3) := by decide +kernel
theorem d_136_38 : decode prog_8_method_48_code 38 = .ok (.aload_n 0, 1) := by decide +kernel
theorem d_136_39 : decode prog_8_method_48_code 39 = .ok (.iload_n 1, 1) := by decide +kernel
theorem d_136_40 : decode prog_8_method_48_code 40 = .ok (.iconst 1, 1) := by decide +kernel
theorem d_136_41 : decode prog_8_method_48_code 41 = .ok (.invokevirtual 196, 3) := by decide +kernel
theorem d_136_44 : decode prog_8_method_48_code 44 = .ok (.imul, 1) := by decide +kernel
theorem d_136_45 : decode prog_8_method_48_code 45 = .ok (.istore 4, 2) := by decide +kernel
theorem d_136_47 : decode prog_8_method_48_code 47 = .ok (.iconst 0, 1) := by decide +kernel
theorem d_136_48 : decode prog_8_method_48_code 48 = .ok (.istore 5, 2) := by decide +kernel
theorem d_136_50 : decode prog_8_method_48_code 50 = .ok (.iload 5, 2) := by decide +kernel
theorem d_136_52 : decode prog_8_method_48_code 52 = .ok (.iload 4, 2) := by decide +kernel
theorem d_136_54 : decode prog_8_method_48_code 54 = .ok (.if_icmp .ge 37, 3) := by decide +kernel
theorem d_136_57 : decode prog_8_method_48_code 57 = .ok (.aload_n 0, 1) := by decide +kernel
theorem d_136_58 : decode prog_8_method_48_code 58 = .ok (.getfield 25, 3) := by decide +kernel
theorem d_136_61 : decode prog_8_method_48_code 61 = .ok (.iconst 5, 1) := by decide +kernel
theorem d_136_62 : decode prog_8_method_48_code 62 = .ok (.aload_n 0, 1) := by decide +kernel
theorem d_136_63 : decode prog_8_method_48_code 63 = .ok (.getfield 137, 3) := by decide +kernel
theorem d_136_66 : decode prog_8_method_48_code 66 = .ok (.imul, 1) := by decide +kernel
theorem d_136_67 : decode prog_8_method_48_code 67 = .ok (.iload_n 1, 1) := by decide +kernel
theorem d_136_68 : decode prog_8_method_48_code 68 = .ok (.iadd, 1) := by decide +kernel
theorem d_136_69 : decode prog_8_method_48_code 69 = .ok (.iaload, 1) := by decide +kernel
theorem d_136_70 : decode prog_8_method_48_code 70 = .ok (.iload_n 2, 1) := by decide +kernel
theorem d_136_71 : decode prog_8_method_48_code 71 = .ok (.iload 5, 2) := by decide +kernel
theorem d_136_73 : decode prog_8_method_48_code 73 = .ok (.iload_n 3, 1) := by decide +kernel
theorem d_136_74 : decode prog_8_method_48_code 74 = .ok (.imul, 1) := by decide +kernel
theorem d_136_75 : decode prog_8_method_48_code 75 = .ok (.iadd, 1) := by decide +kernel
theorem d_136_76 : decode prog_8_method_48_code 76 = .ok (.invokestatic 170, 3) := by decide +kernel
theorem d_136_79 : decode prog_8_method_48_code 79 = .ok (.ifCond .ne 6, 3) := by decide +kernel
theorem d_136_82 : decode prog_8_method_48_code 82 = .ok (.bipush (-6), 2) := by decide +kernel
theorem d_136_84 : decode prog_8_method_48_code 84 = .ok (.ireturn, 1) := by decide +kernel
theorem d_136_85 : decode prog_8_method_48_code 85 = .ok (.iinc 5 1, 3) := by decide +kernel
theorem d_136_88 : decode prog_8_method_48_code 88 = .ok (.goto (-38), 3) := by decide +kernel
theorem d_136_91 : decode prog_8_method_48_code 91 = .ok (.aload_n 0, 1) := by decide +kernel
theorem d_136_92 : decode prog_8_method_48_code 92 = .ok (.iload_n 1, 1) := by decide +kernel
theorem d_136_93 : decode prog_8_method_48_code 93 = .ok (.aload_n 0, 1) := by decide +kernel
theorem d_136_94 : decode prog_8_method_48_code 94 = .ok (.iload_n 1, 1) := by decide +kernel
theorem d_136_95 : decode prog_8_method_48_code 95 = .ok (.iconst 0, 1) := by decide +kernel
theorem d_136_96 : decode prog_8_method_48_code 96 = .ok (.aload_n 0, 1) := by decide +kernel
theorem d_136_97 : decode prog_8_method_48_code 97 = .ok (.iload_n 1, 1) := by decide +kernel
theorem d_136_98 : decode prog_8_method_48_code 98 = .ok (.iconst 0, 1) := by decide +kernel
theorem d_136_99 : decode prog_8_method_48_code 99 = .ok (.invokevirtual 196, 3) := by decide +kernel
theorem d_136_102 : decode prog_8_method_48_code 102 = .ok (.iconst 1, 1) := by decide +kernel
theorem d_136_103 : decode prog_8_method_48_code 103 = .ok (.isub, 1) := by decide +kernel
theorem d_136_104 : decode prog_8_method_48_code 104 = .ok (.invokevirtual 199, 3) := by decide +kernel
theorem d_136_107 : decode prog_8_method_48_code 107 = .ok (.invokevirtual 186, 3) := by decide +kernel
