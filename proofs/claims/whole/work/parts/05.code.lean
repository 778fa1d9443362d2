/-! the program as blocks (printed by my program out of the listing) -/
abbrev dvX0 : List Value := [.int 0, .null, .null, .null, .null]
abbrev dvX1 : List Value := [.null, .int 0, .int 0]
abbrev dvX2 : List Value := [.int 0, .int 0, .int 0]
abbrev dvX3 : List Value := [.int 0, .int 0, .null, .null, .int 0, .null, .null, .null]
abbrev dvX4 : List Value := [.int 0, .int 0, .int 0, .int 0, .int 0, .int 0, .null, .null]
abbrev dvX5 : List Value := [.null, .null, .int 0, .null, .null, .null, .null, .null]
abbrev dvX6 : List Value := [.int 0, .int 0, .null, .null, .null, .null, .null, .null, .null, .null, .null, .null, .null, .null, .null, .null, .null, .null, .null, .null, .null, .int 0, .null, .int 0, .int 0, .int 0]
abbrev I_0 : am_I := ("SlabImage", prog_1_method_1_code, 1, (Option.none : Option FieldType), true)
abbrev I_1 : am_I := ("SlabImage$Store", prog_5_method_1_code, 2, (Option.none : Option FieldType), true)
abbrev I_2 : am_I := ("SlabImage$Variable", prog_6_method_1_code, 1, (Option.none : Option FieldType), true)
abbrev I_3 : am_I := ("SlabImage$AttributeList", prog_2_method_1_code, 1, (Option.none : Option FieldType), true)
abbrev I_4 : am_I := ("SlabImage$Selection", prog_4_method_1_code, 1, (Option.none : Option FieldType), true)
abbrev I_5 : am_I := ("SlabImage$ByteRow", prog_3_method_1_code, 1, (Option.none : Option FieldType), true)
abbrev I_6 : am_I := ("SlabImage", prog_1_method_2_code, 3, (Option.some FieldType.int), false)
abbrev I_7 : am_I := ("SlabImage$Store", prog_5_method_3_code, 3, (Option.some FieldType.int), false)
abbrev I_8 : am_I := ("SlabImage", prog_1_method_23_code, 1, (Option.some FieldType.boolean), false)
abbrev I_9 : am_I := ("SlabImage", prog_1_method_28_code, 4, (Option.some FieldType.int), false)
abbrev I_10 : am_I := ("SlabImage$Store", prog_5_method_4_code, 2, (Option.some FieldType.boolean), false)
abbrev I_11 : am_I := ("SlabImage", prog_1_method_3_code, 5, (Option.some FieldType.int), false)
abbrev I_12 : am_I := ("SlabImage$Store", prog_5_method_5_code, 5, (Option.some FieldType.int), false)
abbrev I_13 : am_I := ("SlabImage", prog_1_method_24_code, 1, (Option.some FieldType.boolean), false)
abbrev I_14 : am_I := ("SlabImage$Store", prog_5_method_7_code, 2, (Option.some FieldType.boolean), false)
abbrev I_15 : am_I := ("SlabImage$Store", prog_5_method_6_code, 2, (Option.some FieldType.boolean), false)
abbrev I_16 : am_I := ("SlabImage$Store", prog_5_method_8_code, 2, (Option.some FieldType.int), false)
abbrev I_17 : am_I := ("SlabImage$Variable", prog_6_method_2_code, 5, (Option.none : Option FieldType), false)
abbrev I_18 : am_I := ("SlabImage$Variable", prog_6_method_3_code, 2, (Option.none : Option FieldType), false)
abbrev I_19 : am_I := ("java/util/Arrays", prog_9_method_103_code, 4, (Option.none : Option FieldType), false)
abbrev I_20 : am_I := ("SlabImage", prog_1_method_4_code, 7, (Option.some FieldType.int), false)
abbrev I_21 : am_I := ("SlabImage$Store", prog_5_method_10_code, 3, (Option.some (FieldType.object "SlabImage$AttributeList")), false)
abbrev I_22 : am_I := ("SlabImage$Store", prog_5_method_9_code, 2, (Option.some (FieldType.object "SlabImage$Variable")), false)
abbrev I_23 : am_I := ("SlabImage$AttributeList", prog_2_method_3_code, 6, (Option.some FieldType.int), false)
abbrev I_24 : am_I := ("SlabImage", prog_1_method_25_code, 2, (Option.some FieldType.boolean), false)
abbrev I_25 : am_I := ("SlabImage", prog_1_method_5_code, 4, (Option.some FieldType.int), false)
abbrev I_26 : am_I := ("SlabImage$AttributeList", prog_2_method_4_code, 4, (Option.some FieldType.int), false)
abbrev I_27 : am_I := ("SlabImage", prog_1_method_6_code, 4, (Option.some FieldType.int), false)
abbrev I_28 : am_I := ("SlabImage$Store", prog_5_method_12_code, 3, (Option.some FieldType.int), false)
abbrev I_29 : am_I := ("SlabImage$Store", prog_5_method_13_code, 5, (Option.some FieldType.int), false)
abbrev I_30 : am_I := ("SlabImage$Store", prog_5_method_11_code, 3, (Option.some FieldType.int), false)
abbrev I_31 : am_I := ("SlabImage", prog_1_method_7_code, 3, (Option.some FieldType.int), false)
abbrev I_32 : am_I := ("SlabImage$Store", prog_5_method_20_code, 3, (Option.some FieldType.long), false)
abbrev I_33 : am_I := ("SlabImage$Store", prog_5_method_17_code, 3, (Option.some FieldType.int), false)
abbrev I_34 : am_I := ("SlabImage$AttributeList", prog_2_method_5_code, 3, (Option.some FieldType.int), false)
abbrev I_35 : am_I := ("SlabImage", prog_1_method_27_code, 1, (Option.some FieldType.int), false)
abbrev I_36 : am_I := ("SlabImage$Variable", prog_6_method_11_code, 1, (Option.some FieldType.int), false)
abbrev I_37 : am_I := ("SlabImage$Variable", prog_6_method_4_code, 1, (Option.some FieldType.int), false)
abbrev I_38 : am_I := ("SlabImage$Store", prog_5_method_18_code, 5, (Option.some FieldType.int), false)
abbrev I_39 : am_I := ("SlabImage$Variable", prog_6_method_10_code, 1, (Option.some FieldType.int), false)
abbrev I_40 : am_I := ("SlabImage$Variable", prog_6_method_9_code, 1, (Option.some FieldType.int), false)
abbrev I_41 : am_I := ("SlabImage$Store", prog_5_method_19_code, 3, (Option.some FieldType.int), false)
abbrev I_42 : am_I := ("SlabImage$Store", prog_5_method_16_code, 3, (Option.some FieldType.int), false)
abbrev I_43 : am_I := ("SlabImage", prog_1_method_8_code, 1, (Option.some FieldType.int), false)
abbrev I_44 : am_I := ("SlabImage", prog_1_method_9_code, 6, (Option.some FieldType.int), false)
abbrev I_45 : am_I := ("SlabImage$Variable", prog_6_method_5_code, 5, (Option.some FieldType.boolean), false)
abbrev I_46 : am_I := ("SlabImage$Store", prog_5_method_15_code, 4, (Option.some FieldType.boolean), false)
abbrev I_47 : am_I := ("SlabImage$Variable", prog_6_method_7_code, 5, (Option.none : Option FieldType), false)
abbrev I_48 : am_I := ("SlabImage", prog_1_method_10_code, 5, (Option.some FieldType.long), false)
abbrev I_49 : am_I := ("SlabImage$Store", prog_5_method_14_code, 6, (Option.some FieldType.boolean), false)
abbrev I_50 : am_I := ("SlabImage$Variable", prog_6_method_6_code, 4, (Option.some FieldType.int), false)
abbrev I_51 : am_I := ("SlabImage", prog_1_method_11_code, 6, (Option.some FieldType.int), false)
abbrev I_52 : am_I := ("SlabImage$Selection", prog_4_method_2_code, 4, (Option.none : Option FieldType), false)
abbrev I_53 : am_I := ("SlabImage", prog_1_method_12_code, 8, (Option.some FieldType.int), false)
abbrev I_54 : am_I := ("SlabImage", prog_1_method_21_code, 2, (Option.some (FieldType.object "SlabImage$Selection")), false)
abbrev I_55 : am_I := ("SlabImage", prog_1_method_22_code, 2, (Option.some (FieldType.object "SlabImage$Selection")), false)
abbrev I_56 : am_I := ("SlabImage$Selection", prog_4_method_3_code, 1, (Option.some FieldType.long), false)
abbrev I_57 : am_I := ("SlabImage", prog_1_method_26_code, 5, (Option.some FieldType.boolean), false)
abbrev I_58 : am_I := ("SlabImage$Variable", prog_6_method_8_code, 8, (Option.none : Option FieldType), false)
abbrev I_59 : am_I := ("SlabImage$Selection", prog_4_method_4_code, 2, (Option.some FieldType.int), false)
abbrev I_60 : am_I := ("SlabImage", prog_1_method_13_code, 6, (Option.some FieldType.long), false)
abbrev I_61 : am_I := ("SlabImage", prog_1_method_14_code, 1, (Option.some FieldType.int), false)
abbrev I_62 : am_I := ("SlabImage", prog_1_method_15_code, 1, (Option.some FieldType.int), false)
abbrev I_63 : am_I := ("SlabImage", prog_1_method_16_code, 2, (Option.some FieldType.int), false)
abbrev I_64 : am_I := ("SlabImage$Store", prog_5_method_21_code, 2, (Option.some FieldType.int), false)
abbrev I_65 : am_I := ("SlabImage", prog_1_method_17_code, 5, (Option.some FieldType.long), false)
abbrev I_66 : am_I := ("SlabImage$Store", prog_5_method_22_code, 3, (Option.none : Option FieldType), false)
abbrev I_67 : am_I := ("SlabImage$ByteRow", prog_3_method_2_code, 1, (Option.none : Option FieldType), false)
abbrev I_68 : am_I := ("SlabImage$ByteRow", prog_3_method_5_code, 2, (Option.none : Option FieldType), false)
abbrev I_69 : am_I := ("SlabImage$ByteRow", prog_3_method_4_code, 4, (Option.none : Option FieldType), false)
abbrev I_70 : am_I := ("SlabImage$ByteRow", prog_3_method_3_code, 2, (Option.none : Option FieldType), false)
abbrev I_71 : am_I := ("SlabImage$ByteRow", prog_3_method_7_code, 3, (Option.none : Option FieldType), false)
abbrev I_72 : am_I := ("SlabImage$ByteRow", prog_3_method_6_code, 2, (Option.none : Option FieldType), false)
abbrev I_73 : am_I := ("SlabImage$AttributeList", prog_2_method_6_code, 3, (Option.none : Option FieldType), false)
abbrev I_74 : am_I := ("SlabImage$ByteRow", prog_3_method_8_code, 3, (Option.none : Option FieldType), false)
abbrev I_75 : am_I := ("SlabImage$Store", prog_5_method_23_code, 5, (Option.none : Option FieldType), false)
abbrev I_76 : am_I := ("SlabImage$Store", prog_5_method_24_code, 4, (Option.none : Option FieldType), false)
abbrev I_77 : am_I := ("SlabImage$Variable", prog_6_method_12_code, 4, (Option.none : Option FieldType), false)
abbrev I_78 : am_I := ("SlabImage$Store", prog_5_method_25_code, 5, (Option.none : Option FieldType), false)
abbrev I_79 : am_I := ("SlabImage$ByteRow", prog_3_method_9_code, 2, (Option.some FieldType.int), false)
abbrev I_80 : am_I := ("SlabImage", prog_1_method_18_code, 5, (Option.some FieldType.boolean), false)
abbrev I_81 : am_I := ("SlabImage", prog_1_method_19_code, 1, (Option.none : Option FieldType), false)
abbrev I_82 : am_I := ("SlabImage", prog_1_method_20_code, 2, (Option.some FieldType.int), false)
abbrev I_83 : am_I := ("SlabImage$Store", prog_5_method_2_code, 2, (Option.none : Option FieldType), false)
abbrev I_84 : am_I := ("SlabImage$AttributeList", prog_2_method_2_code, 1, (Option.none : Option FieldType), false)
abbrev I_85 : am_I := ("SlabImage$Store", prog_5_method_26_code, 3, (Option.some FieldType.boolean), false)
abbrev I_86 : am_I := ("SlabImage$ByteRow", prog_3_method_10_code, 1, (Option.none : Option FieldType), false)
abbrev I_87 : am_I := ("SlabImage$ByteRow", prog_3_method_12_code, 1, (Option.some FieldType.int), false)
abbrev I_88 : am_I := ("SlabImage$ByteRow", prog_3_method_11_code, 4, (Option.some FieldType.int), false)
abbrev I_89 : am_I := ("SlabImage$Store", prog_5_method_27_code, 6, (Option.some FieldType.boolean), false)
abbrev I_90 : am_I := ("SlabImage$ByteRow", prog_3_method_14_code, 1, (Option.some FieldType.int), false)
abbrev I_91 : am_I := ("SlabImage$ByteRow", prog_3_method_13_code, 1, (Option.some FieldType.int), false)
abbrev I_92 : am_I := ("SlabImage$AttributeList", prog_2_method_7_code, 8, (Option.some FieldType.boolean), false)
abbrev I_93 : am_I := ("SlabImage$ByteRow", prog_3_method_15_code, 3, (Option.some FieldType.int), false)
abbrev I_94 : am_I := ("SlabImage$ByteRow", prog_3_method_16_code, 1, (Option.none : Option FieldType), false)
abbrev I_95 : am_I := ("SlabImage$Store", prog_5_method_28_code, 4, (Option.some FieldType.boolean), false)
abbrev I_96 : am_I := ("SlabImage$Store", prog_5_method_29_code, 8, (Option.some FieldType.boolean), false)
abbrev I_97 : am_I := ("SlabImage$Store", prog_5_method_30_code, 4, (Option.none : Option FieldType), false)
abbrev I_98 : am_I := ("SlabImage$Variable", prog_6_method_13_code, 4, (Option.none : Option FieldType), false)
abbrev I_99 : am_I := ("SlabImage$Store", prog_5_method_31_code, 5, (Option.none : Option FieldType), false)
abbrev I_100 : am_I := ("SlabImage$ByteRow", prog_3_method_17_code, 3, (Option.some FieldType.boolean), false)
abbrev I_101 : am_I := ("SlabImageModel", prog_8_method_1_code, 1, (Option.none : Option FieldType), true)
abbrev I_102 : am_I := ("SlabImageModel", prog_8_method_30_code, 4, (Option.some FieldType.int), false)
abbrev I_103 : am_I := ("SlabImageModel", prog_8_method_2_code, 1, (Option.some FieldType.boolean), false)
abbrev I_104 : am_I := ("SlabImageModel", prog_8_method_27_code, 6, (Option.some FieldType.boolean), false)
abbrev I_105 : am_I := ("SlabImageModel", prog_8_method_29_code, 4, (Option.some FieldType.int), false)
abbrev I_106 : am_I := ("SlabImageModel", prog_8_method_32_code, 7, (Option.some FieldType.int), false)
abbrev I_107 : am_I := ("SlabImageModel", prog_8_method_25_code, 2, (Option.some FieldType.boolean), false)
abbrev I_108 : am_I := ("SlabImageModel", prog_8_method_28_code, 6, (Option.some FieldType.boolean), false)
abbrev I_109 : am_I := ("SlabImageModel", prog_8_method_31_code, 4, (Option.none : Option FieldType), false)
abbrev I_110 : am_I := ("SlabImageModel", prog_8_method_4_code, 1, (Option.some FieldType.int), false)
abbrev I_111 : am_I := ("SlabImageModel", prog_8_method_34_code, 8, (Option.some FieldType.int), false)
abbrev I_112 : am_I := ("SlabImageModel", prog_8_method_26_code, 2, (Option.some FieldType.boolean), false)
abbrev I_113 : am_I := ("SlabImageModel", prog_8_method_5_code, 2, (Option.some FieldType.boolean), false)
abbrev I_114 : am_I := ("SlabImageModel", prog_8_method_33_code, 5, (Option.some FieldType.int), false)
abbrev I_115 : am_I := ("SlabImageModel", prog_8_method_35_code, 7, (Option.some FieldType.int), false)
abbrev I_116 : am_I := ("SlabImageModel", prog_8_method_36_code, 4, (Option.some FieldType.int), false)
abbrev I_117 : am_I := ("SlabImageModel", prog_8_method_37_code, 3, (Option.some FieldType.int), false)
abbrev I_118 : am_I := ("SlabImageModel", prog_8_method_15_code, 4, (Option.some FieldType.long), false)
abbrev I_119 : am_I := ("SlabImageModel", prog_8_method_13_code, 7, (Option.some FieldType.int), false)
abbrev I_120 : am_I := ("SlabImageModel", prog_8_method_7_code, 3, (Option.some FieldType.boolean), false)
abbrev I_121 : am_I := ("SlabImageModel", prog_8_method_6_code, 4, (Option.some FieldType.int), false)
abbrev I_122 : am_I := ("SlabImageModel", prog_8_method_12_code, 4, (Option.some FieldType.int), false)
abbrev I_123 : am_I := ("SlabImageModel", prog_8_method_11_code, 5, (Option.some FieldType.int), false)
abbrev I_124 : am_I := ("SlabImageModel", prog_8_method_9_code, 3, (Option.some FieldType.int), false)
abbrev I_125 : am_I := ("SlabImageModel", prog_8_method_8_code, 4, (Option.some FieldType.int), false)
abbrev I_126 : am_I := ("SlabImageModel", prog_8_method_3_code, 1, (Option.some FieldType.int), false)
abbrev I_127 : am_I := ("SlabImageModel", prog_8_method_14_code, 6, (Option.some FieldType.int), false)
abbrev I_128 : am_I := ("SlabImageModel", prog_8_method_10_code, 4, (Option.some FieldType.int), false)
abbrev I_129 : am_I := ("SlabImageModel", prog_8_method_38_code, 1, (Option.some FieldType.int), false)
abbrev I_130 : am_I := ("SlabImageModel", prog_8_method_41_code, 5, (Option.some FieldType.int), false)
abbrev I_131 : am_I := ("SlabImageModel", prog_8_method_39_code, 7, (Option.some FieldType.boolean), false)
abbrev I_132 : am_I := ("SlabImageModel", prog_8_method_42_code, 4, (Option.some FieldType.boolean), false)
abbrev I_133 : am_I := ("SlabImageModel", prog_8_method_40_code, 6, (Option.some FieldType.int), false)
abbrev I_134 : am_I := ("SlabImageModel", prog_8_method_43_code, 4, (Option.some FieldType.long), false)
abbrev I_135 : am_I := ("SlabImageModel", prog_8_method_44_code, 5, (Option.some FieldType.int), false)
abbrev I_136 : am_I := ("SlabImageModel", prog_8_method_48_code, 6, (Option.some FieldType.int), false)
abbrev I_137 : am_I := ("SlabImageModel", prog_8_method_47_code, 5, (Option.some FieldType.boolean), false)
abbrev I_138 : am_I := ("SlabImageModel", prog_8_method_45_code, 3, (Option.some FieldType.int), false)
abbrev I_139 : am_I := ("SlabImageModel", prog_8_method_46_code, 4, (Option.some FieldType.long), false)
abbrev I_140 : am_I := ("SlabImageModel", prog_8_method_49_code, 3, (Option.some FieldType.long), false)
abbrev I_141 : am_I := ("SlabImageModel", prog_8_method_50_code, 1, (Option.some FieldType.int), false)
abbrev I_142 : am_I := ("SlabImageModel", prog_8_method_51_code, 1, (Option.some FieldType.int), false)
abbrev I_143 : am_I := ("SlabImageModel", prog_8_method_52_code, 2, (Option.some FieldType.int), false)
abbrev I_144 : am_I := ("SlabImageModel", prog_8_method_53_code, 7, (Option.some FieldType.long), false)
abbrev I_145 : am_I := ("SlabImageModel", prog_8_method_24_code, 5, (Option.none : Option FieldType), false)
abbrev I_146 : am_I := ("SlabImageModel", prog_8_method_17_code, 4, (Option.none : Option FieldType), false)
abbrev I_147 : am_I := ("SlabImageModel", prog_8_method_16_code, 2, (Option.none : Option FieldType), false)
abbrev I_148 : am_I := ("SlabImageModel", prog_8_method_20_code, 3, (Option.none : Option FieldType), false)
abbrev I_149 : am_I := ("SlabImageModel", prog_8_method_18_code, 2, (Option.none : Option FieldType), false)
abbrev I_150 : am_I := ("SlabImageModel", prog_8_method_21_code, 5, (Option.none : Option FieldType), false)
abbrev I_151 : am_I := ("SlabImageModel", prog_8_method_19_code, 2, (Option.none : Option FieldType), false)
abbrev I_152 : am_I := ("SlabImageModel", prog_8_method_22_code, 6, (Option.none : Option FieldType), false)
abbrev I_153 : am_I := ("SlabImageModel", prog_8_method_23_code, 9, (Option.none : Option FieldType), false)
abbrev I_154 : am_I := ("SlabImageModel", prog_8_method_54_code, 5, (Option.some FieldType.boolean), false)
abbrev I_155 : am_I := ("SlabImageModel", prog_8_method_55_code, 1, (Option.none : Option FieldType), false)
abbrev I_156 : am_I := ("SlabImageModel", prog_8_method_66_code, 3, (Option.some FieldType.int), false)
abbrev I_157 : am_I := ("SlabImageModel", prog_8_method_63_code, 4, (Option.some FieldType.boolean), false)
abbrev I_158 : am_I := ("SlabImageModel", prog_8_method_56_code, 4, (Option.some FieldType.int), false)
abbrev I_159 : am_I := ("SlabImageModel", prog_8_method_61_code, 6, (Option.some FieldType.boolean), false)
abbrev I_160 : am_I := ("SlabImageModel", prog_8_method_59_code, 3, (Option.some FieldType.int), false)
abbrev I_161 : am_I := ("SlabImageModel", prog_8_method_58_code, 1, (Option.some FieldType.int), false)
abbrev I_162 : am_I := ("SlabImageModel", prog_8_method_60_code, 7, (Option.some FieldType.boolean), false)
abbrev I_163 : am_I := ("SlabImageModel", prog_8_method_57_code, 3, (Option.some FieldType.int), false)
abbrev I_164 : am_I := ("SlabImageModel", prog_8_method_62_code, 6, (Option.some FieldType.boolean), false)
abbrev I_165 : am_I := ("SlabImageModel", prog_8_method_65_code, 5, (Option.none : Option FieldType), false)
abbrev I_166 : am_I := ("SlabImageModel", prog_8_method_64_code, 8, (Option.none : Option FieldType), false)
abbrev I_167 : am_I := ("SlabImageLaw", code, 4, (some .boolean), false)
/-- SlabImage.<init> from 0 -/
def b_0 : am_B := fun k d => (i_aload 0 (i_obj d (i_aload 0 (i_new 3 dvX3 (i_dup (i_recv 3 0 (i_call k d 1 1 2 (i_putR 5 0 (i_aload 0 (i_new 3 dvX3 (i_dup (i_recv 3 0 (i_call k d 1 1 2 (i_putR 5 1 (i_aload 0 (i_int 1 (i_putZ 5 2 (i_aload 0 (i_new 2 dvX2 (i_dup (i_recv 2 0 (i_call k d 5 1 1 (i_putR 5 3 (i_aload 0 (i_new 2 dvX2 (i_dup (i_recv 2 0 (i_call k d 5 1 1 (i_putR 5 4 (i_aload 0 (i_new 2 dvX2 (i_dup (i_recv 2 0 (i_call k d 5 1 1 (i_putR 5 5 (i_aload 0 (i_new 1 dvX1 (i_dup (i_recv 1 0 (i_call k d 6 1 1 (i_putR 5 6 (i_aload 0 (i_new 1 dvX1 (i_dup (i_recv 1 0 (i_call k d 6 1 1 (i_putR 5 7 i_vret)))))))))))))))))))))))))))))))))))))))))))))))
/-- SlabImage$Store.<init> from 0 -/
def b_1 : am_B := fun k d => (i_aload 0 (i_obj d (i_aload 0 (i_int 0 (i_putI 3 0 (i_aload 0 (i_int 0 (i_putI 3 1 (i_aload 0 (i_int 4 (i_newi 0 (i_putR 3 2 (i_aload 0 (i_int 4 (i_newi 0 (i_putR 3 3 (i_aload 0 (i_int 0 (i_putI 3 4 (i_aload 0 (i_int 5 (i_newi 0 (i_putR 3 5 (i_aload 0 (i_int 5 (i_newq (i_putR 3 6 (i_int 0 (i_istore 1 (k d 2))))))))))))))))))))))))))))))
/-- SlabImage$Store.<init> from 50 -/
def b_2 : am_B := fun k d => (i_iload 1 (i_int 5 (i_cmpge (i_aload 0 (i_new 0 dvX0 (i_dup (i_recv 0 0 (i_call k d 4 1 1 (i_putR 3 7 i_vret)))))) (i_aload 0 (i_getf 3 6 (i_iload 1 (i_new 4 dvX4 (i_dup (i_recv 4 0 (i_call k d 3 1 1 (i_aast 4 (i_iinc 1 1 (k d 2)))))))))))))
/-- SlabImage$Variable.<init> from 0 -/
def b_3 : am_B := fun k d => (i_aload 0 (i_obj d (i_aload 0 (i_int 1 (i_putI 4 0 (i_aload 0 (i_int (-1) (i_putI 4 1 (i_aload 0 (i_int (-1) (i_putI 4 2 (i_aload 0 (i_int 0 (i_putZ 4 3 (i_aload 0 (i_int 1 (i_putI 4 4 (i_aload 0 (i_int 1 (i_putI 4 5 (i_aload 0 (i_new 0 dvX0 (i_dup (i_recv 0 0 (i_call k d 4 1 1 (i_putR 4 6 (i_aload 0 (i_int 800 (i_newi 0 (i_putR 4 7 i_vret))))))))))))))))))))))))))))))
/-- SlabImage$AttributeList.<init> from 0 -/
def b_4 : am_B := fun k d => (i_aload 0 (i_obj d (i_aload 0 (i_int 0 (i_putI 0 0 (i_aload 0 (i_int 3 (i_newi 0 (i_putR 0 1 (i_aload 0 (i_int 3 (i_newi 0 (i_putR 0 2 (i_aload 0 (i_int 3 (i_newi 0 (i_putR 0 3 (i_aload 0 (i_int 3 (i_newi 0 (i_putR 0 4 i_vret)))))))))))))))))))))
/-- SlabImage$Selection.<init> from 0 -/
def b_5 : am_B := fun k d => (i_aload 0 (i_obj d (i_aload 0 (i_int 0 (i_putI 2 0 (i_aload 0 (i_int 1 (i_putI 2 1 (i_aload 0 (i_int 1 (i_putI 2 2 i_vret)))))))))))
/-- SlabImage$ByteRow.<init> from 0 -/
def b_6 : am_B := fun k d => (i_aload 0 (i_obj d (i_aload 0 (i_int 800 (i_newi 1 (i_putR 1 0 (i_aload 0 (i_int 0 (i_putI 1 1 (i_aload 0 (i_int 0 (i_putI 1 2 i_vret))))))))))))
/-- SlabImage.dimension from 0 -/
def b_7 : am_B := fun k d => (i_aload 0 (i_getf 5 2 (i_ifeq (i_int (-1) i_iret) (i_aload 0 (i_getf 5 0 (i_iload 1 (i_iload 2 (i_recv 3 2 (i_call k d 8 3 3 i_iret)))))))))
/-- SlabImage$Store.defineDimension from 0 -/
def b_8 : am_B := fun k d => (i_iload 1 (i_call k d 10 1 1 (i_ifeq (i_int (-2) i_iret) (i_iload 2 (i_iflt (i_int (-2) i_iret) (i_iload 2 (i_int 8 (i_cmple (i_iload 1 (i_aload 0 (i_getf 3 2 (i_aload 0 (i_getf 3 1 (i_call k d 11 3 4 (i_iflt (i_aload 0 (i_getf 3 1 (i_int 4 (i_cmpge (i_int (-5) i_iret) (i_iload 2 (i_ifne (k d 9) (i_aload 0 (i_recv 3 0 (i_call k d 13 1 2 (i_ifeq (k d 9) (i_int (-5) i_iret))))))))))) (i_int (-4) i_iret)))))))) (i_int (-2) i_iret)))))))))
/-- SlabImage$Store.defineDimension from 60 -/
def b_9 : am_B := fun k d => (i_aload 0 (i_getf 3 2 (i_aload 0 (i_getf 3 1 (i_iload 1 (i_iast 0 (fun x => x) (i_aload 0 (i_getf 3 3 (i_aload 0 (i_getf 3 1 (i_iload 2 (i_iast 0 (fun x => x) (i_aload 0 (i_dup (i_getf 3 1 (i_int 1 (i_ii (fun x y => x + y) (i_putI 3 1 (i_aload 0 (i_getf 3 1 (i_int 1 (i_ii (fun x y => x - y) i_iret))))))))))))))))))))))
/-- SlabImage.isName from 0 -/
def b_10 : am_B := fun k d => (i_iload 0 (i_int 33 (i_cmplt (i_int 0 i_zret) (i_iload 0 (i_int 126 (i_cmpgt (i_int 0 i_zret) (i_int 1 i_zret)))))))
/-- SlabImage.placeOf from 0 -/
def b_11 : am_B := fun k d => (i_int 0 (i_istore 3 (k d 12)))
/-- SlabImage.placeOf from 2 -/
def b_12 : am_B := fun k d => (i_iload 3 (i_iload 2 (i_cmpge (i_int (-1) i_iret) (i_iload 3 (i_aload 1 (i_alen (i_cmpge (i_int (-1) i_iret) (i_aload 1 (i_iload 3 (i_iald 0 (i_iload 0 (i_cmpne (i_iinc 3 1 (k d 12)) (i_iload 3 i_iret)))))))))))))
/-- SlabImage$Store.hasGrowingDimension from 0 -/
def b_13 : am_B := fun k d => (i_int 0 (i_istore 1 (k d 14)))
/-- SlabImage$Store.hasGrowingDimension from 2 -/
def b_14 : am_B := fun k d => (i_iload 1 (i_aload 0 (i_getf 3 1 (i_cmpge (i_int 0 i_zret) (i_aload 0 (i_getf 3 3 (i_iload 1 (i_iald 0 (i_ifne (i_iinc 1 1 (k d 14)) (i_int 1 i_zret))))))))))
/-- SlabImage.variable from 0 -/
def b_15 : am_B := fun k d => (i_aload 0 (i_getf 5 2 (i_ifeq (i_int (-1) i_iret) (i_aload 0 (i_getf 5 0 (i_iload 1 (i_iload 2 (i_iload 3 (i_iload 4 (i_recv 3 4 (i_call k d 16 5 5 i_iret)))))))))))
/-- SlabImage$Store.defineVariable from 0 -/
def b_16 : am_B := fun k d => (i_iload 1 (i_call k d 10 1 1 (i_ifeq (i_int (-2) i_iret) (i_iload 2 (i_call k d 18 1 1 (i_ifne (i_aload 0 (i_iload 3 (i_recv 3 1 (i_call k d 19 2 2 (i_ifeq (i_int (-3) i_iret) (i_aload 0 (i_iload 4 (i_recv 3 1 (i_call k d 19 2 2 (i_ifeq (i_int (-3) i_iret) (i_iload 3 (i_int (-1) (i_cmpne (k d 17) (i_iload 4 (i_int (-1) (i_cmpeq (k d 17) (i_int (-3) i_iret))))))))))))))))) (i_int (-2) i_iret)))))))
/-- SlabImage$Store.defineVariable from 48 -/
def b_17 : am_B := fun k d => (i_aload 0 (i_iload 4 (i_recv 3 1 (i_call k d 21 2 2 (i_ifne (i_iload 1 (i_aload 0 (i_getf 3 5 (i_aload 0 (i_getf 3 4 (i_call k d 11 3 4 (i_iflt (i_aload 0 (i_getf 3 4 (i_int 5 (i_cmplt (i_aload 0 (i_getf 3 5 (i_aload 0 (i_getf 3 4 (i_iload 1 (i_iast 0 (fun x => x) (i_aload 0 (i_getf 3 6 (i_aload 0 (i_getf 3 4 (i_aald (i_iload 3 (i_aload 0 (i_iload 3 (i_recv 3 1 (i_call k d 21 2 2 (i_iload 4 (i_aload 0 (i_iload 4 (i_recv 3 1 (i_call k d 21 2 2 (i_recv 4 4 (i_call k d 22 5 5 (i_aload 0 (i_getf 3 6 (i_aload 0 (i_getf 3 4 (i_aald (i_iload 2 (i_recv 4 1 (i_call k d 23 2 2 (i_aload 0 (i_dup (i_getf 3 4 (i_int 1 (i_ii (fun x y => x + y) (i_putI 3 4 (i_aload 0 (i_getf 3 4 (i_int 1 (i_ii (fun x y => x - y) i_iret))))))))))))))))))))))))))))))))))))))))) (i_int (-5) i_iret))))) (i_int (-4) i_iret)))))))) (i_int (-2) i_iret))))))
/-- SlabImage.isType from 0 -/
def b_18 : am_B := fun k d => (i_iload 0 (i_int 1 (i_cmplt (i_int 0 i_zret) (i_iload 0 (i_int 4 (i_cmpgt (i_int 0 i_zret) (i_int 1 i_zret)))))))
/-- SlabImage$Store.mayBeAxis from 0 -/
def b_19 : am_B := fun k d => (i_iload 1 (i_int (-1) (i_cmpeq (i_int 1 i_zret) (i_aload 0 (i_iload 1 (i_recv 3 1 (i_call k d 20 2 2 (i_ifeq (i_int 0 i_zret) (i_int 1 i_zret)))))))))
/-- SlabImage$Store.isDimension from 0 -/
def b_20 : am_B := fun k d => (i_iload 1 (i_iflt (i_int 0 i_zret) (i_iload 1 (i_aload 0 (i_getf 3 1 (i_cmpge (i_int 0 i_zret) (i_int 1 i_zret)))))))
/-- SlabImage$Store.lengthOf from 0 -/
def b_21 : am_B := fun k d => (i_aload 0 (i_iload 1 (i_recv 3 1 (i_call k d 20 2 2 (i_ifeq (i_int 1 i_iret) (i_aload 0 (i_getf 3 3 (i_iload 1 (i_iald 0 i_iret)))))))))
/-- SlabImage$Variable.shape from 0 -/
def b_22 : am_B := fun k d => (i_aload 0 (i_iload 1 (i_putI 4 1 (i_aload 0 (i_iload 3 (i_putI 4 2 (i_aload 0 (i_iload 2 (i_ifne (i_int 0 (i_putZ 4 3 (i_aload 0 (i_iload 2 (i_putI 4 4 (i_aload 0 (i_iload 4 (i_putI 4 5 i_vret)))))))) (i_int 1 (i_putZ 4 3 (i_aload 0 (i_iload 2 (i_putI 4 4 (i_aload 0 (i_iload 4 (i_putI 4 5 i_vret)))))))))))))))))
/-- SlabImage$Variable.fill from 0 -/
def b_23 : am_B := fun k d => (i_aload 0 (i_iload 1 (i_putI 4 0 (i_aload 0 (i_getf 4 7 (i_stat 1 (i_iload 1 (i_iald 0 (i_call k d 24 2 4 i_vret)))))))))
/-- java/util/Arrays.fill from 0 -/
def b_24 : am_B := fun k d => (i_int 0 (i_istore 2 (i_aload 0 (i_alen (i_istore 3 (k d 25))))))
/-- java/util/Arrays.fill from 5 -/
def b_25 : am_B := fun k d => (i_iload 2 (i_iload 3 (i_cmpge i_vret (i_aload 0 (i_iload 2 (i_iload 1 (i_iast 0 (fun x => x) (i_iinc 2 1 (k d 25)))))))))
/-- SlabImage.attribute from 0 -/
def b_26 : am_B := fun k d => (i_aload 0 (i_getf 5 2 (i_ifne (i_aload 0 (i_getf 5 0 (i_iload 1 (i_recv 3 1 (i_call k d 27 2 3 (i_astore 6 (i_aload 6 (i_ifnonnull (i_aload 6 (i_iload 2 (i_iload 3 (i_iload 4 (i_iload 5 (i_recv 0 4 (i_call k d 29 5 6 i_iret))))))) (i_int (-3) i_iret))))))))) (i_int (-1) i_iret))))
/-- SlabImage$Store.attributesOf from 0 -/
def b_27 : am_B := fun k d => (i_iload 1 (i_int (-1) (i_cmpne (i_aload 0 (i_iload 1 (i_recv 3 1 (i_call k d 28 2 2 (i_astore 2 (i_aload 2 (i_ifnonnull (i_aload 2 (i_getf 4 6 i_aret)) (i_null i_aret)))))))) (i_aload 0 (i_getf 3 7 i_aret)))))
/-- SlabImage$Store.variableAt from 0 -/
def b_28 : am_B := fun k d => (i_iload 1 (i_iflt (i_null i_aret) (i_iload 1 (i_aload 0 (i_getf 3 4 (i_cmpge (i_null i_aret) (i_aload 0 (i_getf 3 6 (i_iload 1 (i_aald i_aret))))))))))
/-- SlabImage$AttributeList.assign from 0 -/
def b_29 : am_B := fun k d => (i_iload 1 (i_call k d 10 1 1 (i_ifeq (i_int (-2) i_iret) (i_iload 2 (i_call k d 18 1 1 (i_ifne (i_iload 2 (i_iload 3 (i_call k d 31 2 2 (i_ifeq (i_int (-6) i_iret) (i_iload 2 (i_iload 4 (i_call k d 31 2 2 (i_ifne (i_iload 1 (i_aload 0 (i_getf 0 1 (i_aload 0 (i_getf 0 0 (i_call k d 11 3 4 (i_istore 5 (i_iload 5 (i_ifge (k d 30) (i_aload 0 (i_getf 0 0 (i_int 3 (i_cmplt (i_aload 0 (i_getf 0 0 (i_istore 5 (i_aload 0 (i_dup (i_getf 0 0 (i_int 1 (i_ii (fun x y => x + y) (i_putI 0 0 (k d 30)))))))))) (i_int (-5) i_iret)))))))))))))) (i_int (-6) i_iret))))))))) (i_int (-2) i_iret)))))))
/-- SlabImage$AttributeList.assign from 83 -/
def b_30 : am_B := fun k d => (i_aload 0 (i_getf 0 1 (i_iload 5 (i_iload 1 (i_iast 0 (fun x => x) (i_aload 0 (i_getf 0 2 (i_iload 5 (i_iload 2 (i_iast 0 (fun x => x) (i_aload 0 (i_getf 0 3 (i_iload 5 (i_iload 3 (i_iast 0 (fun x => x) (i_aload 0 (i_getf 0 4 (i_iload 5 (i_iload 4 (i_iast 0 (fun x => x) (i_int 0 i_iret)))))))))))))))))))))
/-- SlabImage.isValue from 0 -/
def b_31 : am_B := fun k d => (i_iload 1 (i_stat 2 (i_iload 0 (i_iald 0 (i_cmplt (i_int 0 i_zret) (i_iload 1 (i_stat 3 (i_iload 0 (i_iald 0 (i_cmpgt (i_int 0 i_zret) (i_int 1 i_zret)))))))))))
/-- SlabImage.drop from 0 -/
def b_32 : am_B := fun k d => (i_aload 0 (i_getf 5 2 (i_ifne (i_aload 0 (i_getf 5 0 (i_iload 1 (i_recv 3 1 (i_call k d 27 2 3 (i_astore 3 (i_aload 3 (i_ifnonnull (i_aload 3 (i_iload 2 (i_recv 0 1 (i_call k d 33 2 4 i_iret)))) (i_int (-3) i_iret))))))))) (i_int (-1) i_iret))))
/-- SlabImage$AttributeList.takeOff from 0 -/
def b_33 : am_B := fun k d => (i_iload 1 (i_aload 0 (i_getf 0 1 (i_aload 0 (i_getf 0 0 (i_call k d 11 3 4 (i_istore 2 (i_iload 2 (i_ifge (i_iload 2 (i_int 1 (i_ii (fun x y => x + y) (i_istore 3 (k d 34))))) (i_int (-3) i_iret))))))))))
/-- SlabImage$AttributeList.takeOff from 24 -/
def b_34 : am_B := fun k d => (i_iload 3 (i_aload 0 (i_getf 0 0 (i_cmpge (i_aload 0 (i_dup (i_getf 0 0 (i_int 1 (i_ii (fun x y => x - y) (i_putI 0 0 (i_int 0 i_iret))))))) (i_aload 0 (i_getf 0 1 (i_iload 3 (i_int 1 (i_ii (fun x y => x - y) (i_aload 0 (i_getf 0 1 (i_iload 3 (i_iald 0 (i_iast 0 (fun x => x) (i_aload 0 (i_getf 0 2 (i_iload 3 (i_int 1 (i_ii (fun x y => x - y) (i_aload 0 (i_getf 0 2 (i_iload 3 (i_iald 0 (i_iast 0 (fun x => x) (i_aload 0 (i_getf 0 3 (i_iload 3 (i_int 1 (i_ii (fun x y => x - y) (i_aload 0 (i_getf 0 3 (i_iload 3 (i_iald 0 (i_iast 0 (fun x => x) (i_aload 0 (i_getf 0 4 (i_iload 3 (i_int 1 (i_ii (fun x y => x - y) (i_aload 0 (i_getf 0 4 (i_iload 3 (i_iald 0 (i_iast 0 (fun x => x) (i_iinc 3 1 (k d 34))))))))))))))))))))))))))))))))))))))))))))))
/-- SlabImage.rename from 0 -/
def b_35 : am_B := fun k d => (i_aload 0 (i_getf 5 2 (i_ifne (i_iload 1 (i_ifeq (i_aload 0 (i_getf 5 0 (i_iload 2 (i_iload 3 (i_recv 3 2 (i_call k d 38 3 3 i_iret)))))) (i_aload 0 (i_getf 5 0 (i_iload 2 (i_iload 3 (i_recv 3 2 (i_call k d 36 3 3 i_iret)))))))) (i_int (-1) i_iret))))
/-- SlabImage$Store.renameVariable from 0 -/
def b_36 : am_B := fun k d => (i_aload 0 (i_getf 3 5 (i_aload 0 (i_getf 3 4 (i_iload 1 (i_iload 2 (i_call k d 37 4 5 i_iret)))))))
/-- SlabImage$Store.changeName from 0 -/
def b_37 : am_B := fun k d => (i_iload 2 (i_iflt (i_int (-3) i_iret) (i_iload 2 (i_iload 1 (i_cmplt (i_iload 3 (i_call k d 10 1 1 (i_ifne (i_iload 3 (i_aload 0 (i_iload 1 (i_call k d 11 3 4 (i_istore 4 (i_iload 4 (i_iflt (i_aload 0 (i_iload 2 (i_iload 3 (i_iast 0 (fun x => x) (i_int 0 i_iret))))) (i_iload 4 (i_iload 2 (i_cmpeq (i_aload 0 (i_iload 2 (i_iload 3 (i_iast 0 (fun x => x) (i_int 0 i_iret))))) (i_int (-4) i_iret))))))))))) (i_int (-2) i_iret)))) (i_int (-3) i_iret))))))
/-- SlabImage$Store.renameDimension from 0 -/
def b_38 : am_B := fun k d => (i_aload 0 (i_getf 3 2 (i_aload 0 (i_getf 3 1 (i_iload 1 (i_iload 2 (i_call k d 37 4 5 i_iret)))))))
/-- SlabImage.seal from 0 -/
def b_39 : am_B := fun k d => (i_aload 0 (i_getf 5 2 (i_ifne (i_aload 0 (i_getf 5 0 (i_aload 0 (i_getf 5 0 (i_getf 3 0 (i_i2l (i_recv 3 1 (i_call k d 40 2 3 (i_lstore 1 (i_lload 1 (i_long 800 (i_lcmp (i_ifle (i_aload 0 (i_int 0 (i_putZ 5 2 (i_lload 1 (i_l2i i_iret))))) (i_int (-8) i_iret)))))))))))))) (i_int (-1) i_iret))))
/-- SlabImage$Store.imageBytes from 0 -/
def b_40 : am_B := fun k d => (i_aload 0 (i_recv 3 0 (i_call k d 41 1 3 (i_aload 0 (i_aload 0 (i_getf 3 4 (i_int 0 (i_recv 3 2 (i_call k d 48 3 5 (i_ii (fun x y => x + y) (i_i2l (i_lload 1 (i_aload 0 (i_recv 3 0 (i_call k d 52 1 3 (i_i2l (i_ll (fun x y => x * y) (i_ll (fun x y => x + y) i_lret))))))))))))))))))
/-- SlabImage$Store.headerBytes from 0 -/
def b_41 : am_B := fun k d => (i_int 24 (i_aload 0 (i_getf 3 7 (i_recv 0 0 (i_call k d 43 1 3 (i_ii (fun x y => x + y) (i_istore 1 (i_iload 1 (i_aload 0 (i_getf 3 1 (i_int 12 (i_ii (fun x y => x * y) (i_ii (fun x y => x + y) (i_istore 1 (i_int 0 (i_istore 2 (k d 42)))))))))))))))))
/-- SlabImage$Store.headerBytes from 23 -/
def b_42 : am_B := fun k d => (i_iload 2 (i_aload 0 (i_getf 3 4 (i_cmpge (i_iload 1 i_iret) (i_iload 1 (i_aload 0 (i_getf 3 6 (i_iload 2 (i_aald (i_recv 4 0 (i_call k d 46 1 1 (i_ii (fun x y => x + y) (i_istore 1 (i_iinc 2 1 (k d 42)))))))))))))))
/-- SlabImage$AttributeList.headerBytes from 0 -/
def b_43 : am_B := fun k d => (i_int 8 (i_istore 1 (i_int 0 (i_istore 2 (k d 44)))))
/-- SlabImage$AttributeList.headerBytes from 5 -/
def b_44 : am_B := fun k d => (i_iload 2 (i_aload 0 (i_getf 0 0 (i_cmpge (i_iload 1 i_iret) (i_iload 1 (i_int 16 (i_int 2 (i_stat 0 (i_aload 0 (i_getf 0 2 (i_iload 2 (i_iald 0 (i_iald 0 (i_ii (fun x y => x * y) (i_call k d 45 1 1 (i_ii (fun x y => x + y) (i_ii (fun x y => x + y) (i_istore 1 (i_iinc 2 1 (k d 44))))))))))))))))))))
/-- SlabImage.padded from 0 -/
def b_45 : am_B := fun k d => (i_iload 0 (i_int 4 (i_ii (fun x y => x + y) (i_int 1 (i_ii (fun x y => x - y) (i_int 4 (i_idz (fun x y => x / y) (i_int 4 (i_ii (fun x y => x * y) i_iret)))))))))
/-- SlabImage$Variable.headerBytes from 0 -/
def b_46 : am_B := fun k d => (i_int 12 (i_aload 0 (i_recv 4 0 (i_call k d 47 1 1 (i_int 4 (i_ii (fun x y => x * y) (i_ii (fun x y => x + y) (i_aload 0 (i_getf 4 6 (i_recv 0 0 (i_call k d 43 1 3 (i_ii (fun x y => x + y) (i_int 12 (i_ii (fun x y => x + y) i_iret))))))))))))))
/-- SlabImage$Variable.axisCount from 0 -/
def b_47 : am_B := fun k d => (i_aload 0 (i_getf 4 1 (i_int (-1) (i_cmpne (i_aload 0 (i_getf 4 2 (i_int (-1) (i_cmpne (i_int 2 i_iret) (i_int 1 i_iret))))) (i_int 0 i_iret)))))
/-- SlabImage$Store.paddedBytes from 0 -/
def b_48 : am_B := fun k d => (i_int 0 (i_istore 3 (i_int 0 (i_istore 4 (k d 49)))))
/-- SlabImage$Store.paddedBytes from 5 -/
def b_49 : am_B := fun k d => (i_iload 4 (i_iload 1 (i_cmpge (i_iload 3 i_iret) (i_iload 4 (i_aload 0 (i_getf 3 4 (i_cmpge (i_iload 3 i_iret) (i_aload 0 (i_getf 3 6 (i_iload 4 (i_aald (i_getf 4 3 (i_iload 2 (i_cmpne (i_iinc 4 1 (k d 49)) (i_iload 3 (i_aload 0 (i_getf 3 6 (i_iload 4 (i_aald (i_recv 4 0 (i_call k d 50 1 1 (i_ii (fun x y => x + y) (i_istore 3 (i_iinc 4 1 (k d 49)))))))))))))))))))))))))
/-- SlabImage$Variable.paddedSize from 0 -/
def b_50 : am_B := fun k d => (i_aload 0 (i_getf 4 3 (i_ifeq (i_aload 0 (i_getf 4 4 (i_aload 0 (i_recv 4 0 (i_call k d 51 1 1 (i_ii (fun x y => x * y) (i_call k d 45 1 1 i_iret))))))) (i_aload 0 (i_recv 4 0 (i_call k d 51 1 1 (i_call k d 45 1 1 i_iret)))))))
/-- SlabImage$Variable.bytesOfRow from 0 -/
def b_51 : am_B := fun k d => (i_aload 0 (i_getf 4 5 (i_stat 0 (i_aload 0 (i_getf 4 0 (i_iald 0 (i_ii (fun x y => x * y) i_iret)))))))
/-- SlabImage$Store.recordBytes from 0 -/
def b_52 : am_B := fun k d => (i_aload 0 (i_recv 3 0 (i_call k d 54 1 3 (i_int 1 (i_cmpeq (i_int 0 (i_istore 1 (i_int 0 (i_istore 2 (k d 53))))) (i_aload 0 (i_aload 0 (i_getf 3 4 (i_int 1 (i_recv 3 2 (i_call k d 48 3 5 i_iret)))))))))))
/-- SlabImage$Store.recordBytes from 22 -/
def b_53 : am_B := fun k d => (i_iload 2 (i_aload 0 (i_getf 3 4 (i_cmpge (i_iload 1 i_iret) (i_aload 0 (i_getf 3 6 (i_iload 2 (i_aald (i_getf 4 3 (i_ifeq (i_iinc 2 1 (k d 53)) (i_aload 0 (i_getf 3 6 (i_iload 2 (i_aald (i_recv 4 0 (i_call k d 51 1 1 (i_istore 1 (i_iinc 2 1 (k d 53)))))))))))))))))))
/-- SlabImage$Store.recordVariables from 0 -/
def b_54 : am_B := fun k d => (i_int 0 (i_istore 1 (i_int 0 (i_istore 2 (k d 55)))))
/-- SlabImage$Store.recordVariables from 4 -/
def b_55 : am_B := fun k d => (i_iload 2 (i_aload 0 (i_getf 3 4 (i_cmpge (i_iload 1 i_iret) (i_aload 0 (i_getf 3 6 (i_iload 2 (i_aald (i_getf 4 3 (i_ifeq (i_iinc 2 1 (k d 55)) (i_iinc 1 1 (i_iinc 2 1 (k d 55)))))))))))))
/-- SlabImage.redefine from 0 -/
def b_56 : am_B := fun k d => (i_aload 0 (i_getf 5 2 (i_ifeq (i_aload 0 (i_int 1 (i_putZ 5 2 (i_int 0 i_iret)))) (i_int (-1) i_iret))))
/-- SlabImage.put from 0 -/
def b_57 : am_B := fun k d => (i_aload 0 (i_getf 5 2 (i_ifeq (i_aload 0 (i_getf 5 0 (i_iload 1 (i_recv 3 1 (i_call k d 28 2 2 (i_astore 5 (i_aload 5 (i_ifnonnull (i_aload 5 (i_iload 2 (i_i2l (i_iload 3 (i_i2l (i_recv 4 2 (i_call k d 58 3 5 (i_ifne (i_aload 5 (i_getf 4 0 (i_iload 4 (i_call k d 31 2 2 (i_ifne (i_aload 0 (i_getf 5 0 (i_aload 5 (i_iload 2 (i_i2l (i_recv 3 2 (i_call k d 60 3 4 (i_ifne (i_aload 5 (i_iload 2 (i_iload 3 (i_iload 4 (i_recv 4 3 (i_call k d 61 4 5 (i_int 0 i_iret))))))) (i_int (-8) i_iret))))))))) (i_int (-6) i_iret)))))) (i_int (-7) i_iret))))))))) (i_int (-3) i_iret))))))))) (i_int (-1) i_iret))))
/-- SlabImage$Variable.admits from 0 -/
def b_58 : am_B := fun k d => (i_lload 1 (i_long 0 (i_lcmp (i_iflt (i_int 0 i_zret) (i_aload 0 (i_getf 4 3 (i_ifne (k d 59) (i_lload 1 (i_aload 0 (i_getf 4 4 (i_i2l (i_lcmp (i_ifge (i_int 0 i_zret) (k d 59))))))))))))))
/-- SlabImage$Variable.admits from 23 -/
def b_59 : am_B := fun k d => (i_lload 3 (i_long 0 (i_lcmp (i_iflt (i_int 0 i_zret) (i_lload 3 (i_aload 0 (i_getf 4 5 (i_i2l (i_lcmp (i_ifge (i_int 0 i_zret) (i_int 1 i_zret)))))))))))
/-- SlabImage$Store.growToHold from 0 -/
def b_60 : am_B := fun k d => (i_aload 1 (i_getf 4 3 (i_ifeq (i_int 1 i_zret) (i_lload 2 (i_aload 0 (i_getf 3 0 (i_i2l (i_lcmp (i_ifge (i_aload 0 (i_lload 2 (i_long 1 (i_ll (fun x y => x + y) (i_recv 3 1 (i_call k d 40 2 3 (i_long 800 (i_lcmp (i_ifle (i_aload 0 (i_lload 2 (i_long 1 (i_ll (fun x y => x + y) (i_l2i (i_putI 3 0 (i_int 1 i_zret))))))) (i_int 0 i_zret)))))))))) (i_int 1 i_zret))))))))))
/-- SlabImage$Variable.setCell from 0 -/
def b_61 : am_B := fun k d => (i_iload 1 (i_aload 0 (i_getf 4 5 (i_ii (fun x y => x * y) (i_iload 2 (i_ii (fun x y => x + y) (i_istore 4 (i_iload 4 (i_iflt i_vret (i_iload 4 (i_aload 0 (i_getf 4 7 (i_alen (i_cmpge i_vret (i_aload 0 (i_getf 4 7 (i_iload 4 (i_iload 3 (i_iast 0 (fun x => x) i_vret)))))))))))))))))))
/-- SlabImage.get from 0 -/
def b_62 : am_B := fun k d => (i_aload 0 (i_getf 5 2 (i_ifeq (i_aload 0 (i_getf 5 0 (i_iload 1 (i_recv 3 1 (i_call k d 28 2 2 (i_astore 4 (i_aload 4 (i_ifnull (i_long 1099511627776 i_lret) (i_aload 0 (i_getf 5 0 (i_aload 4 (i_iload 2 (i_i2l (i_iload 3 (i_i2l (i_recv 3 3 (i_call k d 63 4 6 (i_ifne (i_aload 4 (i_iload 2 (i_iload 3 (i_recv 4 2 (i_call k d 64 3 4 (i_i2l i_lret)))))) (i_long 1099511627776 i_lret))))))))))))))))))) (i_long 1099511627776 i_lret))))
/-- SlabImage$Store.holds from 0 -/
def b_63 : am_B := fun k d => (i_aload 1 (i_lload 2 (i_lload 4 (i_recv 4 2 (i_call k d 58 3 5 (i_ifeq (i_int 0 i_zret) (i_aload 1 (i_getf 4 3 (i_ifeq (i_int 1 i_zret) (i_lload 2 (i_aload 0 (i_getf 3 0 (i_i2l (i_lcmp (i_ifge (i_int 0 i_zret) (i_int 1 i_zret))))))))))))))))
/-- SlabImage$Variable.cell from 0 -/
def b_64 : am_B := fun k d => (i_iload 1 (i_aload 0 (i_getf 4 5 (i_ii (fun x y => x * y) (i_iload 2 (i_ii (fun x y => x + y) (i_istore 3 (i_iload 3 (i_iflt (i_stat 1 (i_aload 0 (i_getf 4 0 (i_iald 0 i_iret)))) (i_iload 3 (i_aload 0 (i_getf 4 7 (i_alen (i_cmpge (i_stat 1 (i_aload 0 (i_getf 4 0 (i_iald 0 i_iret)))) (i_aload 0 (i_getf 4 7 (i_iload 3 (i_iald 0 i_iret))))))))))))))))))
/-- SlabImage.select from 0 -/
def b_65 : am_B := fun k d => (i_iload 1 (i_ifeq (k d 66) (i_iload 1 (i_int 1 (i_cmpeq (k d 66) (i_int (-3) i_iret))))))
/-- SlabImage.select from 12 -/
def b_66 : am_B := fun k d => (i_iload 2 (i_iflt (i_int (-2) i_iret) (i_iload 3 (i_int 1 (i_cmplt (i_int (-2) i_iret) (i_iload 3 (i_int 8 (i_cmpgt (i_int (-2) i_iret) (i_iload 4 (i_int 1 (i_cmplt (i_int (-2) i_iret) (i_iload 4 (i_int 8 (i_cmple (i_iload 1 (i_ifne (i_aload 0 (i_getf 5 4 (i_astore 5 (i_aload 5 (i_iload 2 (i_iload 3 (i_iload 4 (i_recv 2 3 (i_call k d 67 4 4 (i_int 0 i_iret)))))))))) (i_aload 0 (i_getf 5 3 (i_astore 5 (i_aload 5 (i_iload 2 (i_iload 3 (i_iload 4 (i_recv 2 3 (i_call k d 67 4 4 (i_int 0 i_iret)))))))))))) (i_int (-2) i_iret)))))))))))))))
/-- SlabImage$Selection.become from 0 -/
def b_67 : am_B := fun k d => (i_aload 0 (i_iload 1 (i_putI 2 0 (i_aload 0 (i_iload 2 (i_putI 2 1 (i_aload 0 (i_iload 3 (i_putI 2 2 i_vret)))))))))
/-- SlabImage.putSlab from 0 -/
def b_68 : am_B := fun k d => (i_aload 0 (i_getf 5 2 (i_ifeq (i_aload 0 (i_getf 5 0 (i_iload 1 (i_recv 3 1 (i_call k d 28 2 2 (i_astore 4 (i_aload 4 (i_ifnonnull (i_aload 0 (i_aload 4 (i_recv 5 1 (i_call k d 69 2 2 (i_astore 5 (i_aload 0 (i_aload 4 (i_recv 5 1 (i_call k d 70 2 2 (i_astore 6 (i_aload 4 (i_aload 5 (i_recv 2 0 (i_call k d 71 1 1 (i_aload 6 (i_recv 2 0 (i_call k d 71 1 1 (i_recv 4 2 (i_call k d 58 3 5 (i_ifne (i_aload 5 (i_getf 2 1 (i_aload 6 (i_getf 2 1 (i_ii (fun x y => x * y) (i_istore 7 (i_aload 4 (i_getf 4 0 (i_iload 7 (i_iload 2 (i_iload 3 (i_call k d 72 4 5 (i_ifne (i_aload 0 (i_getf 5 0 (i_aload 4 (i_aload 5 (i_recv 2 0 (i_call k d 71 1 1 (i_recv 3 2 (i_call k d 60 3 4 (i_ifne (i_aload 4 (i_aload 5 (i_aload 6 (i_iload 2 (i_iload 3 (i_recv 4 4 (i_call k d 74 5 8 (i_iload 7 i_iret)))))))) (i_int (-8) i_iret)))))))))) (i_int (-6) i_iret)))))))))))))) (i_int (-7) i_iret))))))))))))))))))))) (i_int (-3) i_iret))))))))) (i_int (-1) i_iret))))
/-- SlabImage.rowsOf from 0 -/
def b_69 : am_B := fun k d => (i_aload 1 (i_recv 4 0 (i_call k d 47 1 1 (i_ifle (i_aload 0 (i_getf 5 5 i_aret)) (i_aload 0 (i_getf 5 3 i_aret))))))
/-- SlabImage.columnsOf from 0 -/
def b_70 : am_B := fun k d => (i_aload 1 (i_recv 4 0 (i_call k d 47 1 1 (i_int 1 (i_cmple (i_aload 0 (i_getf 5 5 i_aret)) (i_aload 0 (i_getf 5 4 i_aret)))))))
/-- SlabImage$Selection.last from 0 -/
def b_71 : am_B := fun k d => (i_aload 0 (i_getf 2 0 (i_i2l (i_aload 0 (i_getf 2 1 (i_i2l (i_long 1 (i_ll (fun x y => x - y) (i_aload 0 (i_getf 2 2 (i_i2l (i_ll (fun x y => x * y) (i_ll (fun x y => x + y) i_lret)))))))))))))
/-- SlabImage.areValues from 0 -/
def b_72 : am_B := fun k d => (i_int 0 (i_istore 4 (k d 73)))
/-- SlabImage.areValues from 3 -/
def b_73 : am_B := fun k d => (i_iload 4 (i_iload 1 (i_cmpge (i_int 1 i_zret) (i_iload 0 (i_iload 2 (i_iload 4 (i_iload 3 (i_ii (fun x y => x * y) (i_ii (fun x y => x + y) (i_call k d 31 2 2 (i_ifne (i_iinc 4 1 (k d 73)) (i_int 0 i_zret))))))))))))
/-- SlabImage$Variable.setSlab from 0 -/
def b_74 : am_B := fun k d => (i_iload 3 (i_istore 5 (i_int 0 (i_istore 6 (k d 75)))))
/-- SlabImage$Variable.setSlab from 6 -/
def b_75 : am_B := fun k d => (i_iload 6 (i_aload 1 (i_getf 2 1 (i_cmpge i_vret (i_int 0 (i_istore 7 (k d 76)))))))
/-- SlabImage$Variable.setSlab from 18 -/
def b_76 : am_B := fun k d => (i_iload 7 (i_aload 2 (i_getf 2 1 (i_cmpge (i_iinc 6 1 (k d 75)) (i_aload 0 (i_aload 1 (i_iload 6 (i_recv 2 1 (i_call k d 77 2 2 (i_aload 2 (i_iload 7 (i_recv 2 1 (i_call k d 77 2 2 (i_iload 5 (i_recv 4 3 (i_call k d 61 4 5 (i_iload 5 (i_iload 4 (i_ii (fun x y => x + y) (i_istore 5 (i_iinc 7 1 (k d 76))))))))))))))))))))))
/-- SlabImage$Selection.at from 0 -/
def b_77 : am_B := fun k d => (i_aload 0 (i_getf 2 0 (i_iload 1 (i_aload 0 (i_getf 2 2 (i_ii (fun x y => x * y) (i_ii (fun x y => x + y) i_iret)))))))
/-- SlabImage.getSlab from 0 -/
def b_78 : am_B := fun k d => (i_aload 0 (i_getf 5 2 (i_ifeq (i_aload 0 (i_getf 5 0 (i_iload 1 (i_recv 3 1 (i_call k d 28 2 2 (i_astore 3 (i_aload 3 (i_ifnonnull (i_aload 0 (i_aload 3 (i_recv 5 1 (i_call k d 69 2 2 (i_astore 4 (i_aload 0 (i_aload 3 (i_recv 5 1 (i_call k d 70 2 2 (i_astore 5 (i_aload 0 (i_getf 5 0 (i_aload 3 (i_aload 4 (i_recv 2 0 (i_call k d 71 1 1 (i_aload 5 (i_recv 2 0 (i_call k d 71 1 1 (i_recv 3 3 (i_call k d 63 4 6 (i_ifne (i_iload 2 (i_iflt (i_long 1099511627776 i_lret) (i_iload 2 (i_aload 4 (i_getf 2 1 (i_aload 5 (i_getf 2 1 (i_ii (fun x y => x * y) (i_cmplt (i_aload 3 (i_aload 4 (i_iload 2 (i_aload 5 (i_getf 2 1 (i_idz (fun x y => x / y) (i_recv 2 1 (i_call k d 77 2 2 (i_aload 5 (i_iload 2 (i_aload 5 (i_getf 2 1 (i_idz (fun x y => x - x / y * y) (i_recv 2 1 (i_call k d 77 2 2 (i_recv 4 2 (i_call k d 64 3 4 (i_i2l i_lret)))))))))))))))))) (i_long 1099511627776 i_lret)))))))))) (i_long 1099511627776 i_lret))))))))))))))))))))))) (i_long 1099511627776 i_lret))))))))) (i_long 1099511627776 i_lret))))
/-- SlabImage.records from 0 -/
def b_79 : am_B := fun k d => (i_aload 0 (i_getf 5 0 (i_getf 3 0 i_iret)))
/-- SlabImage.size from 0 -/
def b_80 : am_B := fun k d => (i_aload 0 (i_getf 5 2 (i_ifeq (i_aload 0 (i_getf 5 0 (i_aload 0 (i_getf 5 0 (i_getf 3 0 (i_i2l (i_recv 3 1 (i_call k d 40 2 3 (i_l2i i_iret))))))))) (i_int (-1) i_iret))))
/-- SlabImage.begin from 0 -/
def b_81 : am_B := fun k d => (i_aload 0 (i_getf 5 2 (i_ifeq (i_aload 0 (i_getf 5 0 (i_iload 1 (i_recv 3 1 (i_call k d 28 2 2 (i_ifnonnull (i_aload 0 (i_getf 5 0 (i_iload 1 (i_recv 3 1 (i_call k d 82 2 2 i_iret))))) (i_int (-3) i_iret))))))) (i_int (-1) i_iret))))
/-- SlabImage$Store.beginOf from 0 -/
def b_82 : am_B := fun k d => (i_aload 0 (i_getf 3 6 (i_iload 1 (i_aald (i_getf 4 3 (i_ifne (i_aload 0 (i_recv 3 0 (i_call k d 41 1 3 (i_aload 0 (i_aload 0 (i_getf 3 4 (i_int 0 (i_recv 3 2 (i_call k d 48 3 5 (i_ii (fun x y => x + y) (i_aload 0 (i_iload 1 (i_int 1 (i_recv 3 2 (i_call k d 48 3 5 (i_ii (fun x y => x + y) i_iret)))))))))))))))) (i_aload 0 (i_recv 3 0 (i_call k d 41 1 3 (i_aload 0 (i_iload 1 (i_int 0 (i_recv 3 2 (i_call k d 48 3 5 (i_ii (fun x y => x + y) i_iret)))))))))))))))
/-- SlabImage.eight from 0 -/
def b_83 : am_B := fun k d => (i_aload 0 (i_getf 5 2 (i_ifne (i_long 0 i_lret) (i_iload 1 (i_iflt (i_long 0 i_lret) (i_iload 1 (i_int 100 (i_cmplt (i_aload 0 (i_getf 5 0 (i_aload 0 (i_getf 5 7 (i_recv 3 1 (i_call k d 85 2 3 (i_long 0 (i_lstore 2 (i_int 0 (i_istore 4 (k d 84))))))))))) (i_long 0 i_lret)))))))))
/-- SlabImage.eight from 35 -/
def b_84 : am_B := fun k d => (i_iload 4 (i_int 8 (i_cmpge (i_lload 2 i_lret) (i_lload 2 (i_int 8 (i_lsh (fun x y => x <<< (y.toInt64 &&& 63)) (i_aload 0 (i_getf 5 7 (i_int 8 (i_iload 1 (i_ii (fun x y => x * y) (i_iload 4 (i_ii (fun x y => x + y) (i_recv 1 1 (i_call k d 109 2 2 (i_i2l (i_ll (fun x y => x ||| y) (i_lstore 2 (i_iinc 4 1 (k d 84))))))))))))))))))))
/-- SlabImage$Store.writeTo from 0 -/
def b_85 : am_B := fun k d => (i_aload 1 (i_recv 1 0 (i_call k d 88 1 1 (i_aload 1 (i_int 1196573697 (i_recv 1 1 (i_call k d 89 2 2 (i_aload 1 (i_aload 0 (i_getf 3 0 (i_recv 1 1 (i_call k d 89 2 2 (i_aload 1 (i_int 10 (i_aload 0 (i_getf 3 1 (i_recv 1 2 (i_call k d 93 3 3 (i_int 0 (i_istore 2 (k d 86)))))))))))))))))))))
/-- SlabImage$Store.writeTo from 30 -/
def b_86 : am_B := fun k d => (i_iload 2 (i_aload 0 (i_getf 3 1 (i_cmpge (i_aload 0 (i_getf 3 7 (i_aload 1 (i_recv 0 1 (i_call k d 95 2 3 (i_aload 1 (i_int 11 (i_aload 0 (i_getf 3 4 (i_recv 1 2 (i_call k d 93 3 3 (i_int 0 (i_istore 2 (k d 87)))))))))))))) (i_aload 1 (i_aload 0 (i_getf 3 2 (i_iload 2 (i_iald 0 (i_recv 1 1 (i_call k d 94 2 2 (i_aload 1 (i_aload 0 (i_getf 3 3 (i_iload 2 (i_iald 0 (i_recv 1 1 (i_call k d 89 2 2 (i_iinc 2 1 (k d 86))))))))))))))))))))
/-- SlabImage$Store.writeTo from 84 -/
def b_87 : am_B := fun k d => (i_iload 2 (i_aload 0 (i_getf 3 4 (i_cmpge (i_aload 0 (i_aload 1 (i_recv 3 1 (i_call k d 101 2 4 i_vret)))) (i_aload 0 (i_aload 1 (i_iload 2 (i_aload 0 (i_iload 2 (i_recv 3 1 (i_call k d 82 2 2 (i_recv 3 3 (i_call k d 99 4 5 (i_iinc 2 1 (k d 87)))))))))))))))
/-- SlabImage$ByteRow.clear from 0 -/
def b_88 : am_B := fun k d => (i_aload 0 (i_int 0 (i_putI 1 1 (i_aload 0 (i_int 0 (i_putI 1 2 i_vret))))))
/-- SlabImage$ByteRow.appendWord from 0 -/
def b_89 : am_B := fun k d => (i_aload 0 (i_iload 1 (i_int 4 (i_recv 1 2 (i_call k d 90 3 4 i_vret)))))
/-- SlabImage$ByteRow.appendNumber from 0 -/
def b_90 : am_B := fun k d => (i_iload 2 (i_int 1 (i_ii (fun x y => x - y) (i_istore 3 (k d 91)))))
/-- SlabImage$ByteRow.appendNumber from 4 -/
def b_91 : am_B := fun k d => (i_iload 3 (i_iflt i_vret (i_aload 0 (i_iload 1 (i_int 8 (i_iload 3 (i_ii (fun x y => x * y) (i_ii (fun x y => x >>> (y &&& 31)) (i_recv 1 1 (i_call k d 92 2 2 (i_iinc 3 (-1) (k d 91))))))))))))
/-- SlabImage$ByteRow.append from 0 -/
def b_92 : am_B := fun k d => (i_aload 0 (i_getf 1 1 (i_aload 0 (i_getf 1 0 (i_alen (i_cmpge i_vret (i_aload 0 (i_getf 1 0 (i_aload 0 (i_getf 1 1 (i_iload 1 (i_i (fun x => x.toInt8.toInt32) (i_iast 1 (fun x => x.toInt8.toInt32) (i_aload 0 (i_dup (i_getf 1 1 (i_int 1 (i_ii (fun x y => x + y) (i_putI 1 1 i_vret)))))))))))))))))))
/-- SlabImage$ByteRow.appendListHead from 0 -/
def b_93 : am_B := fun k d => (i_aload 0 (i_iload 2 (i_ifne (i_iload 1 (i_int 4 (i_recv 1 2 (i_call k d 90 3 4 (i_aload 0 (i_iload 2 (i_int 4 (i_recv 1 2 (i_call k d 90 3 4 i_vret))))))))) (i_int 0 (i_int 4 (i_recv 1 2 (i_call k d 90 3 4 (i_aload 0 (i_iload 2 (i_int 4 (i_recv 1 2 (i_call k d 90 3 4 i_vret))))))))))))
/-- SlabImage$ByteRow.appendName from 0 -/
def b_94 : am_B := fun k d => (i_aload 0 (i_int 1 (i_int 4 (i_recv 1 2 (i_call k d 90 3 4 (i_aload 0 (i_iload 1 (i_int 24 (i_ii (fun x y => x <<< (y &&& 31)) (i_int 4 (i_recv 1 2 (i_call k d 90 3 4 i_vret))))))))))))
/-- SlabImage$AttributeList.writeTo from 0 -/
def b_95 : am_B := fun k d => (i_aload 1 (i_int 12 (i_aload 0 (i_getf 0 0 (i_recv 1 2 (i_call k d 93 3 3 (i_int 0 (i_istore 2 (k d 96)))))))))
/-- SlabImage$AttributeList.writeTo from 12 -/
def b_96 : am_B := fun k d => (i_iload 2 (i_aload 0 (i_getf 0 0 (i_cmpge i_vret (i_aload 1 (i_aload 0 (i_getf 0 1 (i_iload 2 (i_iald 0 (i_recv 1 1 (i_call k d 94 2 2 (i_aload 1 (i_aload 0 (i_getf 0 2 (i_iload 2 (i_iald 0 (i_recv 1 1 (i_call k d 89 2 2 (i_aload 1 (i_int 2 (i_recv 1 1 (i_call k d 89 2 2 (i_aload 1 (i_aload 0 (i_getf 0 3 (i_iload 2 (i_iald 0 (i_stat 0 (i_aload 0 (i_getf 0 2 (i_iload 2 (i_iald 0 (i_iald 0 (i_recv 1 2 (i_call k d 90 3 4 (i_aload 1 (i_aload 0 (i_getf 0 4 (i_iload 2 (i_iald 0 (i_stat 0 (i_aload 0 (i_getf 0 2 (i_iload 2 (i_iald 0 (i_iald 0 (i_recv 1 2 (i_call k d 90 3 4 (i_aload 1 (i_recv 1 0 (i_call k d 97 1 3 (i_iinc 2 1 (k d 96)))))))))))))))))))))))))))))))))))))))))))))))))))))
/-- SlabImage$ByteRow.appendPadding from 0 -/
def b_97 : am_B := fun k d => (i_aload 0 (i_getf 1 1 (i_call k d 45 1 1 (i_aload 0 (i_getf 1 1 (i_ii (fun x y => x - y) (i_istore 1 (i_int 0 (i_istore 2 (k d 98))))))))))
/-- SlabImage$ByteRow.appendPadding from 15 -/
def b_98 : am_B := fun k d => (i_iload 2 (i_iload 1 (i_cmpge i_vret (i_aload 0 (i_int 0 (i_recv 1 1 (i_call k d 92 2 2 (i_iinc 2 1 (k d 98)))))))))
/-- SlabImage$Store.writeVariable from 0 -/
def b_99 : am_B := fun k d => (i_aload 0 (i_getf 3 6 (i_iload 2 (i_aald (i_astore 4 (i_aload 1 (i_aload 0 (i_getf 3 5 (i_iload 2 (i_iald 0 (i_recv 1 1 (i_call k d 94 2 2 (i_aload 1 (i_aload 4 (i_recv 4 0 (i_call k d 47 1 1 (i_recv 1 1 (i_call k d 89 2 2 (i_aload 4 (i_recv 4 0 (i_call k d 47 1 1 (i_ifle (i_aload 4 (i_recv 4 0 (i_call k d 47 1 1 (i_int 1 (i_cmple (k d 100) (i_aload 1 (i_aload 4 (i_getf 4 2 (i_recv 1 1 (i_call k d 89 2 2 (k d 100))))))))))) (i_aload 1 (i_aload 4 (i_getf 4 1 (i_recv 1 1 (i_call k d 89 2 2 (i_aload 4 (i_recv 4 0 (i_call k d 47 1 1 (i_int 1 (i_cmple (k d 100) (i_aload 1 (i_aload 4 (i_getf 4 2 (i_recv 1 1 (i_call k d 89 2 2 (k d 100))))))))))))))))))))))))))))))))))))))
/-- SlabImage$Store.writeVariable from 62 -/
def b_100 : am_B := fun k d => (i_aload 4 (i_getf 4 6 (i_aload 1 (i_recv 0 1 (i_call k d 95 2 3 (i_aload 1 (i_aload 4 (i_getf 4 0 (i_recv 1 1 (i_call k d 89 2 2 (i_aload 1 (i_aload 4 (i_recv 4 0 (i_call k d 50 1 1 (i_recv 1 1 (i_call k d 89 2 2 (i_aload 1 (i_iload 3 (i_recv 1 1 (i_call k d 89 2 2 i_vret))))))))))))))))))))
/-- SlabImage$Store.writeCells from 0 -/
def b_101 : am_B := fun k d => (i_int 0 (i_istore 2 (k d 102)))
/-- SlabImage$Store.writeCells from 2 -/
def b_102 : am_B := fun k d => (i_iload 2 (i_aload 0 (i_getf 3 4 (i_cmpge (i_aload 0 (i_recv 3 0 (i_call k d 54 1 3 (i_int 1 (i_cmple (i_int 0 (i_istore 2 (i_int 0 (i_istore 3 (k d 104))))) (i_int 1 (i_istore 2 (i_int 0 (i_istore 3 (k d 104)))))))))) (i_aload 0 (i_getf 3 6 (i_iload 2 (i_aald (i_getf 4 3 (i_ifne (i_iinc 2 1 (k d 102)) (i_int 0 (i_istore 3 (k d 103)))))))))))))
/-- SlabImage$Store.writeCells from 24 -/
def b_103 : am_B := fun k d => (i_iload 3 (i_aload 0 (i_getf 3 6 (i_iload 2 (i_aald (i_getf 4 4 (i_cmpge (i_aload 1 (i_recv 1 0 (i_call k d 97 1 3 (i_iinc 2 1 (k d 102))))) (i_aload 0 (i_getf 3 6 (i_iload 2 (i_aald (i_aload 1 (i_iload 3 (i_recv 4 2 (i_call k d 105 3 4 (i_iinc 3 1 (k d 103)))))))))))))))))
/-- SlabImage$Store.writeCells from 80 -/
def b_104 : am_B := fun k d => (i_iload 3 (i_aload 0 (i_getf 3 0 (i_cmpge i_vret (i_aload 0 (i_aload 1 (i_iload 3 (i_iload 2 (i_recv 3 3 (i_call k d 107 4 5 (i_iinc 3 1 (k d 104))))))))))))
/-- SlabImage$Variable.writeRow from 0 -/
def b_105 : am_B := fun k d => (i_int 0 (i_istore 3 (k d 106)))
/-- SlabImage$Variable.writeRow from 2 -/
def b_106 : am_B := fun k d => (i_iload 3 (i_aload 0 (i_getf 4 5 (i_cmpge i_vret (i_aload 1 (i_aload 0 (i_iload 2 (i_iload 3 (i_recv 4 2 (i_call k d 64 3 4 (i_stat 0 (i_aload 0 (i_getf 4 0 (i_iald 0 (i_recv 1 2 (i_call k d 90 3 4 (i_iinc 3 1 (k d 106))))))))))))))))))
/-- SlabImage$Store.writeRecord from 0 -/
def b_107 : am_B := fun k d => (i_int 0 (i_istore 4 (k d 108)))
/-- SlabImage$Store.writeRecord from 3 -/
def b_108 : am_B := fun k d => (i_iload 4 (i_aload 0 (i_getf 3 4 (i_cmpge i_vret (i_aload 0 (i_getf 3 6 (i_iload 4 (i_aald (i_getf 4 3 (i_ifeq (i_iinc 4 1 (k d 108)) (i_aload 0 (i_getf 3 6 (i_iload 4 (i_aald (i_aload 1 (i_iload 2 (i_recv 4 2 (i_call k d 105 3 4 (i_iload 3 (i_ifeq (i_iinc 4 1 (k d 108)) (i_aload 1 (i_recv 1 0 (i_call k d 97 1 3 (i_iinc 4 1 (k d 108)))))))))))))))))))))))))
/-- SlabImage$ByteRow.at from 0 -/
def b_109 : am_B := fun k d => (i_iload 1 (i_iflt (i_int 0 i_iret) (i_iload 1 (i_aload 0 (i_getf 1 1 (i_cmpge (i_int 0 i_iret) (i_aload 0 (i_getf 1 0 (i_iload 1 (i_iald 1 (i_int 255 (i_ii (fun x y => x &&& y) i_iret))))))))))))
/-- SlabImage.add from 0 -/
def b_110 : am_B := fun k d => (i_iload 3 (i_int 1 (i_cmplt (i_int 0 i_zret) (i_iload 3 (i_int 8 (i_cmpgt (i_int 0 i_zret) (i_aload 0 (i_getf 5 6 (i_getf 1 1 (i_iload 3 (i_ii (fun x y => x + y) (i_int 800 (i_cmple (i_int 0 (i_istore 4 (k d 111))) (i_int 0 i_zret))))))))))))))
/-- SlabImage.add from 31 -/
def b_111 : am_B := fun k d => (i_iload 4 (i_iload 3 (i_cmpge (i_int 1 i_zret) (i_aload 0 (i_getf 5 6 (i_lload 1 (i_int 56 (i_int 8 (i_iload 4 (i_ii (fun x y => x * y) (i_ii (fun x y => x - y) (i_lsh (fun x y => (x.toUInt64 >>> (y.toInt64.toUInt64 &&& Int64.toUInt64 63)).toInt64) (i_l2i (i_recv 1 1 (i_call k d 92 2 2 (i_iinc 4 1 (k d 111)))))))))))))))))
/-- SlabImage.erase from 0 -/
def b_112 : am_B := fun k d => (i_aload 0 (i_getf 5 6 (i_recv 1 0 (i_call k d 88 1 1 i_vret))))
/-- SlabImage.open from 0 -/
def b_113 : am_B := fun k d => (i_aload 0 (i_getf 5 1 (i_recv 3 0 (i_call k d 114 1 2 (i_aload 0 (i_getf 5 1 (i_aload 0 (i_getf 5 6 (i_recv 3 1 (i_call k d 117 2 3 (i_ifne (i_aload 0 (i_getf 5 1 (i_aload 0 (i_getf 5 7 (i_recv 3 1 (i_call k d 85 2 3 (i_aload 0 (i_getf 5 7 (i_aload 0 (i_getf 5 6 (i_recv 1 1 (i_call k d 143 2 3 (i_ifne (i_aload 0 (i_getf 5 0 (i_astore 1 (i_aload 0 (i_aload 0 (i_getf 5 1 (i_putR 5 0 (i_aload 0 (i_aload 1 (i_putR 5 1 (i_aload 0 (i_int 0 (i_putZ 5 2 (i_aload 0 (i_getf 5 6 (i_getf 1 1 i_iret)))))))))))))))) (i_int (-9) i_iret)))))))))))))) (i_int (-9) i_iret))))))))))))
/-- SlabImage$Store.clear from 0 -/
def b_114 : am_B := fun k d => (i_aload 0 (i_int 0 (i_putI 3 0 (i_aload 0 (i_int 0 (i_putI 3 1 (i_aload 0 (i_int 0 (i_putI 3 4 (i_aload 0 (i_getf 3 7 (i_recv 0 0 (i_call k d 116 1 1 (i_int 0 (i_istore 1 (k d 115))))))))))))))))
/-- SlabImage$Store.clear from 24 -/
def b_115 : am_B := fun k d => (i_iload 1 (i_int 5 (i_cmpge i_vret (i_aload 0 (i_getf 3 6 (i_iload 1 (i_aald (i_getf 4 6 (i_recv 0 0 (i_call k d 116 1 1 (i_iinc 1 1 (k d 115))))))))))))
/-- SlabImage$AttributeList.clear from 0 -/
def b_116 : am_B := fun k d => (i_aload 0 (i_int 0 (i_putI 0 0 i_vret)))
/-- SlabImage$Store.readFrom from 0 -/
def b_117 : am_B := fun k d => (i_aload 1 (i_recv 1 0 (i_call k d 119 1 1 (i_aload 1 (i_recv 1 0 (i_call k d 120 1 1 (i_pop (i_aload 1 (i_recv 1 0 (i_call k d 120 1 1 (i_istore 2 (i_aload 0 (i_aload 1 (i_recv 3 1 (i_call k d 123 2 6 (i_ifeq (i_int 0 i_zret) (i_aload 0 (i_getf 3 7 (i_aload 1 (i_recv 0 1 (i_call k d 127 2 8 (i_ifeq (i_int 0 i_zret) (i_aload 0 (i_aload 1 (i_recv 3 1 (i_call k d 131 2 4 (i_ifne (i_iload 2 (i_iflt (i_int 0 i_zret) (i_iload 2 (i_ifle (k d 118) (i_aload 0 (i_recv 3 0 (i_call k d 54 1 3 (i_ifne (k d 118) (i_int 0 i_zret))))))))) (i_int 0 i_zret))))))))))))))))))))))))))))
/-- SlabImage$Store.readFrom from 60 -/
def b_118 : am_B := fun k d => (i_aload 0 (i_iload 2 (i_i2l (i_recv 3 1 (i_call k d 40 2 3 (i_aload 1 (i_getf 1 1 (i_i2l (i_lcmp (i_ifeq (i_aload 0 (i_iload 2 (i_putI 3 0 (i_aload 0 (i_aload 1 (i_recv 3 1 (i_call k d 135 2 4 (i_int 1 i_zret)))))))) (i_int 0 i_zret)))))))))))
/-- SlabImage$ByteRow.rewind from 0 -/
def b_119 : am_B := fun k d => (i_aload 0 (i_int 0 (i_putI 1 2 i_vret)))
/-- SlabImage$ByteRow.takeWord from 0 -/
def b_120 : am_B := fun k d => (i_aload 0 (i_int 4 (i_recv 1 1 (i_call k d 121 2 4 i_iret))))
/-- SlabImage$ByteRow.takeNumber from 0 -/
def b_121 : am_B := fun k d => (i_int 0 (i_istore 2 (i_int 0 (i_istore 3 (k d 122)))))
/-- SlabImage$ByteRow.takeNumber from 4 -/
def b_122 : am_B := fun k d => (i_iload 3 (i_iload 1 (i_cmpge (i_iload 2 i_iret) (i_iload 2 (i_int 8 (i_ii (fun x y => x <<< (y &&& 31)) (i_aload 0 (i_getf 1 2 (i_aload 0 (i_getf 1 1 (i_cmpge (i_int 0 (i_ii (fun x y => x ||| y) (i_istore 2 (i_aload 0 (i_dup (i_getf 1 2 (i_int 1 (i_ii (fun x y => x + y) (i_putI 1 2 (i_iinc 3 1 (k d 122))))))))))) (i_aload 0 (i_getf 1 0 (i_aload 0 (i_getf 1 2 (i_iald 1 (i_int 255 (i_ii (fun x y => x &&& y) (i_ii (fun x y => x ||| y) (i_istore 2 (i_aload 0 (i_dup (i_getf 1 2 (i_int 1 (i_ii (fun x y => x + y) (i_putI 1 2 (i_iinc 3 1 (k d 122))))))))))))))))))))))))))))
/-- SlabImage$Store.readDimensions from 0 -/
def b_123 : am_B := fun k d => (i_aload 1 (i_recv 1 0 (i_call k d 125 1 1 (i_istore 2 (i_iload 2 (i_iflt (i_int 0 i_zret) (i_iload 2 (i_int 4 (i_cmple (i_int 0 (i_istore 3 (k d 124))) (i_int 0 i_zret))))))))))
/-- SlabImage$Store.readDimensions from 18 -/
def b_124 : am_B := fun k d => (i_iload 3 (i_iload 2 (i_cmpge (i_int 1 i_zret) (i_aload 1 (i_recv 1 0 (i_call k d 126 1 1 (i_istore 4 (i_aload 1 (i_recv 1 0 (i_call k d 120 1 1 (i_istore 5 (i_aload 0 (i_iload 4 (i_iload 5 (i_recv 3 2 (i_call k d 8 3 3 (i_ifge (i_iinc 3 1 (k d 124)) (i_int 0 i_zret))))))))))))))))))
/-- SlabImage$ByteRow.takeCount from 0 -/
def b_125 : am_B := fun k d => (i_aload 0 (i_int 4 (i_recv 1 1 (i_call k d 121 2 4 (i_pop (i_aload 0 (i_int 4 (i_recv 1 1 (i_call k d 121 2 4 i_iret)))))))))
/-- SlabImage$ByteRow.takeName from 0 -/
def b_126 : am_B := fun k d => (i_aload 0 (i_int 4 (i_recv 1 1 (i_call k d 121 2 4 (i_pop (i_aload 0 (i_int 4 (i_recv 1 1 (i_call k d 121 2 4 (i_int 24 (i_ii (fun x y => (x.toUInt32 >>> (y.toUInt32 &&& Int32.toUInt32 31)).toInt32) i_iret)))))))))))
/-- SlabImage$AttributeList.readFrom from 0 -/
def b_127 : am_B := fun k d => (i_aload 1 (i_recv 1 0 (i_call k d 125 1 1 (i_istore 2 (i_iload 2 (i_iflt (i_int 0 i_zret) (i_iload 2 (i_int 3 (i_cmple (i_int 0 (i_istore 3 (k d 128))) (i_int 0 i_zret))))))))))
/-- SlabImage$AttributeList.readFrom from 18 -/
def b_128 : am_B := fun k d => (i_iload 3 (i_iload 2 (i_cmpge (i_int 1 i_zret) (i_aload 1 (i_recv 1 0 (i_call k d 126 1 1 (i_istore 4 (i_aload 1 (i_recv 1 0 (i_call k d 120 1 1 (i_istore 5 (i_aload 1 (i_recv 1 0 (i_call k d 120 1 1 (i_pop (i_iload 5 (i_call k d 18 1 1 (i_ifne (i_aload 1 (i_iload 5 (i_recv 1 1 (i_call k d 129 2 3 (i_istore 6 (i_aload 1 (i_iload 5 (i_recv 1 1 (i_call k d 129 2 3 (i_istore 7 (i_aload 1 (i_recv 1 0 (i_call k d 130 1 1 (i_aload 0 (i_iload 4 (i_iload 5 (i_iload 6 (i_iload 7 (i_recv 0 4 (i_call k d 29 5 6 (i_ifge (i_iinc 3 1 (k d 128)) (i_int 0 i_zret)))))))))))))))))))))) (i_int 0 i_zret)))))))))))))))))))
/-- SlabImage$ByteRow.takeValue from 0 -/
def b_129 : am_B := fun k d => (i_aload 0 (i_stat 0 (i_iload 1 (i_iald 0 (i_recv 1 1 (i_call k d 121 2 4 (i_istore 2 (i_iload 1 (i_int 1 (i_cmpne (i_iload 1 (i_int 3 (i_cmpne (i_iload 2 i_iret) (i_iload 2 (i_i (fun x => x.toInt16.toInt32) i_iret))))) (i_iload 2 (i_i (fun x => x.toInt8.toInt32) i_iret))))))))))))
/-- SlabImage$ByteRow.takePadding from 0 -/
def b_130 : am_B := fun k d => (i_aload 0 (i_aload 0 (i_getf 1 2 (i_call k d 45 1 1 (i_putI 1 2 i_vret)))))
/-- SlabImage$Store.readVariables from 0 -/
def b_131 : am_B := fun k d => (i_aload 1 (i_recv 1 0 (i_call k d 125 1 1 (i_istore 2 (i_iload 2 (i_iflt (i_int 0 i_zret) (i_iload 2 (i_int 5 (i_cmple (i_int 0 (i_istore 3 (k d 132))) (i_int 0 i_zret))))))))))
/-- SlabImage$Store.readVariables from 18 -/
def b_132 : am_B := fun k d => (i_iload 3 (i_iload 2 (i_cmpge (i_int 1 i_zret) (i_aload 0 (i_aload 1 (i_aload 0 (i_getf 3 6 (i_iload 3 (i_aald (i_getf 4 6 (i_recv 3 2 (i_call k d 133 3 8 (i_ifne (i_iinc 3 1 (k d 132)) (i_int 0 i_zret))))))))))))))
/-- SlabImage$Store.readVariable from 0 -/
def b_133 : am_B := fun k d => (i_aload 1 (i_recv 1 0 (i_call k d 126 1 1 (i_istore 3 (i_aload 1 (i_recv 1 0 (i_call k d 120 1 1 (i_istore 4 (i_iload 4 (i_iflt (i_int 0 i_zret) (i_iload 4 (i_int 2 (i_cmple (i_iload 4 (i_ifle (i_int (-1) (i_istore 5 (i_iload 4 (i_int 1 (i_cmple (i_int (-1) (k d 134)) (i_aload 1 (i_recv 1 0 (i_call k d 120 1 1 (k d 134))))))))) (i_aload 1 (i_recv 1 0 (i_call k d 120 1 1 (i_istore 5 (i_iload 4 (i_int 1 (i_cmple (i_int (-1) (k d 134)) (i_aload 1 (i_recv 1 0 (i_call k d 120 1 1 (k d 134))))))))))))) (i_int 0 i_zret))))))))))))))
/-- SlabImage$Store.readVariable from 53 -/
def b_134 : am_B := fun k d => (i_istore 6 (i_aload 2 (i_aload 1 (i_recv 0 1 (i_call k d 127 2 8 (i_ifne (i_aload 1 (i_recv 1 0 (i_call k d 120 1 1 (i_istore 7 (i_aload 1 (i_recv 1 0 (i_call k d 120 1 1 (i_pop (i_aload 1 (i_recv 1 0 (i_call k d 120 1 1 (i_pop (i_aload 0 (i_iload 3 (i_iload 7 (i_iload 5 (i_iload 6 (i_recv 3 4 (i_call k d 16 5 5 (i_iflt (i_int 0 i_zret) (i_int 1 i_zret))))))))))))))))))))) (i_int 0 i_zret)))))))
/-- SlabImage$Store.readCells from 0 -/
def b_135 : am_B := fun k d => (i_int 0 (i_istore 2 (k d 136)))
/-- SlabImage$Store.readCells from 2 -/
def b_136 : am_B := fun k d => (i_iload 2 (i_aload 0 (i_getf 3 4 (i_cmpge (i_aload 0 (i_recv 3 0 (i_call k d 54 1 3 (i_int 1 (i_cmple (i_int 0 (i_istore 2 (i_int 0 (i_istore 3 (k d 138))))) (i_int 1 (i_istore 2 (i_int 0 (i_istore 3 (k d 138)))))))))) (i_aload 0 (i_getf 3 6 (i_iload 2 (i_aald (i_getf 4 3 (i_ifne (i_iinc 2 1 (k d 136)) (i_int 0 (i_istore 3 (k d 137)))))))))))))
/-- SlabImage$Store.readCells from 24 -/
def b_137 : am_B := fun k d => (i_iload 3 (i_aload 0 (i_getf 3 6 (i_iload 2 (i_aald (i_getf 4 4 (i_cmpge (i_aload 1 (i_recv 1 0 (i_call k d 130 1 1 (i_iinc 2 1 (k d 136))))) (i_aload 0 (i_getf 3 6 (i_iload 2 (i_aald (i_aload 1 (i_iload 3 (i_recv 4 2 (i_call k d 139 3 4 (i_iinc 3 1 (k d 137)))))))))))))))))
/-- SlabImage$Store.readCells from 80 -/
def b_138 : am_B := fun k d => (i_iload 3 (i_aload 0 (i_getf 3 0 (i_cmpge i_vret (i_aload 0 (i_aload 1 (i_iload 3 (i_iload 2 (i_recv 3 3 (i_call k d 141 4 5 (i_iinc 3 1 (k d 138))))))))))))
/-- SlabImage$Variable.readRow from 0 -/
def b_139 : am_B := fun k d => (i_int 0 (i_istore 3 (k d 140)))
/-- SlabImage$Variable.readRow from 2 -/
def b_140 : am_B := fun k d => (i_iload 3 (i_aload 0 (i_getf 4 5 (i_cmpge i_vret (i_aload 0 (i_iload 2 (i_iload 3 (i_aload 1 (i_aload 0 (i_getf 4 0 (i_recv 1 1 (i_call k d 129 2 3 (i_recv 4 3 (i_call k d 61 4 5 (i_iinc 3 1 (k d 140))))))))))))))))
/-- SlabImage$Store.readRecord from 0 -/
def b_141 : am_B := fun k d => (i_int 0 (i_istore 4 (k d 142)))
/-- SlabImage$Store.readRecord from 3 -/
def b_142 : am_B := fun k d => (i_iload 4 (i_aload 0 (i_getf 3 4 (i_cmpge i_vret (i_aload 0 (i_getf 3 6 (i_iload 4 (i_aald (i_getf 4 3 (i_ifeq (i_iinc 4 1 (k d 142)) (i_aload 0 (i_getf 3 6 (i_iload 4 (i_aald (i_aload 1 (i_iload 2 (i_recv 4 2 (i_call k d 139 3 4 (i_iload 3 (i_ifeq (i_iinc 4 1 (k d 142)) (i_aload 1 (i_recv 1 0 (i_call k d 130 1 1 (i_iinc 4 1 (k d 142)))))))))))))))))))))))))
/-- SlabImage$ByteRow.matches from 0 -/
def b_143 : am_B := fun k d => (i_aload 0 (i_getf 1 1 (i_aload 1 (i_getf 1 1 (i_cmpeq (i_int 0 (i_istore 2 (k d 144))) (i_int 0 i_zret))))))
/-- SlabImage$ByteRow.matches from 15 -/
def b_144 : am_B := fun k d => (i_iload 2 (i_aload 0 (i_getf 1 1 (i_cmpge (i_int 1 i_zret) (i_aload 0 (i_getf 1 0 (i_iload 2 (i_iald 1 (i_aload 1 (i_getf 1 0 (i_iload 2 (i_iald 1 (i_cmpeq (i_iinc 2 1 (k d 144)) (i_int 0 i_zret))))))))))))))
/-- SlabImageModel.<init> from 0 -/
def b_145 : am_B := fun k d => (i_aload 0 (i_obj d (i_aload 0 (i_int 2 (i_newi 0 (i_putR 6 2 (i_aload 0 (i_int 8 (i_newi 0 (i_putR 6 3 (i_aload 0 (i_int 8 (i_newi 0 (i_putR 6 4 (i_aload 0 (i_int 2 (i_newi 0 (i_putR 6 5 (i_aload 0 (i_int 10 (i_newi 0 (i_putR 6 6 (i_aload 0 (i_int 10 (i_newi 0 (i_putR 6 7 (i_aload 0 (i_int 10 (i_newi 0 (i_putR 6 8 (i_aload 0 (i_int 20 (i_newi 0 (i_putR 6 9 (i_aload 0 (i_int 12 (i_newi 0 (i_putR 6 10 (i_aload 0 (i_int 36 (i_newi 0 (i_putR 6 11 (i_aload 0 (i_int 36 (i_newi 0 (i_putR 6 12 (i_aload 0 (i_int 36 (i_newi 0 (i_putR 6 13 (i_aload 0 (i_int 36 (i_newi 0 (i_putR 6 14 (i_aload 0 (i_int 2 (i_newi 0 (i_putR 6 15 (i_aload 0 (i_int 8000 (i_newi 0 (i_putR 6 16 (i_aload 0 (i_int 2 (i_newi 0 (i_putR 6 17 (i_aload 0 (i_int 2 (i_newi 0 (i_dup (i_int 0 (i_int 1 (i_iast 0 (fun x => x) (i_dup (i_int 1 (i_int 1 (i_iast 0 (fun x => x) (i_putR 6 18 (i_aload 0 (i_int 2 (i_newi 0 (i_dup (i_int 0 (i_int 1 (i_iast 0 (fun x => x) (i_dup (i_int 1 (i_int 1 (i_iast 0 (fun x => x) (i_putR 6 19 (i_aload 0 (i_int 800 (i_newi 0 (i_putR 6 20 (i_aload 0 (i_int 800 (i_newi 0 (i_putR 6 22 i_vret))))))))))))))))))))))))))))))))))))))))))))))))))))))))))))))))))))))))))))))))))))))))))))))))))
/-- SlabImageModel.dimension from 0 -/
def b_146 : am_B := fun k d => (i_aload 0 (i_getf 6 1 (i_ifeq (i_iload 1 (i_call k d 148 1 1 (i_ifeq (i_int (-2) i_iret) (i_iload 2 (i_iflt (i_int (-2) i_iret) (i_iload 2 (i_int 8 (i_cmple (i_aload 0 (i_aload 0 (i_getf 6 0 (i_iload 1 (i_int (-1) (i_recv 6 3 (i_call k d 149 4 6 (i_ifeq (i_aload 0 (i_getf 6 2 (i_aload 0 (i_getf 6 0 (i_iald 0 (i_int 4 (i_cmpeq (i_int (-5) i_iret) (i_iload 2 (i_ifne (k d 147) (i_aload 0 (i_aload 0 (i_getf 6 0 (i_recv 6 1 (i_call k d 151 2 4 (i_ifle (k d 147) (i_int (-5) i_iret)))))))))))))))) (i_int (-4) i_iret))))))))) (i_int (-2) i_iret))))))))) (i_int (-1) i_iret))))
/-- SlabImageModel.dimension from 76 -/
def b_147 : am_B := fun k d => (i_aload 0 (i_getf 6 2 (i_aload 0 (i_getf 6 0 (i_iald 0 (i_istore 3 (i_aload 0 (i_getf 6 3 (i_int 4 (i_aload 0 (i_getf 6 0 (i_ii (fun x y => x * y) (i_iload 3 (i_ii (fun x y => x + y) (i_iload 1 (i_iast 0 (fun x => x) (i_aload 0 (i_getf 6 4 (i_int 4 (i_aload 0 (i_getf 6 0 (i_ii (fun x y => x * y) (i_iload 3 (i_ii (fun x y => x + y) (i_iload 2 (i_iast 0 (fun x => x) (i_aload 0 (i_getf 6 2 (i_aload 0 (i_getf 6 0 (i_iload 3 (i_int 1 (i_ii (fun x y => x + y) (i_iast 0 (fun x => x) (i_iload 3 i_iret)))))))))))))))))))))))))))))))))))
/-- SlabImageModel.isName from 0 -/
def b_148 : am_B := fun k d => (i_iload 0 (i_int 33 (i_cmplt (i_int 0 i_zret) (i_iload 0 (i_int 126 (i_cmpgt (i_int 0 i_zret) (i_int 1 i_zret)))))))
/-- SlabImageModel.dimNamed from 0 -/
def b_149 : am_B := fun k d => (i_int 0 (i_istore 4 (i_int 0 (i_istore 5 (k d 150)))))
/-- SlabImageModel.dimNamed from 6 -/
def b_150 : am_B := fun k d => (i_iload 5 (i_aload 0 (i_getf 6 2 (i_iload 1 (i_iald 0 (i_cmpge (i_iload 4 i_zret) (i_iload 4 (i_ifne (i_int 1 (i_istore 4 (i_iinc 5 1 (k d 150)))) (i_iload 5 (i_iload 3 (i_cmpeq (i_int 0 (i_istore 4 (i_iinc 5 1 (k d 150)))) (i_aload 0 (i_getf 6 3 (i_int 4 (i_iload 1 (i_ii (fun x y => x * y) (i_iload 5 (i_ii (fun x y => x + y) (i_iald 0 (i_iload 2 (i_cmpne (i_int 0 (i_istore 4 (i_iinc 5 1 (k d 150)))) (i_int 1 (i_istore 4 (i_iinc 5 1 (k d 150)))))))))))))))))))))))))
/-- SlabImageModel.growing from 0 -/
def b_151 : am_B := fun k d => (i_int 0 (i_istore 2 (i_int 0 (i_istore 3 (k d 152)))))
/-- SlabImageModel.growing from 4 -/
def b_152 : am_B := fun k d => (i_iload 3 (i_aload 0 (i_getf 6 2 (i_iload 1 (i_iald 0 (i_cmpge (i_iload 2 i_iret) (i_aload 0 (i_getf 6 4 (i_int 4 (i_iload 1 (i_ii (fun x y => x * y) (i_iload 3 (i_ii (fun x y => x + y) (i_iald 0 (i_ifne (i_iload 2 (i_istore 2 (i_iinc 3 1 (k d 152)))) (i_iload 2 (i_int 1 (i_ii (fun x y => x + y) (i_istore 2 (i_iinc 3 1 (k d 152)))))))))))))))))))))
/-- SlabImageModel.variable from 0 -/
def b_153 : am_B := fun k d => (i_aload 0 (i_getf 6 1 (i_ifeq (i_iload 1 (i_call k d 148 1 1 (i_ifeq (i_int (-2) i_iret) (i_iload 2 (i_int 1 (i_cmplt (i_int (-2) i_iret) (i_iload 2 (i_int 4 (i_cmple (i_iload 3 (i_int (-1) (i_cmpeq (k d 154) (i_aload 0 (i_iload 3 (i_recv 6 1 (i_call k d 158 2 2 (i_ifeq (i_int (-3) i_iret) (k d 154))))))))) (i_int (-2) i_iret)))))))))) (i_int (-1) i_iret))))
/-- SlabImageModel.variable from 42 -/
def b_154 : am_B := fun k d => (i_iload 4 (i_int (-1) (i_cmpeq (i_iload 3 (i_int (-1) (i_cmpne (k d 155) (i_iload 4 (i_int (-1) (i_cmpeq (k d 155) (i_int (-3) i_iret))))))) (i_aload 0 (i_iload 4 (i_recv 6 1 (i_call k d 158 2 2 (i_ifeq (i_int (-3) i_iret) (i_iload 3 (i_int (-1) (i_cmpne (k d 155) (i_iload 4 (i_int (-1) (i_cmpeq (k d 155) (i_int (-3) i_iret)))))))))))))))
/-- SlabImageModel.variable from 71 -/
def b_155 : am_B := fun k d => (i_iload 4 (i_int (-1) (i_cmpeq (k d 156) (i_aload 0 (i_getf 6 4 (i_int 4 (i_aload 0 (i_getf 6 0 (i_ii (fun x y => x * y) (i_iload 4 (i_ii (fun x y => x + y) (i_iald 0 (i_ifne (k d 156) (i_int (-2) i_iret))))))))))))))
/-- SlabImageModel.variable from 97 -/
def b_156 : am_B := fun k d => (i_aload 0 (i_aload 0 (i_getf 6 0 (i_iload 1 (i_int (-1) (i_recv 6 3 (i_call k d 159 4 6 (i_ifeq (i_aload 0 (i_getf 6 5 (i_aload 0 (i_getf 6 0 (i_iald 0 (i_int 5 (i_cmpne (i_aload 0 (i_getf 6 5 (i_aload 0 (i_getf 6 0 (i_iald 0 (i_istore 5 (i_int 5 (i_aload 0 (i_getf 6 0 (i_ii (fun x y => x * y) (i_iload 5 (i_ii (fun x y => x + y) (i_istore 6 (i_aload 0 (i_getf 6 6 (i_iload 6 (i_iload 1 (i_iast 0 (fun x => x) (i_aload 0 (i_getf 6 7 (i_iload 6 (i_iload 2 (i_iast 0 (fun x => x) (i_aload 0 (i_getf 6 8 (i_iload 6 (i_iload 3 (i_int (-1) (i_cmpne (i_iload 4 (i_int (-1) (i_cmpne (i_int 2 (k d 157)) (i_int 1 (k d 157))))) (i_int 0 (k d 157))))))))))))))))))))))))))))))) (i_int (-5) i_iret)))))))) (i_int (-4) i_iret)))))))))
/-- SlabImageModel.variable from 193 -/
def b_157 : am_B := fun k d => (i_iast 0 (fun x => x) (i_aload 0 (i_getf 6 9 (i_int 2 (i_iload 6 (i_ii (fun x y => x * y) (i_iload 3 (i_iast 0 (fun x => x) (i_aload 0 (i_getf 6 9 (i_int 2 (i_iload 6 (i_ii (fun x y => x * y) (i_int 1 (i_ii (fun x y => x + y) (i_iload 4 (i_iast 0 (fun x => x) (i_aload 0 (i_getf 6 10 (i_int 6 (i_aload 0 (i_getf 6 0 (i_ii (fun x y => x * y) (i_iload 5 (i_ii (fun x y => x + y) (i_int 1 (i_ii (fun x y => x + y) (i_int 0 (i_iast 0 (fun x => x) (i_aload 0 (i_aload 0 (i_getf 6 0 (i_iload 5 (i_recv 6 2 (i_call k d 161 3 4 (i_aload 0 (i_getf 6 5 (i_aload 0 (i_getf 6 0 (i_iload 5 (i_int 1 (i_ii (fun x y => x + y) (i_iast 0 (fun x => x) (i_iload 5 i_iret))))))))))))))))))))))))))))))))))))))))))))
/-- SlabImageModel.isDimension from 0 -/
def b_158 : am_B := fun k d => (i_iload 1 (i_iflt (i_int 0 i_zret) (i_iload 1 (i_aload 0 (i_getf 6 2 (i_aload 0 (i_getf 6 0 (i_iald 0 (i_cmpge (i_int 0 i_zret) (i_int 1 i_zret))))))))))
/-- SlabImageModel.varNamed from 0 -/
def b_159 : am_B := fun k d => (i_int 0 (i_istore 4 (i_int 0 (i_istore 5 (k d 160)))))
/-- SlabImageModel.varNamed from 6 -/
def b_160 : am_B := fun k d => (i_iload 5 (i_aload 0 (i_getf 6 5 (i_iload 1 (i_iald 0 (i_cmpge (i_iload 4 i_zret) (i_iload 4 (i_ifne (i_int 1 (i_istore 4 (i_iinc 5 1 (k d 160)))) (i_iload 5 (i_iload 3 (i_cmpeq (i_int 0 (i_istore 4 (i_iinc 5 1 (k d 160)))) (i_aload 0 (i_getf 6 6 (i_int 5 (i_iload 1 (i_ii (fun x y => x * y) (i_iload 5 (i_ii (fun x y => x + y) (i_iald 0 (i_iload 2 (i_cmpne (i_int 0 (i_istore 4 (i_iinc 5 1 (k d 160)))) (i_int 1 (i_istore 4 (i_iinc 5 1 (k d 160)))))))))))))))))))))))))
/-- SlabImageModel.blank from 0 -/
def b_161 : am_B := fun k d => (i_int 0 (i_istore 3 (k d 162)))
/-- SlabImageModel.blank from 2 -/
def b_162 : am_B := fun k d => (i_iload 3 (i_int 800 (i_cmpge i_vret (i_aload 0 (i_getf 6 16 (i_int 800 (i_int 5 (i_iload 1 (i_ii (fun x y => x * y) (i_iload 2 (i_ii (fun x y => x + y) (i_ii (fun x y => x * y) (i_iload 3 (i_ii (fun x y => x + y) (i_aload 0 (i_getf 6 7 (i_int 5 (i_iload 1 (i_ii (fun x y => x * y) (i_iload 2 (i_ii (fun x y => x + y) (i_iald 0 (i_call k d 163 1 1 (i_iast 0 (fun x => x) (i_iinc 3 1 (k d 162))))))))))))))))))))))))))
/-- SlabImageModel.fill from 0 -/
def b_163 : am_B := fun k d => (i_iload 0 (i_int 1 (i_cmpne (i_iload 0 (i_int 2 (i_cmpne (i_iload 0 (i_int 3 (i_cmpne (i_int (-2147483647) i_iret) (i_int (-32767) i_iret)))) (i_int 0 i_iret)))) (i_int (-127) i_iret))))
/-- SlabImageModel.attribute from 0 -/
def b_164 : am_B := fun k d => (i_aload 0 (i_getf 6 1 (i_ifeq (i_iload 1 (i_int (-1) (i_cmpeq (k d 165) (i_aload 0 (i_iload 1 (i_recv 6 1 (i_call k d 167 2 2 (i_ifne (k d 165) (i_int (-3) i_iret))))))))) (i_int (-1) i_iret))))
/-- SlabImageModel.attribute from 25 -/
def b_165 : am_B := fun k d => (i_iload 2 (i_call k d 148 1 1 (i_ifeq (i_int (-2) i_iret) (i_iload 3 (i_int 1 (i_cmplt (i_int (-2) i_iret) (i_iload 3 (i_int 4 (i_cmple (i_iload 3 (i_iload 4 (i_call k d 168 2 2 (i_ifeq (i_int (-6) i_iret) (i_iload 3 (i_iload 5 (i_call k d 168 2 2 (i_ifne (i_aload 0 (i_iload 1 (i_int 1 (i_ii (fun x y => x + y) (i_iload 2 (i_recv 6 2 (i_call k d 170 3 5 (i_istore 6 (i_int 6 (i_aload 0 (i_getf 6 0 (i_ii (fun x y => x * y) (i_iload 1 (i_ii (fun x y => x + y) (i_int 1 (i_ii (fun x y => x + y) (i_istore 7 (i_iload 6 (i_int 3 (i_iload 7 (i_ii (fun x y => x * y) (i_aload 0 (i_getf 6 10 (i_iload 7 (i_iald 0 (i_ii (fun x y => x + y) (i_cmpne (k d 166) (i_aload 0 (i_getf 6 10 (i_iload 7 (i_iald 0 (i_int 3 (i_cmpne (i_aload 0 (i_getf 6 10 (i_iload 7 (i_dup2 (i_iald 0 (i_int 1 (i_ii (fun x y => x + y) (i_iast 0 (fun x => x) (k d 166))))))))) (i_int (-5) i_iret)))))))))))))))))))))))))))))))))) (i_int (-6) i_iret))))))))) (i_int (-2) i_iret))))))))))
/-- SlabImageModel.attribute from 131 -/
def b_166 : am_B := fun k d => (i_aload 0 (i_getf 6 11 (i_iload 6 (i_iload 2 (i_iast 0 (fun x => x) (i_aload 0 (i_getf 6 12 (i_iload 6 (i_iload 3 (i_iast 0 (fun x => x) (i_aload 0 (i_getf 6 13 (i_iload 6 (i_iload 4 (i_iast 0 (fun x => x) (i_aload 0 (i_getf 6 14 (i_iload 6 (i_iload 5 (i_iast 0 (fun x => x) (i_int 0 i_iret)))))))))))))))))))))
/-- SlabImageModel.isVariable from 0 -/
def b_167 : am_B := fun k d => (i_iload 1 (i_iflt (i_int 0 i_zret) (i_iload 1 (i_aload 0 (i_getf 6 5 (i_aload 0 (i_getf 6 0 (i_iald 0 (i_cmpge (i_int 0 i_zret) (i_int 1 i_zret))))))))))
/-- SlabImageModel.fits from 0 -/
def b_168 : am_B := fun k d => (i_iload 0 (i_int 4 (i_cmpeq (i_int 1 i_zret) (i_iload 0 (i_int 3 (i_cmpne (i_iload 0 (i_int 2 (i_cmpne (k d 169) (i_iload 1 (i_iflt (k d 169) (i_iload 1 (i_int 255 (i_cmple (i_int 1 i_zret) (k d 169))))))))) (i_iload 1 (i_int (-32768) (i_cmplt (i_iload 0 (i_int 2 (i_cmpne (k d 169) (i_iload 1 (i_iflt (k d 169) (i_iload 1 (i_int 255 (i_cmple (i_int 1 i_zret) (k d 169))))))))) (i_iload 1 (i_int 32767 (i_cmple (i_int 1 i_zret) (i_iload 0 (i_int 2 (i_cmpne (k d 169) (i_iload 1 (i_iflt (k d 169) (i_iload 1 (i_int 255 (i_cmple (i_int 1 i_zret) (k d 169)))))))))))))))))))))
/-- SlabImageModel.fits from 40 -/
def b_169 : am_B := fun k d => (i_iload 0 (i_int 1 (i_cmpne (i_int 0 i_zret) (i_iload 1 (i_int (-128) (i_cmplt (i_int 0 i_zret) (i_iload 1 (i_int 127 (i_cmpgt (i_int 0 i_zret) (i_int 1 i_zret))))))))))
/-- SlabImageModel.find from 0 -/
def b_170 : am_B := fun k d => (i_int 18 (i_aload 0 (i_getf 6 0 (i_ii (fun x y => x * y) (i_int 3 (i_iload 1 (i_ii (fun x y => x * y) (i_ii (fun x y => x + y) (i_istore 3 (i_iload 3 (i_aload 0 (i_getf 6 10 (i_int 6 (i_aload 0 (i_getf 6 0 (i_ii (fun x y => x * y) (i_iload 1 (i_ii (fun x y => x + y) (i_iald 0 (i_ii (fun x y => x + y) (i_istore 4 (k d 171))))))))))))))))))))))
/-- SlabImageModel.find from 30 -/
def b_171 : am_B := fun k d => (i_iload 3 (i_iload 4 (i_cmpge (i_iload 3 i_iret) (i_aload 0 (i_getf 6 11 (i_iload 3 (i_iald 0 (i_iload 2 (i_cmpeq (i_iload 3 i_iret) (i_iinc 3 1 (k d 171)))))))))))
/-- SlabImageModel.drop from 0 -/
def b_172 : am_B := fun k d => (i_aload 0 (i_getf 6 1 (i_ifeq (i_iload 1 (i_int (-1) (i_cmpeq (k d 173) (i_aload 0 (i_iload 1 (i_recv 6 1 (i_call k d 167 2 2 (i_ifne (k d 173) (i_int (-3) i_iret))))))))) (i_int (-1) i_iret))))
/-- SlabImageModel.drop from 25 -/
def b_173 : am_B := fun k d => (i_aload 0 (i_iload 1 (i_int 1 (i_ii (fun x y => x + y) (i_iload 2 (i_recv 6 2 (i_call k d 170 3 5 (i_istore 3 (i_int 6 (i_aload 0 (i_getf 6 0 (i_ii (fun x y => x * y) (i_iload 1 (i_ii (fun x y => x + y) (i_int 1 (i_ii (fun x y => x + y) (i_istore 4 (i_int 3 (i_iload 4 (i_ii (fun x y => x * y) (i_aload 0 (i_getf 6 10 (i_iload 4 (i_iald 0 (i_ii (fun x y => x + y) (i_int 1 (i_ii (fun x y => x - y) (i_istore 5 (i_iload 3 (i_iload 5 (i_cmple (i_iload 3 (i_istore 6 (k d 174))) (i_int (-3) i_iret))))))))))))))))))))))))))))))))
/-- SlabImageModel.drop from 75 -/
def b_174 : am_B := fun k d => (i_iload 6 (i_iload 5 (i_cmpge (i_aload 0 (i_getf 6 10 (i_iload 4 (i_dup2 (i_iald 0 (i_int 1 (i_ii (fun x y => x - y) (i_iast 0 (fun x => x) (i_int 0 i_iret))))))))) (i_aload 0 (i_getf 6 11 (i_iload 6 (i_aload 0 (i_getf 6 11 (i_iload 6 (i_int 1 (i_ii (fun x y => x + y) (i_iald 0 (i_iast 0 (fun x => x) (i_aload 0 (i_getf 6 12 (i_iload 6 (i_aload 0 (i_getf 6 12 (i_iload 6 (i_int 1 (i_ii (fun x y => x + y) (i_iald 0 (i_iast 0 (fun x => x) (i_aload 0 (i_getf 6 13 (i_iload 6 (i_aload 0 (i_getf 6 13 (i_iload 6 (i_int 1 (i_ii (fun x y => x + y) (i_iald 0 (i_iast 0 (fun x => x) (i_aload 0 (i_getf 6 14 (i_iload 6 (i_aload 0 (i_getf 6 14 (i_iload 6 (i_int 1 (i_ii (fun x y => x + y) (i_iald 0 (i_iast 0 (fun x => x) (i_iinc 6 1 (k d 174)))))))))))))))))))))))))))))))))))))))))))))
/-- SlabImageModel.rename from 0 -/
def b_175 : am_B := fun k d => (i_aload 0 (i_getf 6 1 (i_ifeq (i_iload 1 (i_ifeq (i_aload 0 (i_iload 2 (i_recv 6 1 (i_call k d 158 2 2 (i_ifne (k d 176) (i_int (-3) i_iret)))))) (i_aload 0 (i_iload 2 (i_recv 6 1 (i_call k d 167 2 2 (i_ifeq (i_int (-3) i_iret) (k d 176)))))))) (i_int (-1) i_iret))))
/-- SlabImageModel.rename from 35 -/
def b_176 : am_B := fun k d => (i_iload 3 (i_call k d 148 1 1 (i_ifne (i_iload 1 (i_ifeq (i_aload 0 (i_aload 0 (i_getf 6 0 (i_iload 3 (i_iload 2 (i_recv 6 3 (i_call k d 149 4 6 (i_ifeq (k d 177) (i_int (-4) i_iret))))))))) (i_aload 0 (i_aload 0 (i_getf 6 0 (i_iload 3 (i_iload 2 (i_recv 6 3 (i_call k d 159 4 6 (i_ifeq (k d 177) (i_int (-4) i_iret))))))))))) (i_int (-2) i_iret))))
/-- SlabImageModel.rename from 81 -/
def b_177 : am_B := fun k d => (i_iload 1 (i_ifeq (i_aload 0 (i_getf 6 3 (i_int 4 (i_aload 0 (i_getf 6 0 (i_ii (fun x y => x * y) (i_iload 2 (i_ii (fun x y => x + y) (i_iload 3 (i_iast 0 (fun x => x) (i_int 0 i_iret))))))))))) (i_aload 0 (i_getf 6 6 (i_int 5 (i_aload 0 (i_getf 6 0 (i_ii (fun x y => x * y) (i_iload 2 (i_ii (fun x y => x + y) (i_iload 3 (i_iast 0 (fun x => x) (i_int 0 i_iret)))))))))))))
/-- SlabImageModel.seal from 0 -/
def b_178 : am_B := fun k d => (i_aload 0 (i_getf 6 1 (i_ifeq (i_aload 0 (i_aload 0 (i_getf 6 0 (i_aload 0 (i_getf 6 15 (i_aload 0 (i_getf 6 0 (i_iald 0 (i_i2l (i_recv 6 2 (i_call k d 179 3 4 (i_lstore 1 (i_lload 1 (i_long 800 (i_lcmp (i_ifle (i_aload 0 (i_int 1 (i_putZ 6 1 (i_lload 1 (i_l2i i_iret))))) (i_int (-8) i_iret))))))))))))))))) (i_int (-1) i_iret))))
/-- SlabImageModel.total from 0 -/
def b_179 : am_B := fun k d => (i_aload 0 (i_iload 1 (i_aload 0 (i_getf 6 5 (i_iload 1 (i_iald 0 (i_recv 6 2 (i_call k d 180 3 7 (i_i2l (i_lload 2 (i_aload 0 (i_iload 1 (i_recv 6 1 (i_call k d 192 2 6 (i_i2l (i_ll (fun x y => x * y) (i_ll (fun x y => x + y) i_lret)))))))))))))))))
/-- SlabImageModel.beginOf from 0 -/
def b_180 : am_B := fun k d => (i_iload 2 (i_aload 0 (i_getf 6 5 (i_iload 1 (i_iald 0 (i_cmpeq (i_int 1 (i_istore 3 (i_aload 0 (i_iload 1 (i_recv 6 1 (i_call k d 185 2 4 (i_istore 4 (i_int 0 (i_istore 5 (k d 181)))))))))) (i_aload 0 (i_iload 1 (i_iload 2 (i_recv 6 2 (i_call k d 183 3 3 (i_ifeq (i_int 0 (i_istore 3 (i_aload 0 (i_iload 1 (i_recv 6 1 (i_call k d 185 2 4 (i_istore 4 (i_int 0 (i_istore 5 (k d 181)))))))))) (i_int 1 (i_istore 3 (i_aload 0 (i_iload 1 (i_recv 6 1 (i_call k d 185 2 4 (i_istore 4 (i_int 0 (i_istore 5 (k d 181))))))))))))))))))))))
/-- SlabImageModel.beginOf from 35 -/
def b_181 : am_B := fun k d => (i_iload 5 (i_aload 0 (i_getf 6 5 (i_iload 1 (i_iald 0 (i_cmpge (i_iload 4 i_iret) (i_aload 0 (i_iload 1 (i_iload 5 (i_recv 6 2 (i_call k d 183 3 3 (i_ifeq (i_iload 3 (i_ifne (i_int 1 (k d 182)) (i_iload 5 (i_iload 2 (i_cmpge (i_int 0 (k d 182)) (i_int 1 (k d 182))))))) (i_iload 3 (i_ifeq (i_int 0 (k d 182)) (i_iload 2 (i_aload 0 (i_getf 6 5 (i_iload 1 (i_iald 0 (i_cmpge (i_int 0 (k d 182)) (i_iload 5 (i_iload 2 (i_cmpge (i_int 0 (k d 182)) (i_int 1 (k d 182)))))))))))))))))))))))))
/-- SlabImageModel.beginOf from 99 -/
def b_182 : am_B := fun k d => (i_istore 6 (i_iload 6 (i_ifeq (i_iload 4 (i_istore 4 (i_iinc 5 1 (k d 181)))) (i_iload 4 (i_aload 0 (i_iload 1 (i_iload 5 (i_recv 6 2 (i_call k d 189 3 3 (i_ii (fun x y => x + y) (i_istore 4 (i_iinc 5 1 (k d 181)))))))))))))
/-- SlabImageModel.isRecord from 0 -/
def b_183 : am_B := fun k d => (i_aload 0 (i_iload 1 (i_iload 2 (i_int 0 (i_recv 6 3 (i_call k d 184 4 4 (i_ifne (i_int 0 i_zret) (i_int 1 i_zret))))))))
/-- SlabImageModel.lengthOf from 0 -/
def b_184 : am_B := fun k d => (i_iload 3 (i_aload 0 (i_getf 6 8 (i_int 5 (i_iload 1 (i_ii (fun x y => x * y) (i_iload 2 (i_ii (fun x y => x + y) (i_iald 0 (i_cmpge (i_int 1 i_iret) (i_aload 0 (i_getf 6 4 (i_int 4 (i_iload 1 (i_ii (fun x y => x * y) (i_aload 0 (i_getf 6 9 (i_int 10 (i_iload 1 (i_ii (fun x y => x * y) (i_int 2 (i_iload 2 (i_ii (fun x y => x * y) (i_ii (fun x y => x + y) (i_iload 3 (i_ii (fun x y => x + y) (i_iald 0 (i_ii (fun x y => x + y) (i_iald 0 i_iret)))))))))))))))))))))))))))))
/-- SlabImageModel.headerSize from 0 -/
def b_185 : am_B := fun k d => (i_int 16 (i_int 12 (i_aload 0 (i_getf 6 2 (i_iload 1 (i_iald 0 (i_ii (fun x y => x * y) (i_ii (fun x y => x + y) (i_aload 0 (i_iload 1 (i_int 0 (i_recv 6 2 (i_call k d 187 3 5 (i_ii (fun x y => x + y) (i_int 8 (i_ii (fun x y => x + y) (i_istore 2 (i_int 0 (i_istore 3 (k d 186))))))))))))))))))))
/-- SlabImageModel.headerSize from 25 -/
def b_186 : am_B := fun k d => (i_iload 3 (i_aload 0 (i_getf 6 5 (i_iload 1 (i_iald 0 (i_cmpge (i_iload 2 i_iret) (i_iload 2 (i_int 24 (i_ii (fun x y => x + y) (i_int 4 (i_aload 0 (i_getf 6 8 (i_int 5 (i_iload 1 (i_ii (fun x y => x * y) (i_iload 3 (i_ii (fun x y => x + y) (i_iald 0 (i_ii (fun x y => x * y) (i_ii (fun x y => x + y) (i_aload 0 (i_iload 1 (i_iload 3 (i_int 1 (i_ii (fun x y => x + y) (i_recv 6 2 (i_call k d 187 3 5 (i_ii (fun x y => x + y) (i_istore 2 (i_iinc 3 1 (k d 186)))))))))))))))))))))))))))))))
/-- SlabImageModel.listSize from 0 -/
def b_187 : am_B := fun k d => (i_int 8 (i_istore 3 (i_int 0 (i_istore 4 (k d 188)))))
/-- SlabImageModel.listSize from 6 -/
def b_188 : am_B := fun k d => (i_iload 4 (i_aload 0 (i_getf 6 10 (i_int 6 (i_iload 1 (i_ii (fun x y => x * y) (i_iload 2 (i_ii (fun x y => x + y) (i_iald 0 (i_cmpge (i_iload 3 i_iret) (i_iload 3 (i_int 16 (i_ii (fun x y => x + y) (i_aload 0 (i_getf 6 12 (i_int 18 (i_iload 1 (i_ii (fun x y => x * y) (i_int 3 (i_iload 2 (i_ii (fun x y => x * y) (i_ii (fun x y => x + y) (i_iload 4 (i_ii (fun x y => x + y) (i_iald 0 (i_int 4 (i_cmpne (i_int 4 (i_ii (fun x y => x + y) (i_istore 3 (i_iinc 4 1 (k d 188))))) (i_int 8 (i_ii (fun x y => x + y) (i_istore 3 (i_iinc 4 1 (k d 188))))))))))))))))))))))))))))))))
/-- SlabImageModel.padded from 0 -/
def b_189 : am_B := fun k d => (i_aload 0 (i_iload 1 (i_iload 2 (i_recv 6 2 (i_call k d 190 3 4 (i_aload 0 (i_getf 6 7 (i_int 5 (i_iload 1 (i_ii (fun x y => x * y) (i_iload 2 (i_ii (fun x y => x + y) (i_iald 0 (i_call k d 191 1 1 (i_ii (fun x y => x * y) (i_int 3 (i_ii (fun x y => x + y) (i_int 4 (i_idz (fun x y => x / y) (i_int 4 (i_ii (fun x y => x * y) i_iret)))))))))))))))))))))
/-- SlabImageModel.cells from 0 -/
def b_190 : am_B := fun k d => (i_aload 0 (i_iload 1 (i_iload 2 (i_int 0 (i_recv 6 3 (i_call k d 184 4 4 (i_istore 3 (i_iload 3 (i_ifne (i_iload 3 (i_aload 0 (i_iload 1 (i_iload 2 (i_int 1 (i_recv 6 3 (i_call k d 184 4 4 (i_ii (fun x y => x * y) i_iret)))))))) (i_int 1 (i_aload 0 (i_iload 1 (i_iload 2 (i_int 1 (i_recv 6 3 (i_call k d 184 4 4 (i_ii (fun x y => x * y) i_iret)))))))))))))))))
/-- SlabImageModel.bytes from 0 -/
def b_191 : am_B := fun k d => (i_iload 0 (i_int 2 (i_cmpgt (i_iload 0 (i_int 3 (i_cmpne (i_int 4 i_iret) (i_int 2 i_iret)))) (i_int 1 i_iret))))
/-- SlabImageModel.recordSize from 0 -/
def b_192 : am_B := fun k d => (i_int 0 (i_istore 2 (i_aload 0 (i_iload 1 (i_recv 6 1 (i_call k d 195 2 4 (i_int 1 (i_cmpne (i_int 0 (i_istore 3 (i_int 0 (i_istore 4 (k d 193))))) (i_int 1 (i_istore 3 (i_int 0 (i_istore 4 (k d 193)))))))))))))
/-- SlabImageModel.recordSize from 20 -/
def b_193 : am_B := fun k d => (i_iload 4 (i_aload 0 (i_getf 6 5 (i_iload 1 (i_iald 0 (i_cmpge (i_iload 2 i_iret) (i_iload 3 (i_ifeq (i_aload 0 (i_iload 1 (i_iload 4 (i_recv 6 2 (i_call k d 189 3 3 (k d 194)))))) (i_aload 0 (i_iload 1 (i_iload 4 (i_recv 6 2 (i_call k d 190 3 4 (i_aload 0 (i_getf 6 7 (i_int 5 (i_iload 1 (i_ii (fun x y => x * y) (i_iload 4 (i_ii (fun x y => x + y) (i_iald 0 (i_call k d 191 1 1 (i_ii (fun x y => x * y) (k d 194))))))))))))))))))))))))
/-- SlabImageModel.recordSize from 67 -/
def b_194 : am_B := fun k d => (i_istore 5 (i_aload 0 (i_iload 1 (i_iload 4 (i_recv 6 2 (i_call k d 183 3 3 (i_ifeq (i_iload 2 (i_istore 2 (i_iinc 4 1 (k d 193)))) (i_iload 2 (i_iload 5 (i_ii (fun x y => x + y) (i_istore 2 (i_iinc 4 1 (k d 193)))))))))))))
/-- SlabImageModel.recordVariables from 0 -/
def b_195 : am_B := fun k d => (i_int 0 (i_istore 2 (i_int 0 (i_istore 3 (k d 196)))))
/-- SlabImageModel.recordVariables from 4 -/
def b_196 : am_B := fun k d => (i_iload 3 (i_aload 0 (i_getf 6 5 (i_iload 1 (i_iald 0 (i_cmpge (i_iload 2 i_iret) (i_aload 0 (i_iload 1 (i_iload 3 (i_recv 6 2 (i_call k d 183 3 3 (i_ifeq (i_iload 2 (i_istore 2 (i_iinc 3 1 (k d 196)))) (i_iload 2 (i_int 1 (i_ii (fun x y => x + y) (i_istore 2 (i_iinc 3 1 (k d 196))))))))))))))))))
/-- SlabImageModel.redefine from 0 -/
def b_197 : am_B := fun k d => (i_aload 0 (i_getf 6 1 (i_ifne (i_aload 0 (i_int 0 (i_putZ 6 1 (i_int 0 i_iret)))) (i_int (-1) i_iret))))
/-- SlabImageModel.put from 0 -/
def b_198 : am_B := fun k d => (i_aload 0 (i_getf 6 1 (i_ifne (i_aload 0 (i_iload 1 (i_recv 6 1 (i_call k d 167 2 2 (i_ifne (i_aload 0 (i_iload 1 (i_iload 2 (i_i2l (i_iload 3 (i_i2l (i_int 1 (i_recv 6 4 (i_call k d 199 5 7 (i_ifne (i_aload 0 (i_getf 6 7 (i_int 5 (i_aload 0 (i_getf 6 0 (i_ii (fun x y => x * y) (i_iload 1 (i_ii (fun x y => x + y) (i_iald 0 (i_iload 4 (i_call k d 168 2 2 (i_ifne (i_aload 0 (i_iload 1 (i_iload 2 (i_i2l (i_recv 6 2 (i_call k d 200 3 4 (i_ifne (i_aload 0 (i_getf 6 16 (i_aload 0 (i_iload 1 (i_iload 2 (i_i2l (i_iload 3 (i_i2l (i_recv 6 3 (i_call k d 201 4 6 (i_iload 4 (i_iast 0 (fun x => x) (i_int 0 i_iret))))))))))))) (i_int (-8) i_iret)))))))) (i_int (-6) i_iret))))))))))))) (i_int (-7) i_iret))))))))))) (i_int (-3) i_iret)))))) (i_int (-1) i_iret))))
/-- SlabImageModel.there from 0 -/
def b_199 : am_B := fun k d => (i_lload 2 (i_long 0 (i_lcmp (i_iflt (i_int 0 i_zret) (i_lload 4 (i_long 0 (i_lcmp (i_iflt (i_int 0 i_zret) (i_lload 4 (i_aload 0 (i_aload 0 (i_getf 6 0 (i_iload 1 (i_int 1 (i_recv 6 3 (i_call k d 184 4 4 (i_i2l (i_lcmp (i_iflt (i_aload 0 (i_aload 0 (i_getf 6 0 (i_iload 1 (i_recv 6 2 (i_call k d 183 3 3 (i_ifeq (i_lload 2 (i_aload 0 (i_aload 0 (i_getf 6 0 (i_iload 1 (i_int 0 (i_recv 6 3 (i_call k d 184 4 4 (i_i2l (i_lcmp (i_ifge (i_int 0 i_zret) (i_int 1 i_zret)))))))))))) (i_iload 6 (i_ifne (i_int 1 i_zret) (i_lload 2 (i_aload 0 (i_getf 6 15 (i_aload 0 (i_getf 6 0 (i_iald 0 (i_i2l (i_lcmp (i_ifge (i_int 0 i_zret) (i_int 1 i_zret))))))))))))))))))) (i_int 0 i_zret))))))))))))))))))))
/-- SlabImageModel.grow from 0 -/
def b_200 : am_B := fun k d => (i_aload 0 (i_aload 0 (i_getf 6 0 (i_iload 1 (i_recv 6 2 (i_call k d 183 3 3 (i_ifeq (i_int 1 i_zret) (i_lload 2 (i_aload 0 (i_getf 6 15 (i_aload 0 (i_getf 6 0 (i_iald 0 (i_i2l (i_lcmp (i_ifge (i_aload 0 (i_aload 0 (i_getf 6 0 (i_lload 2 (i_long 1 (i_ll (fun x y => x + y) (i_recv 6 2 (i_call k d 179 3 4 (i_long 800 (i_lcmp (i_ifle (i_aload 0 (i_getf 6 15 (i_aload 0 (i_getf 6 0 (i_lload 2 (i_l2i (i_int 1 (i_ii (fun x y => x + y) (i_iast 0 (fun x => x) (i_int 1 i_zret)))))))))) (i_int 0 i_zret)))))))))))) (i_int 1 i_zret)))))))))))))))))
/-- SlabImageModel.cellAt from 0 -/
def b_201 : am_B := fun k d => (i_int 800 (i_int 5 (i_aload 0 (i_getf 6 0 (i_ii (fun x y => x * y) (i_iload 1 (i_ii (fun x y => x + y) (i_ii (fun x y => x * y) (i_lload 2 (i_l2i (i_aload 0 (i_aload 0 (i_getf 6 0 (i_iload 1 (i_int 1 (i_recv 6 3 (i_call k d 184 4 4 (i_ii (fun x y => x * y) (i_ii (fun x y => x + y) (i_lload 4 (i_l2i (i_ii (fun x y => x + y) i_iret))))))))))))))))))))))
/-- SlabImageModel.get from 0 -/
def b_202 : am_B := fun k d => (i_aload 0 (i_getf 6 1 (i_ifeq (i_long 1099511627776 i_lret) (i_aload 0 (i_iload 1 (i_recv 6 1 (i_call k d 167 2 2 (i_ifeq (i_long 1099511627776 i_lret) (i_aload 0 (i_iload 1 (i_iload 2 (i_i2l (i_iload 3 (i_i2l (i_int 0 (i_recv 6 4 (i_call k d 199 5 7 (i_ifne (i_aload 0 (i_getf 6 16 (i_aload 0 (i_iload 1 (i_iload 2 (i_i2l (i_iload 3 (i_i2l (i_recv 6 3 (i_call k d 201 4 6 (i_iald 0 (i_i2l i_lret)))))))))))) (i_long 1099511627776 i_lret)))))))))))))))))))
/-- SlabImageModel.select from 0 -/
def b_203 : am_B := fun k d => (i_iload 1 (i_ifeq (k d 204) (i_iload 1 (i_int 1 (i_cmpeq (k d 204) (i_int (-3) i_iret))))))
/-- SlabImageModel.select from 12 -/
def b_204 : am_B := fun k d => (i_iload 2 (i_iflt (i_int (-2) i_iret) (i_iload 3 (i_int 1 (i_cmplt (i_int (-2) i_iret) (i_iload 3 (i_int 8 (i_cmpgt (i_int (-2) i_iret) (i_iload 4 (i_int 1 (i_cmplt (i_int (-2) i_iret) (i_iload 4 (i_int 8 (i_cmple (i_aload 0 (i_getf 6 17 (i_iload 1 (i_iload 2 (i_iast 0 (fun x => x) (i_aload 0 (i_getf 6 18 (i_iload 1 (i_iload 3 (i_iast 0 (fun x => x) (i_aload 0 (i_getf 6 19 (i_iload 1 (i_iload 4 (i_iast 0 (fun x => x) (i_int 0 i_iret)))))))))))))))) (i_int (-2) i_iret)))))))))))))))
/-- SlabImageModel.putSlab from 0 -/
def b_205 : am_B := fun k d => (i_aload 0 (i_getf 6 1 (i_ifne (i_aload 0 (i_iload 1 (i_recv 6 1 (i_call k d 167 2 2 (i_ifne (i_aload 0 (i_iload 1 (i_int 1 (i_recv 6 2 (i_call k d 208 3 5 (i_ifne (i_aload 0 (i_iload 1 (i_int 0 (i_recv 6 2 (i_call k d 211 3 3 (i_aload 0 (i_iload 1 (i_int 1 (i_recv 6 2 (i_call k d 211 3 3 (i_ii (fun x y => x * y) (i_istore 4 (i_int 0 (i_istore 5 (k d 206))))))))))))))) (i_int (-7) i_iret))))))) (i_int (-3) i_iret)))))) (i_int (-1) i_iret))))
/-- SlabImageModel.putSlab from 50 -/
def b_206 : am_B := fun k d => (i_iload 5 (i_iload 4 (i_cmpge (i_aload 0 (i_iload 1 (i_aload 0 (i_iload 1 (i_int 0 (i_aload 0 (i_iload 1 (i_int 0 (i_recv 6 2 (i_call k d 211 3 3 (i_int 1 (i_ii (fun x y => x - y) (i_recv 6 3 (i_call k d 212 4 4 (i_recv 6 2 (i_call k d 200 3 4 (i_ifne (i_int 0 (i_istore 5 (k d 207))) (i_int (-8) i_iret)))))))))))))))))) (i_aload 0 (i_getf 6 7 (i_int 5 (i_aload 0 (i_getf 6 0 (i_ii (fun x y => x * y) (i_iload 1 (i_ii (fun x y => x + y) (i_iald 0 (i_iload 2 (i_iload 5 (i_iload 3 (i_ii (fun x y => x * y) (i_ii (fun x y => x + y) (i_call k d 168 2 2 (i_ifne (i_iinc 5 1 (k d 206)) (i_int (-6) i_iret))))))))))))))))))))
/-- SlabImageModel.putSlab from 119 -/
def b_207 : am_B := fun k d => (i_iload 5 (i_iload 4 (i_cmpge (i_iload 4 i_iret) (i_aload 0 (i_getf 6 16 (i_aload 0 (i_iload 1 (i_aload 0 (i_iload 1 (i_int 0 (i_iload 5 (i_aload 0 (i_iload 1 (i_int 1 (i_recv 6 2 (i_call k d 211 3 3 (i_idz (fun x y => x / y) (i_recv 6 3 (i_call k d 212 4 4 (i_aload 0 (i_iload 1 (i_int 1 (i_iload 5 (i_aload 0 (i_iload 1 (i_int 1 (i_recv 6 2 (i_call k d 211 3 3 (i_idz (fun x y => x - x / y * y) (i_recv 6 3 (i_call k d 212 4 4 (i_recv 6 3 (i_call k d 201 4 6 (i_iload 2 (i_iload 5 (i_iload 3 (i_ii (fun x y => x * y) (i_ii (fun x y => x + y) (i_iast 0 (fun x => x) (i_iinc 5 1 (k d 207)))))))))))))))))))))))))))))))))))))))))
/-- SlabImageModel.slabThere from 0 -/
def b_208 : am_B := fun k d => (i_int 0 (i_istore 3 (k d 209)))
/-- SlabImageModel.slabThere from 2 -/
def b_209 : am_B := fun k d => (i_iload 3 (i_aload 0 (i_iload 1 (i_int 0 (i_recv 6 2 (i_call k d 211 3 3 (i_cmpge (i_int 1 i_zret) (i_int 0 (i_istore 4 (k d 210))))))))))
/-- SlabImageModel.slabThere from 15 -/
def b_210 : am_B := fun k d => (i_iload 4 (i_aload 0 (i_iload 1 (i_int 1 (i_recv 6 2 (i_call k d 211 3 3 (i_cmpge (i_iinc 3 1 (k d 209)) (i_aload 0 (i_iload 1 (i_aload 0 (i_iload 1 (i_int 0 (i_iload 3 (i_recv 6 3 (i_call k d 212 4 4 (i_aload 0 (i_iload 1 (i_int 1 (i_iload 4 (i_recv 6 3 (i_call k d 212 4 4 (i_iload 2 (i_recv 6 4 (i_call k d 199 5 7 (i_ifne (i_iinc 4 1 (k d 210)) (i_int 0 i_zret))))))))))))))))))))))))))
/-- SlabImageModel.many from 0 -/
def b_211 : am_B := fun k d => (i_iload 2 (i_aload 0 (i_getf 6 8 (i_int 5 (i_aload 0 (i_getf 6 0 (i_ii (fun x y => x * y) (i_iload 1 (i_ii (fun x y => x + y) (i_iald 0 (i_cmpge (i_int 1 i_iret) (i_aload 0 (i_getf 6 18 (i_iload 2 (i_iald 0 i_iret)))))))))))))))
/-- SlabImageModel.chosen from 0 -/
def b_212 : am_B := fun k d => (i_iload 2 (i_aload 0 (i_getf 6 8 (i_int 5 (i_aload 0 (i_getf 6 0 (i_ii (fun x y => x * y) (i_iload 1 (i_ii (fun x y => x + y) (i_iald 0 (i_cmpge (i_long 0 i_lret) (i_aload 0 (i_getf 6 17 (i_iload 2 (i_iald 0 (i_i2l (i_iload 3 (i_i2l (i_aload 0 (i_getf 6 19 (i_iload 2 (i_iald 0 (i_i2l (i_ll (fun x y => x * y) (i_ll (fun x y => x + y) i_lret)))))))))))))))))))))))))
/-- SlabImageModel.getSlab from 0 -/
def b_213 : am_B := fun k d => (i_aload 0 (i_getf 6 1 (i_ifeq (i_long 1099511627776 i_lret) (i_aload 0 (i_iload 1 (i_recv 6 1 (i_call k d 167 2 2 (i_ifeq (i_long 1099511627776 i_lret) (i_aload 0 (i_iload 1 (i_int 0 (i_recv 6 2 (i_call k d 208 3 5 (i_ifeq (i_long 1099511627776 i_lret) (i_iload 2 (i_iflt (i_long 1099511627776 i_lret) (i_iload 2 (i_aload 0 (i_iload 1 (i_int 0 (i_recv 6 2 (i_call k d 211 3 3 (i_aload 0 (i_iload 1 (i_int 1 (i_recv 6 2 (i_call k d 211 3 3 (i_ii (fun x y => x * y) (i_cmplt (i_aload 0 (i_getf 6 16 (i_aload 0 (i_iload 1 (i_aload 0 (i_iload 1 (i_int 0 (i_iload 2 (i_aload 0 (i_iload 1 (i_int 1 (i_recv 6 2 (i_call k d 211 3 3 (i_idz (fun x y => x / y) (i_recv 6 3 (i_call k d 212 4 4 (i_aload 0 (i_iload 1 (i_int 1 (i_iload 2 (i_aload 0 (i_iload 1 (i_int 1 (i_recv 6 2 (i_call k d 211 3 3 (i_idz (fun x y => x - x / y * y) (i_recv 6 3 (i_call k d 212 4 4 (i_recv 6 3 (i_call k d 201 4 6 (i_iald 0 (i_i2l i_lret)))))))))))))))))))))))))))))))) (i_long 1099511627776 i_lret))))))))))))))))))))))))))))))
/-- SlabImageModel.records from 0 -/
def b_214 : am_B := fun k d => (i_aload 0 (i_getf 6 15 (i_aload 0 (i_getf 6 0 (i_iald 0 i_iret)))))
/-- SlabImageModel.size from 0 -/
def b_215 : am_B := fun k d => (i_aload 0 (i_getf 6 1 (i_ifeq (i_int (-1) i_iret) (i_aload 0 (i_aload 0 (i_getf 6 0 (i_aload 0 (i_getf 6 15 (i_aload 0 (i_getf 6 0 (i_iald 0 (i_i2l (i_recv 6 2 (i_call k d 179 3 4 (i_l2i i_iret)))))))))))))))
/-- SlabImageModel.begin from 0 -/
def b_216 : am_B := fun k d => (i_aload 0 (i_getf 6 1 (i_ifne (i_aload 0 (i_iload 1 (i_recv 6 1 (i_call k d 167 2 2 (i_ifeq (i_int (-3) i_iret) (i_aload 0 (i_aload 0 (i_getf 6 0 (i_iload 1 (i_recv 6 2 (i_call k d 180 3 7 i_iret))))))))))) (i_int (-1) i_iret))))
/-- SlabImageModel.eight from 0 -/
def b_217 : am_B := fun k d => (i_aload 0 (i_getf 6 1 (i_ifeq (i_long 0 i_lret) (i_iload 1 (i_ifge (i_aload 0 (i_aload 0 (i_getf 6 0 (i_recv 6 1 (i_call k d 219 2 5 (i_long 0 (i_lstore 2 (i_int 0 (i_istore 4 (k d 218)))))))))) (i_long 0 i_lret))))))
/-- SlabImageModel.eight from 26 -/
def b_218 : am_B := fun k d => (i_iload 4 (i_int 8 (i_cmpge (i_lload 2 i_lret) (i_long 8 (i_iload 1 (i_i2l (i_ll (fun x y => x * y) (i_iload 4 (i_i2l (i_ll (fun x y => x + y) (i_lstore 5 (i_lload 2 (i_long 256 (i_ll (fun x y => x * y) (i_lload 5 (i_aload 0 (i_getf 6 21 (i_i2l (i_lcmp (i_ifge (i_int 0 (i_i2l (i_ll (fun x y => x + y) (i_lstore 2 (i_iinc 4 1 (k d 218)))))) (i_aload 0 (i_getf 6 20 (i_lload 5 (i_l2i (i_iald 0 (i_i2l (i_ll (fun x y => x + y) (i_lstore 2 (i_iinc 4 1 (k d 218))))))))))))))))))))))))))))))
/-- SlabImageModel.writeImage from 0 -/
def b_219 : am_B := fun k d => (i_aload 0 (i_int 0 (i_putI 6 21 (i_aload 0 (i_int 1196573697 (i_int 4 (i_recv 6 2 (i_call k d 225 3 4 (i_aload 0 (i_aload 0 (i_getf 6 15 (i_iload 1 (i_iald 0 (i_int 4 (i_recv 6 2 (i_call k d 225 3 4 (i_aload 0 (i_int 10 (i_aload 0 (i_getf 6 2 (i_iload 1 (i_iald 0 (i_recv 6 2 (i_call k d 228 3 3 (i_int 4 (i_iload 1 (i_ii (fun x y => x * y) (i_istore 2 (k d 220)))))))))))))))))))))))))))))
/-- SlabImageModel.writeImage from 39 -/
def b_220 : am_B := fun k d => (i_iload 2 (i_int 4 (i_iload 1 (i_ii (fun x y => x * y) (i_aload 0 (i_getf 6 2 (i_iload 1 (i_iald 0 (i_ii (fun x y => x + y) (i_cmpge (i_aload 0 (i_iload 1 (i_int 0 (i_recv 6 2 (i_call k d 230 3 5 (i_aload 0 (i_int 11 (i_aload 0 (i_getf 6 5 (i_iload 1 (i_iald 0 (i_recv 6 2 (i_call k d 228 3 3 (i_int 0 (i_istore 2 (k d 221)))))))))))))))) (i_aload 0 (i_aload 0 (i_getf 6 3 (i_iload 2 (i_iald 0 (i_recv 6 1 (i_call k d 229 2 2 (i_aload 0 (i_aload 0 (i_getf 6 4 (i_iload 2 (i_iald 0 (i_int 4 (i_recv 6 2 (i_call k d 225 3 4 (i_iinc 2 1 (k d 220)))))))))))))))))))))))))))
/-- SlabImageModel.writeImage from 100 -/
def b_221 : am_B := fun k d => (i_iload 2 (i_aload 0 (i_getf 6 5 (i_iload 1 (i_iald 0 (i_cmpge (i_int 0 (i_istore 2 (k d 222))) (i_aload 0 (i_iload 1 (i_iload 2 (i_recv 6 2 (i_call k d 233 3 6 (i_iinc 2 1 (k d 221)))))))))))))
/-- SlabImageModel.writeImage from 124 -/
def b_222 : am_B := fun k d => (i_iload 2 (i_aload 0 (i_getf 6 5 (i_iload 1 (i_iald 0 (i_cmpge (i_aload 0 (i_iload 1 (i_recv 6 1 (i_call k d 195 2 4 (i_int 1 (i_cmple (i_int 0 (i_istore 2 (i_int 0 (i_istore 3 (k d 223))))) (i_int 1 (i_istore 2 (i_int 0 (i_istore 3 (k d 223))))))))))) (i_aload 0 (i_iload 1 (i_iload 2 (i_recv 6 2 (i_call k d 183 3 3 (i_ifne (i_iinc 2 1 (k d 222)) (i_aload 0 (i_iload 1 (i_iload 2 (i_int 0 (i_int 1 (i_recv 6 4 (i_call k d 235 5 9 (i_iinc 2 1 (k d 222)))))))))))))))))))))
/-- SlabImageModel.writeImage from 174 -/
def b_223 : am_B := fun k d => (i_iload 3 (i_aload 0 (i_getf 6 15 (i_iload 1 (i_iald 0 (i_cmpge i_vret (i_int 0 (i_istore 4 (k d 224)))))))))
/-- SlabImageModel.writeImage from 187 -/
def b_224 : am_B := fun k d => (i_iload 4 (i_aload 0 (i_getf 6 5 (i_iload 1 (i_iald 0 (i_cmpge (i_iinc 3 1 (k d 223)) (i_aload 0 (i_iload 1 (i_iload 4 (i_recv 6 2 (i_call k d 183 3 3 (i_ifeq (i_iinc 4 1 (k d 224)) (i_aload 0 (i_iload 1 (i_iload 4 (i_iload 3 (i_iload 2 (i_recv 6 4 (i_call k d 235 5 9 (i_iinc 4 1 (k d 224)))))))))))))))))))))
/-- SlabImageModel.writeValue from 0 -/
def b_225 : am_B := fun k d => (i_iload 2 (i_int 1 (i_ii (fun x y => x - y) (i_istore 3 (k d 226)))))
/-- SlabImageModel.writeValue from 4 -/
def b_226 : am_B := fun k d => (i_iload 3 (i_iflt i_vret (i_aload 0 (i_iload 1 (i_int 8 (i_iload 3 (i_ii (fun x y => x * y) (i_ii (fun x y => x >>> (y &&& 31)) (i_int 255 (i_ii (fun x y => x &&& y) (i_recv 6 1 (i_call k d 227 2 2 (i_iinc 3 (-1) (k d 226))))))))))))))
/-- SlabImageModel.write from 0 -/
def b_227 : am_B := fun k d => (i_aload 0 (i_getf 6 20 (i_aload 0 (i_getf 6 21 (i_iload 1 (i_iast 0 (fun x => x) (i_aload 0 (i_dup (i_getf 6 21 (i_int 1 (i_ii (fun x y => x + y) (i_putI 6 21 i_vret))))))))))))
/-- SlabImageModel.writeCount from 0 -/
def b_228 : am_B := fun k d => (i_aload 0 (i_iload 2 (i_ifne (i_iload 1 (i_int 4 (i_recv 6 2 (i_call k d 225 3 4 (i_aload 0 (i_iload 2 (i_int 4 (i_recv 6 2 (i_call k d 225 3 4 i_vret))))))))) (i_int 0 (i_int 4 (i_recv 6 2 (i_call k d 225 3 4 (i_aload 0 (i_iload 2 (i_int 4 (i_recv 6 2 (i_call k d 225 3 4 i_vret))))))))))))
/-- SlabImageModel.writeName from 0 -/
def b_229 : am_B := fun k d => (i_aload 0 (i_int 1 (i_int 4 (i_recv 6 2 (i_call k d 225 3 4 (i_aload 0 (i_iload 1 (i_recv 6 1 (i_call k d 227 2 2 (i_aload 0 (i_int 0 (i_int 3 (i_recv 6 2 (i_call k d 225 3 4 i_vret))))))))))))))
/-- SlabImageModel.writeList from 0 -/
def b_230 : am_B := fun k d => (i_aload 0 (i_int 12 (i_aload 0 (i_getf 6 10 (i_int 6 (i_iload 1 (i_ii (fun x y => x * y) (i_iload 2 (i_ii (fun x y => x + y) (i_iald 0 (i_recv 6 2 (i_call k d 228 3 3 (i_int 18 (i_iload 1 (i_ii (fun x y => x * y) (i_int 3 (i_iload 2 (i_ii (fun x y => x * y) (i_ii (fun x y => x + y) (i_istore 3 (k d 231)))))))))))))))))))))
/-- SlabImageModel.writeList from 26 -/
def b_231 : am_B := fun k d => (i_iload 3 (i_int 18 (i_iload 1 (i_ii (fun x y => x * y) (i_int 3 (i_iload 2 (i_ii (fun x y => x * y) (i_ii (fun x y => x + y) (i_aload 0 (i_getf 6 10 (i_int 6 (i_iload 1 (i_ii (fun x y => x * y) (i_iload 2 (i_ii (fun x y => x + y) (i_iald 0 (i_ii (fun x y => x + y) (i_cmpge i_vret (i_aload 0 (i_aload 0 (i_getf 6 11 (i_iload 3 (i_iald 0 (i_recv 6 1 (i_call k d 229 2 2 (i_aload 0 (i_aload 0 (i_getf 6 12 (i_iload 3 (i_iald 0 (i_int 4 (i_recv 6 2 (i_call k d 225 3 4 (i_aload 0 (i_int 2 (i_int 4 (i_recv 6 2 (i_call k d 225 3 4 (i_aload 0 (i_getf 6 21 (i_istore 4 (i_aload 0 (i_aload 0 (i_getf 6 13 (i_iload 3 (i_iald 0 (i_aload 0 (i_getf 6 12 (i_iload 3 (i_iald 0 (i_call k d 191 1 1 (i_recv 6 2 (i_call k d 225 3 4 (i_aload 0 (i_aload 0 (i_getf 6 14 (i_iload 3 (i_iald 0 (i_aload 0 (i_getf 6 12 (i_iload 3 (i_iald 0 (i_call k d 191 1 1 (i_recv 6 2 (i_call k d 225 3 4 (i_aload 0 (i_iload 4 (i_recv 6 1 (i_call k d 232 2 2 (i_iinc 3 1 (k d 231)))))))))))))))))))))))))))))))))))))))))))))))))))))))))))))))))))))))
/-- SlabImageModel.pad from 0 -/
def b_232 : am_B := fun k d => (i_aload 0 (i_getf 6 21 (i_iload 1 (i_ii (fun x y => x - y) (i_int 4 (i_idz (fun x y => x - x / y * y) (i_ifeq i_vret (i_aload 0 (i_int 0 (i_recv 6 1 (i_call k d 227 2 2 (k d 232))))))))))))
/-- SlabImageModel.writeVariable from 0 -/
def b_233 : am_B := fun k d => (i_int 5 (i_iload 1 (i_ii (fun x y => x * y) (i_iload 2 (i_ii (fun x y => x + y) (i_istore 3 (i_aload 0 (i_aload 0 (i_getf 6 6 (i_iload 3 (i_iald 0 (i_recv 6 1 (i_call k d 229 2 2 (i_aload 0 (i_aload 0 (i_getf 6 8 (i_iload 3 (i_iald 0 (i_int 4 (i_recv 6 2 (i_call k d 225 3 4 (i_int 0 (i_istore 4 (k d 234))))))))))))))))))))))))
/-- SlabImageModel.writeVariable from 30 -/
def b_234 : am_B := fun k d => (i_iload 4 (i_aload 0 (i_getf 6 8 (i_iload 3 (i_iald 0 (i_cmpge (i_aload 0 (i_iload 1 (i_iload 2 (i_int 1 (i_ii (fun x y => x + y) (i_recv 6 2 (i_call k d 230 3 5 (i_aload 0 (i_aload 0 (i_getf 6 7 (i_iload 3 (i_iald 0 (i_int 4 (i_recv 6 2 (i_call k d 225 3 4 (i_aload 0 (i_iload 1 (i_iload 2 (i_recv 6 2 (i_call k d 189 3 3 (i_istore 4 (i_aload 0 (i_iload 1 (i_iload 2 (i_recv 6 2 (i_call k d 180 3 7 (i_istore 5 (i_aload 0 (i_iload 4 (i_int 4 (i_recv 6 2 (i_call k d 225 3 4 (i_aload 0 (i_iload 5 (i_int 4 (i_recv 6 2 (i_call k d 225 3 4 i_vret))))))))))))))))))))))))))))))))))))) (i_aload 0 (i_aload 0 (i_getf 6 9 (i_int 2 (i_iload 3 (i_ii (fun x y => x * y) (i_iload 4 (i_ii (fun x y => x + y) (i_iald 0 (i_int 4 (i_recv 6 2 (i_call k d 225 3 4 (i_iinc 4 1 (k d 234))))))))))))))))))))
/-- SlabImageModel.writeCells from 0 -/
def b_235 : am_B := fun k d => (i_int 5 (i_iload 1 (i_ii (fun x y => x * y) (i_iload 2 (i_ii (fun x y => x + y) (i_istore 5 (i_aload 0 (i_iload 1 (i_iload 2 (i_recv 6 2 (i_call k d 190 3 4 (i_istore 6 (i_aload 0 (i_getf 6 21 (i_istore 7 (i_int 0 (i_istore 8 (k d 236))))))))))))))))))
/-- SlabImageModel.writeCells from 24 -/
def b_236 : am_B := fun k d => (i_iload 8 (i_iload 6 (i_cmpge (i_iload 4 (i_ifeq i_vret (i_aload 0 (i_iload 7 (i_recv 6 1 (i_call k d 232 2 2 i_vret)))))) (i_aload 0 (i_aload 0 (i_getf 6 16 (i_int 800 (i_iload 5 (i_ii (fun x y => x * y) (i_iload 3 (i_iload 6 (i_ii (fun x y => x * y) (i_ii (fun x y => x + y) (i_iload 8 (i_ii (fun x y => x + y) (i_iald 0 (i_aload 0 (i_getf 6 7 (i_iload 5 (i_iald 0 (i_call k d 191 1 1 (i_recv 6 2 (i_call k d 225 3 4 (i_iinc 8 1 (k d 236)))))))))))))))))))))))))
/-- SlabImageModel.add from 0 -/
def b_237 : am_B := fun k d => (i_iload 3 (i_int 1 (i_cmplt (i_int 0 i_zret) (i_iload 3 (i_int 8 (i_cmpgt (i_int 0 i_zret) (i_aload 0 (i_getf 6 23 (i_iload 3 (i_ii (fun x y => x + y) (i_int 800 (i_cmple (i_int 0 (i_istore 4 (k d 238))) (i_int 0 i_zret)))))))))))))
/-- SlabImageModel.add from 28 -/
def b_238 : am_B := fun k d => (i_iload 4 (i_iload 3 (i_cmpge (i_int 1 i_zret) (i_aload 0 (i_getf 6 22 (i_aload 0 (i_getf 6 23 (i_lload 1 (i_int 56 (i_int 8 (i_iload 4 (i_ii (fun x y => x * y) (i_ii (fun x y => x - y) (i_lsh (fun x y => x >>> (y.toInt64 &&& 63)) (i_long 255 (i_ll (fun x y => x &&& y) (i_l2i (i_iast 0 (fun x => x) (i_aload 0 (i_dup (i_getf 6 23 (i_int 1 (i_ii (fun x y => x + y) (i_putI 6 23 (i_iinc 4 1 (k d 238))))))))))))))))))))))))))
/-- SlabImageModel.erase from 0 -/
def b_239 : am_B := fun k d => (i_aload 0 (i_int 0 (i_putI 6 23 i_vret)))
/-- SlabImageModel.open from 0 -/
def b_240 : am_B := fun k d => (i_int 1 (i_aload 0 (i_getf 6 0 (i_ii (fun x y => x - y) (i_istore 1 (i_aload 0 (i_iload 1 (i_recv 6 1 (i_call k d 242 2 4 (i_ifeq (i_int (-9) i_iret) (i_aload 0 (i_iload 1 (i_aload 0 (i_getf 6 15 (i_iload 1 (i_iald 0 (i_i2l (i_recv 6 2 (i_call k d 179 3 4 (i_aload 0 (i_getf 6 23 (i_i2l (i_lcmp (i_ifeq (i_aload 0 (i_iload 1 (i_recv 6 1 (i_call k d 256 2 5 (i_aload 0 (i_iload 1 (i_recv 6 1 (i_call k d 219 2 5 (i_int 0 (i_istore 2 (k d 241))))))))))) (i_int (-9) i_iret)))))))))))))))))))))))))
/-- SlabImageModel.open from 51 -/
def b_241 : am_B := fun k d => (i_iload 2 (i_aload 0 (i_getf 6 23 (i_cmpge (i_aload 0 (i_iload 1 (i_putI 6 0 (i_aload 0 (i_int 1 (i_putZ 6 1 (i_aload 0 (i_getf 6 23 i_iret)))))))) (i_aload 0 (i_getf 6 20 (i_iload 2 (i_iald 0 (i_aload 0 (i_getf 6 22 (i_iload 2 (i_iald 0 (i_cmpeq (i_iinc 2 1 (k d 241)) (i_int (-9) i_iret))))))))))))))
/-- SlabImageModel.readHeader from 0 -/
def b_242 : am_B := fun k d => (i_aload 0 (i_int 4 (i_putI 6 24 (i_aload 0 (i_int 0 (i_putZ 6 25 (i_aload 0 (i_getf 6 15 (i_iload 1 (i_aload 0 (i_int 4 (i_recv 6 1 (i_call k d 244 2 4 (i_iast 0 (fun x => x) (i_aload 0 (i_getf 6 5 (i_iload 1 (i_int 0 (i_iast 0 (fun x => x) (i_aload 0 (i_iload 1 (i_recv 6 1 (i_call k d 246 2 6 (i_ifeq (i_int 0 i_zret) (i_aload 0 (i_iload 1 (i_int 0 (i_recv 6 2 (i_call k d 250 3 7 (i_ifne (i_aload 0 (i_int 5 (i_recv 6 1 (i_call k d 248 2 3 (i_istore 2 (i_int 0 (i_istore 3 (k d 243)))))))) (i_int 0 i_zret)))))))))))))))))))))))))))))))
/-- SlabImageModel.readHeader from 55 -/
def b_243 : am_B := fun k d => (i_iload 3 (i_iload 2 (i_cmpge (i_iload 2 (i_iflt (i_int 0 i_zret) (i_aload 0 (i_getf 6 25 (i_ifne (i_int 0 i_zret) (i_aload 0 (i_getf 6 15 (i_iload 1 (i_iald 0 (i_iflt (i_int 0 i_zret) (i_aload 0 (i_getf 6 15 (i_iload 1 (i_iald 0 (i_ifeq (i_int 1 i_zret) (i_aload 0 (i_iload 1 (i_recv 6 1 (i_call k d 195 2 4 (i_ifle (i_int 0 i_zret) (i_int 1 i_zret))))))))))))))))))))) (i_aload 0 (i_iload 1 (i_iload 3 (i_recv 6 2 (i_call k d 254 3 6 (i_ifne (i_aload 0 (i_getf 6 5 (i_iload 1 (i_iload 3 (i_int 1 (i_ii (fun x y => x + y) (i_iast 0 (fun x => x) (i_iinc 3 1 (k d 243))))))))) (i_int 0 i_zret))))))))))
/-- SlabImageModel.read from 0 -/
def b_244 : am_B := fun k d => (i_int 0 (i_istore 2 (i_aload 0 (i_aload 0 (i_getf 6 25 (i_ifne (i_int 1 (i_putZ 6 25 (i_int 0 (i_istore 3 (k d 245))))) (i_aload 0 (i_getf 6 24 (i_iload 1 (i_ii (fun x y => x + y) (i_aload 0 (i_getf 6 23 (i_cmple (i_int 0 (i_putZ 6 25 (i_int 0 (i_istore 3 (k d 245))))) (i_int 1 (i_putZ 6 25 (i_int 0 (i_istore 3 (k d 245))))))))))))))))))
/-- SlabImageModel.read from 33 -/
def b_245 : am_B := fun k d => (i_iload 3 (i_iload 1 (i_cmpge (i_aload 0 (i_aload 0 (i_getf 6 24 (i_iload 1 (i_ii (fun x y => x + y) (i_putI 6 24 (i_iload 2 i_iret))))))) (i_iload 2 (i_int 8 (i_ii (fun x y => x <<< (y &&& 31)) (i_aload 0 (i_getf 6 25 (i_ifeq (i_aload 0 (i_getf 6 22 (i_aload 0 (i_getf 6 24 (i_iload 3 (i_ii (fun x y => x + y) (i_iald 0 (i_ii (fun x y => x ||| y) (i_istore 2 (i_iinc 3 1 (k d 245))))))))))) (i_int 0 (i_ii (fun x y => x ||| y) (i_istore 2 (i_iinc 3 1 (k d 245))))))))))))))
/-- SlabImageModel.readDimensions from 0 -/
def b_246 : am_B := fun k d => (i_aload 0 (i_int 4 (i_recv 6 1 (i_call k d 248 2 3 (i_istore 2 (i_aload 0 (i_getf 6 2 (i_iload 1 (i_int 0 (i_iast 0 (fun x => x) (i_int 0 (i_istore 3 (k d 247)))))))))))))
/-- SlabImageModel.readDimensions from 15 -/
def b_247 : am_B := fun k d => (i_iload 3 (i_iload 2 (i_cmpge (i_iload 2 (i_iflt (i_int 0 i_zret) (i_aload 0 (i_iload 1 (i_recv 6 1 (i_call k d 151 2 4 (i_int 1 (i_cmpgt (i_int 0 i_zret) (i_int 1 i_zret))))))))) (i_aload 0 (i_recv 6 0 (i_call k d 249 1 1 (i_istore 4 (i_aload 0 (i_int 4 (i_recv 6 1 (i_call k d 244 2 4 (i_istore 5 (i_iload 4 (i_call k d 148 1 1 (i_ifeq (i_int 0 i_zret) (i_iload 5 (i_iflt (i_int 0 i_zret) (i_iload 5 (i_int 8 (i_cmpgt (i_int 0 i_zret) (i_aload 0 (i_iload 1 (i_iload 4 (i_int (-1) (i_recv 6 3 (i_call k d 149 4 6 (i_ifeq (i_aload 0 (i_getf 6 3 (i_int 4 (i_iload 1 (i_ii (fun x y => x * y) (i_iload 3 (i_ii (fun x y => x + y) (i_iload 4 (i_iast 0 (fun x => x) (i_aload 0 (i_getf 6 4 (i_int 4 (i_iload 1 (i_ii (fun x y => x * y) (i_iload 3 (i_ii (fun x y => x + y) (i_iload 5 (i_iast 0 (fun x => x) (i_aload 0 (i_getf 6 2 (i_iload 1 (i_iload 3 (i_int 1 (i_ii (fun x y => x + y) (i_iast 0 (fun x => x) (i_iinc 3 1 (k d 247))))))))))))))))))))))))))) (i_int 0 i_zret))))))))))))))))))))))))))))
/-- SlabImageModel.readCount from 0 -/
def b_248 : am_B := fun k d => (i_aload 0 (i_int 4 (i_recv 6 1 (i_call k d 244 2 4 (i_pop (i_aload 0 (i_int 4 (i_recv 6 1 (i_call k d 244 2 4 (i_istore 2 (i_aload 0 (i_getf 6 25 (i_ifne (i_int (-1) i_iret) (i_iload 2 (i_iflt (i_int (-1) i_iret) (i_iload 2 (i_iload 1 (i_cmple (i_iload 2 i_iret) (i_int (-1) i_iret)))))))))))))))))))
/-- SlabImageModel.readName from 0 -/
def b_249 : am_B := fun k d => (i_aload 0 (i_int 4 (i_recv 6 1 (i_call k d 244 2 4 (i_pop (i_aload 0 (i_int 4 (i_recv 6 1 (i_call k d 244 2 4 (i_int 24 (i_ii (fun x y => x >>> (y &&& 31)) (i_int 255 (i_ii (fun x y => x &&& y) i_iret)))))))))))))
/-- SlabImageModel.readList from 0 -/
def b_250 : am_B := fun k d => (i_aload 0 (i_int 3 (i_recv 6 1 (i_call k d 248 2 3 (i_istore 3 (i_aload 0 (i_getf 6 10 (i_int 6 (i_iload 1 (i_ii (fun x y => x * y) (i_iload 2 (i_ii (fun x y => x + y) (i_iload 3 (i_ifge (i_iload 3 (i_iast 0 (fun x => x) (i_int 0 (i_istore 4 (k d 251))))) (i_int 0 (i_iast 0 (fun x => x) (i_int 0 (i_istore 4 (k d 251)))))))))))))))))))
/-- SlabImageModel.readList from 29 -/
def b_251 : am_B := fun k d => (i_iload 4 (i_iload 3 (i_cmpge (i_iload 3 (i_iflt (i_int 0 i_zret) (i_int 1 i_zret))) (i_int 18 (i_iload 1 (i_ii (fun x y => x * y) (i_int 3 (i_iload 2 (i_ii (fun x y => x * y) (i_ii (fun x y => x + y) (i_iload 4 (i_ii (fun x y => x + y) (i_istore 5 (i_aload 0 (i_getf 6 11 (i_iload 5 (i_aload 0 (i_recv 6 0 (i_call k d 249 1 1 (i_iast 0 (fun x => x) (i_aload 0 (i_getf 6 12 (i_iload 5 (i_aload 0 (i_int 4 (i_recv 6 1 (i_call k d 244 2 4 (i_iast 0 (fun x => x) (i_aload 0 (i_int 4 (i_recv 6 1 (i_call k d 244 2 4 (i_pop (i_aload 0 (i_getf 6 11 (i_iload 5 (i_iald 0 (i_call k d 148 1 1 (i_ifeq (i_int 0 i_zret) (i_aload 0 (i_getf 6 12 (i_iload 5 (i_iald 0 (i_int 1 (i_cmplt (i_int 0 i_zret) (i_aload 0 (i_getf 6 12 (i_iload 5 (i_iald 0 (i_int 4 (i_cmple (i_int 0 (i_istore 6 (k d 252))) (i_int 0 i_zret))))))))))))))))))))))))))))))))))))))))))))))))))))
/-- SlabImageModel.readList from 117 -/
def b_252 : am_B := fun k d => (i_iload 6 (i_iload 4 (i_cmpge (i_aload 0 (i_getf 6 13 (i_iload 5 (i_aload 0 (i_aload 0 (i_getf 6 12 (i_iload 5 (i_iald 0 (i_recv 6 1 (i_call k d 253 2 3 (i_iast 0 (fun x => x) (i_aload 0 (i_getf 6 14 (i_iload 5 (i_aload 0 (i_aload 0 (i_getf 6 12 (i_iload 5 (i_iald 0 (i_recv 6 1 (i_call k d 253 2 3 (i_iast 0 (fun x => x) (i_aload 0 (i_aload 0 (i_getf 6 24 (i_int 3 (i_ii (fun x y => x + y) (i_int 4 (i_idz (fun x y => x / y) (i_int 4 (i_ii (fun x y => x * y) (i_putI 6 24 (i_iinc 4 1 (k d 251)))))))))))))))))))))))))))))))))) (i_aload 0 (i_getf 6 11 (i_iload 5 (i_int 1 (i_ii (fun x y => x - y) (i_iload 6 (i_ii (fun x y => x - y) (i_iald 0 (i_aload 0 (i_getf 6 11 (i_iload 5 (i_iald 0 (i_cmpne (i_iinc 6 1 (k d 252)) (i_int 0 i_zret)))))))))))))))))
/-- SlabImageModel.readOf from 0 -/
def b_253 : am_B := fun k d => (i_aload 0 (i_iload 1 (i_call k d 191 1 1 (i_recv 6 1 (i_call k d 244 2 4 (i_istore 2 (i_iload 1 (i_int 1 (i_cmpne (i_iload 1 (i_int 3 (i_cmpne (i_iload 2 i_iret) (i_iload 2 (i_i (fun x => x.toInt16.toInt32) i_iret))))) (i_iload 2 (i_i (fun x => x.toInt8.toInt32) i_iret)))))))))))
/-- SlabImageModel.readVariable from 0 -/
def b_254 : am_B := fun k d => (i_int 5 (i_iload 1 (i_ii (fun x y => x * y) (i_iload 2 (i_ii (fun x y => x + y) (i_istore 3 (i_aload 0 (i_getf 6 6 (i_iload 3 (i_aload 0 (i_recv 6 0 (i_call k d 249 1 1 (i_iast 0 (fun x => x) (i_aload 0 (i_getf 6 8 (i_iload 3 (i_aload 0 (i_int 4 (i_recv 6 1 (i_call k d 244 2 4 (i_iast 0 (fun x => x) (i_aload 0 (i_getf 6 6 (i_iload 3 (i_iald 0 (i_call k d 148 1 1 (i_ifeq (i_int 0 i_zret) (i_aload 0 (i_iload 1 (i_aload 0 (i_getf 6 6 (i_iload 3 (i_iald 0 (i_int (-1) (i_recv 6 3 (i_call k d 159 4 6 (i_ifne (i_int 0 i_zret) (i_aload 0 (i_getf 6 8 (i_iload 3 (i_iald 0 (i_iflt (i_int 0 i_zret) (i_aload 0 (i_getf 6 8 (i_iload 3 (i_iald 0 (i_int 2 (i_cmple (i_int 0 (i_istore 4 (k d 255))) (i_int 0 i_zret)))))))))))))))))))))))))))))))))))))))))))))))))
/-- SlabImageModel.readVariable from 78 -/
def b_255 : am_B := fun k d => (i_iload 4 (i_aload 0 (i_getf 6 8 (i_iload 3 (i_iald 0 (i_cmpge (i_aload 0 (i_iload 1 (i_iload 2 (i_int 1 (i_ii (fun x y => x + y) (i_recv 6 2 (i_call k d 250 3 7 (i_ifne (i_aload 0 (i_getf 6 7 (i_iload 3 (i_aload 0 (i_int 4 (i_recv 6 1 (i_call k d 244 2 4 (i_iast 0 (fun x => x) (i_aload 0 (i_int 4 (i_recv 6 1 (i_call k d 244 2 4 (i_pop (i_aload 0 (i_int 4 (i_recv 6 1 (i_call k d 244 2 4 (i_pop (i_aload 0 (i_getf 6 7 (i_iload 3 (i_iald 0 (i_int 1 (i_cmplt (i_int 0 i_zret) (i_aload 0 (i_getf 6 7 (i_iload 3 (i_iald 0 (i_int 4 (i_cmpgt (i_int 0 i_zret) (i_int 1 i_zret))))))))))))))))))))))))))))))) (i_int 0 i_zret))))))))) (i_aload 0 (i_int 4 (i_recv 6 1 (i_call k d 244 2 4 (i_istore 5 (i_iload 5 (i_iflt (i_int 0 i_zret) (i_iload 5 (i_aload 0 (i_getf 6 2 (i_iload 1 (i_iald 0 (i_cmpge (i_int 0 i_zret) (i_iload 4 (i_int 1 (i_cmpne (i_aload 0 (i_getf 6 9 (i_int 2 (i_iload 3 (i_ii (fun x y => x * y) (i_iload 4 (i_ii (fun x y => x + y) (i_iload 5 (i_iast 0 (fun x => x) (i_iinc 4 1 (k d 255))))))))))) (i_aload 0 (i_getf 6 4 (i_int 4 (i_iload 1 (i_ii (fun x y => x * y) (i_iload 5 (i_ii (fun x y => x + y) (i_iald 0 (i_ifne (i_aload 0 (i_getf 6 9 (i_int 2 (i_iload 3 (i_ii (fun x y => x * y) (i_iload 4 (i_ii (fun x y => x + y) (i_iload 5 (i_iast 0 (fun x => x) (i_iinc 4 1 (k d 255))))))))))) (i_int 0 i_zret))))))))))))))))))))))))))))))))
/-- SlabImageModel.readAllCells from 0 -/
def b_256 : am_B := fun k d => (i_int 0 (i_istore 2 (k d 257)))
/-- SlabImageModel.readAllCells from 2 -/
def b_257 : am_B := fun k d => (i_iload 2 (i_aload 0 (i_getf 6 5 (i_iload 1 (i_iald 0 (i_cmpge (i_aload 0 (i_iload 1 (i_recv 6 1 (i_call k d 195 2 4 (i_int 1 (i_cmple (i_int 0 (i_istore 2 (i_int 0 (i_istore 3 (k d 258))))) (i_int 1 (i_istore 2 (i_int 0 (i_istore 3 (k d 258))))))))))) (i_aload 0 (i_iload 1 (i_iload 2 (i_recv 6 2 (i_call k d 161 3 4 (i_aload 0 (i_iload 1 (i_iload 2 (i_recv 6 2 (i_call k d 183 3 3 (i_ifne (i_iinc 2 1 (k d 257)) (i_aload 0 (i_iload 1 (i_iload 2 (i_int 0 (i_int 1 (i_recv 6 4 (i_call k d 260 5 8 (i_iinc 2 1 (k d 257))))))))))))))))))))))))))
/-- SlabImageModel.readAllCells from 58 -/
def b_258 : am_B := fun k d => (i_iload 3 (i_aload 0 (i_getf 6 15 (i_iload 1 (i_iald 0 (i_cmpge i_vret (i_int 0 (i_istore 4 (k d 259)))))))))
/-- SlabImageModel.readAllCells from 71 -/
def b_259 : am_B := fun k d => (i_iload 4 (i_aload 0 (i_getf 6 5 (i_iload 1 (i_iald 0 (i_cmpge (i_iinc 3 1 (k d 258)) (i_aload 0 (i_iload 1 (i_iload 4 (i_recv 6 2 (i_call k d 183 3 3 (i_ifeq (i_iinc 4 1 (k d 259)) (i_aload 0 (i_iload 1 (i_iload 4 (i_iload 3 (i_iload 2 (i_recv 6 4 (i_call k d 260 5 8 (i_iinc 4 1 (k d 259)))))))))))))))))))))
/-- SlabImageModel.readCells from 0 -/
def b_260 : am_B := fun k d => (i_int 5 (i_iload 1 (i_ii (fun x y => x * y) (i_iload 2 (i_ii (fun x y => x + y) (i_istore 5 (i_aload 0 (i_iload 1 (i_iload 2 (i_recv 6 2 (i_call k d 190 3 4 (i_istore 6 (i_int 0 (i_istore 7 (k d 261)))))))))))))))
/-- SlabImageModel.readCells from 18 -/
def b_261 : am_B := fun k d => (i_iload 7 (i_iload 6 (i_cmpge (i_aload 0 (i_iload 4 (i_ifeq (i_aload 0 (i_getf 6 24 (i_putI 6 24 i_vret))) (i_aload 0 (i_getf 6 24 (i_int 3 (i_ii (fun x y => x + y) (i_int 4 (i_idz (fun x y => x / y) (i_int 4 (i_ii (fun x y => x * y) (i_putI 6 24 i_vret)))))))))))) (i_aload 0 (i_getf 6 16 (i_int 800 (i_iload 5 (i_ii (fun x y => x * y) (i_iload 3 (i_iload 6 (i_ii (fun x y => x * y) (i_ii (fun x y => x + y) (i_iload 7 (i_ii (fun x y => x + y) (i_aload 0 (i_aload 0 (i_getf 6 7 (i_iload 5 (i_iald 0 (i_recv 6 1 (i_call k d 253 2 3 (i_iast 0 (fun x => x) (i_iinc 7 1 (k d 261))))))))))))))))))))))))
/-- SlabImageLaw.law from 0 -/
def b_262 : am_B := fun k d => (i_new 5 dvX5 (i_dup (i_recv 5 0 (i_call k d 0 1 1 (i_astore 1 (i_new 6 dvX6 (i_dup (i_recv 6 0 (i_call k d 145 1 1 (i_astore 2 (i_int 0 (i_istore 3 (k d 263)))))))))))))
/-- SlabImageLaw.law from 18 -/
def b_263 : am_B := fun k d => (i_iload 3 (i_aload 0 (i_alen (i_int 6 (i_ii (fun x y => x - y) (i_cmpgt (i_int 1 i_zret) (i_aload 0 (i_iload 3 (i_iald 0 (i_int 31 (i_ii (fun x y => x &&& y) (i_switch [(i_aload 1 (i_aload 0 (i_iload 3 (i_int 1 (i_ii (fun x y => x + y) (i_iald 0 (i_aload 0 (i_iload 3 (i_int 2 (i_ii (fun x y => x + y) (i_iald 0 (i_recv 5 2 (i_call k d 7 3 3 (i_aload 2 (i_aload 0 (i_iload 3 (i_int 1 (i_ii (fun x y => x + y) (i_iald 0 (i_aload 0 (i_iload 3 (i_int 2 (i_ii (fun x y => x + y) (i_iald 0 (i_recv 6 2 (i_call k d 146 3 4 (i_cmpeq (i_iinc 3 6 (k d 263)) (i_int 0 i_zret)))))))))))))))))))))))))))), (i_aload 1 (i_aload 0 (i_iload 3 (i_int 1 (i_ii (fun x y => x + y) (i_iald 0 (i_aload 0 (i_iload 3 (i_int 2 (i_ii (fun x y => x + y) (i_iald 0 (i_aload 0 (i_iload 3 (i_int 3 (i_ii (fun x y => x + y) (i_iald 0 (i_aload 0 (i_iload 3 (i_int 4 (i_ii (fun x y => x + y) (i_iald 0 (i_recv 5 4 (i_call k d 15 5 5 (i_aload 2 (i_aload 0 (i_iload 3 (i_int 1 (i_ii (fun x y => x + y) (i_iald 0 (i_aload 0 (i_iload 3 (i_int 2 (i_ii (fun x y => x + y) (i_iald 0 (i_aload 0 (i_iload 3 (i_int 3 (i_ii (fun x y => x + y) (i_iald 0 (i_aload 0 (i_iload 3 (i_int 4 (i_ii (fun x y => x + y) (i_iald 0 (i_recv 6 4 (i_call k d 153 5 7 (i_cmpeq (i_iinc 3 6 (k d 263)) (i_int 0 i_zret)))))))))))))))))))))))))))))))))))))))))))))))), (i_aload 1 (i_aload 0 (i_iload 3 (i_int 1 (i_ii (fun x y => x + y) (i_iald 0 (i_aload 0 (i_iload 3 (i_int 2 (i_ii (fun x y => x + y) (i_iald 0 (i_aload 0 (i_iload 3 (i_int 3 (i_ii (fun x y => x + y) (i_iald 0 (i_aload 0 (i_iload 3 (i_int 4 (i_ii (fun x y => x + y) (i_iald 0 (i_aload 0 (i_iload 3 (i_int 5 (i_ii (fun x y => x + y) (i_iald 0 (i_recv 5 5 (i_call k d 26 6 7 (i_aload 2 (i_aload 0 (i_iload 3 (i_int 1 (i_ii (fun x y => x + y) (i_iald 0 (i_aload 0 (i_iload 3 (i_int 2 (i_ii (fun x y => x + y) (i_iald 0 (i_aload 0 (i_iload 3 (i_int 3 (i_ii (fun x y => x + y) (i_iald 0 (i_aload 0 (i_iload 3 (i_int 4 (i_ii (fun x y => x + y) (i_iald 0 (i_aload 0 (i_iload 3 (i_int 5 (i_ii (fun x y => x + y) (i_iald 0 (i_recv 6 5 (i_call k d 164 6 8 (i_cmpeq (i_iinc 3 6 (k d 263)) (i_int 0 i_zret)))))))))))))))))))))))))))))))))))))))))))))))))))))))))), (i_aload 1 (i_aload 0 (i_iload 3 (i_int 1 (i_ii (fun x y => x + y) (i_iald 0 (i_aload 0 (i_iload 3 (i_int 2 (i_ii (fun x y => x + y) (i_iald 0 (i_recv 5 2 (i_call k d 32 3 4 (i_aload 2 (i_aload 0 (i_iload 3 (i_int 1 (i_ii (fun x y => x + y) (i_iald 0 (i_aload 0 (i_iload 3 (i_int 2 (i_ii (fun x y => x + y) (i_iald 0 (i_recv 6 2 (i_call k d 172 3 7 (i_cmpeq (i_iinc 3 6 (k d 263)) (i_int 0 i_zret)))))))))))))))))))))))))))), (i_aload 1 (i_aload 0 (i_iload 3 (i_int 1 (i_ii (fun x y => x + y) (i_iald 0 (i_ifeq (i_int 0 (k d 264)) (i_int 1 (k d 264))))))))), (i_aload 1 (i_recv 5 0 (i_call k d 39 1 3 (i_aload 2 (i_recv 6 0 (i_call k d 178 1 3 (i_cmpeq (i_iinc 3 6 (k d 263)) (i_int 0 i_zret)))))))), (i_aload 1 (i_recv 5 0 (i_call k d 56 1 1 (i_aload 2 (i_recv 6 0 (i_call k d 197 1 1 (i_cmpeq (i_iinc 3 6 (k d 263)) (i_int 0 i_zret)))))))), (i_aload 1 (i_aload 0 (i_iload 3 (i_int 1 (i_ii (fun x y => x + y) (i_iald 0 (i_aload 0 (i_iload 3 (i_int 2 (i_ii (fun x y => x + y) (i_iald 0 (i_aload 0 (i_iload 3 (i_int 3 (i_ii (fun x y => x + y) (i_iald 0 (i_aload 0 (i_iload 3 (i_int 4 (i_ii (fun x y => x + y) (i_iald 0 (i_recv 5 4 (i_call k d 57 5 6 (i_aload 2 (i_aload 0 (i_iload 3 (i_int 1 (i_ii (fun x y => x + y) (i_iald 0 (i_aload 0 (i_iload 3 (i_int 2 (i_ii (fun x y => x + y) (i_iald 0 (i_aload 0 (i_iload 3 (i_int 3 (i_ii (fun x y => x + y) (i_iald 0 (i_aload 0 (i_iload 3 (i_int 4 (i_ii (fun x y => x + y) (i_iald 0 (i_recv 6 4 (i_call k d 198 5 5 (i_cmpeq (i_iinc 3 6 (k d 263)) (i_int 0 i_zret)))))))))))))))))))))))))))))))))))))))))))))))), (i_aload 1 (i_aload 0 (i_iload 3 (i_int 1 (i_ii (fun x y => x + y) (i_iald 0 (i_aload 0 (i_iload 3 (i_int 2 (i_ii (fun x y => x + y) (i_iald 0 (i_aload 0 (i_iload 3 (i_int 3 (i_ii (fun x y => x + y) (i_iald 0 (i_recv 5 3 (i_call k d 62 4 5 (i_aload 2 (i_aload 0 (i_iload 3 (i_int 1 (i_ii (fun x y => x + y) (i_iald 0 (i_aload 0 (i_iload 3 (i_int 2 (i_ii (fun x y => x + y) (i_iald 0 (i_aload 0 (i_iload 3 (i_int 3 (i_ii (fun x y => x + y) (i_iald 0 (i_recv 6 3 (i_call k d 202 4 4 (i_lcmp (i_ifeq (i_iinc 3 6 (k d 263)) (i_int 0 i_zret))))))))))))))))))))))))))))))))))))))), (i_aload 1 (i_aload 0 (i_iload 3 (i_int 1 (i_ii (fun x y => x + y) (i_iald 0 (i_aload 0 (i_iload 3 (i_int 2 (i_ii (fun x y => x + y) (i_iald 0 (i_aload 0 (i_iload 3 (i_int 3 (i_ii (fun x y => x + y) (i_iald 0 (i_aload 0 (i_iload 3 (i_int 4 (i_ii (fun x y => x + y) (i_iald 0 (i_recv 5 4 (i_call k d 65 5 6 (i_aload 2 (i_aload 0 (i_iload 3 (i_int 1 (i_ii (fun x y => x + y) (i_iald 0 (i_aload 0 (i_iload 3 (i_int 2 (i_ii (fun x y => x + y) (i_iald 0 (i_aload 0 (i_iload 3 (i_int 3 (i_ii (fun x y => x + y) (i_iald 0 (i_aload 0 (i_iload 3 (i_int 4 (i_ii (fun x y => x + y) (i_iald 0 (i_recv 6 4 (i_call k d 203 5 5 (i_cmpeq (i_iinc 3 6 (k d 263)) (i_int 0 i_zret)))))))))))))))))))))))))))))))))))))))))))))))), (i_aload 1 (i_aload 0 (i_iload 3 (i_int 1 (i_ii (fun x y => x + y) (i_iald 0 (i_aload 0 (i_iload 3 (i_int 2 (i_ii (fun x y => x + y) (i_iald 0 (i_aload 0 (i_iload 3 (i_int 3 (i_ii (fun x y => x + y) (i_iald 0 (i_recv 5 3 (i_call k d 68 4 8 (i_aload 2 (i_aload 0 (i_iload 3 (i_int 1 (i_ii (fun x y => x + y) (i_iald 0 (i_aload 0 (i_iload 3 (i_int 2 (i_ii (fun x y => x + y) (i_iald 0 (i_aload 0 (i_iload 3 (i_int 3 (i_ii (fun x y => x + y) (i_iald 0 (i_recv 6 3 (i_call k d 205 4 6 (i_cmpeq (i_iinc 3 6 (k d 263)) (i_int 0 i_zret)))))))))))))))))))))))))))))))))))))), (i_aload 1 (i_aload 0 (i_iload 3 (i_int 1 (i_ii (fun x y => x + y) (i_iald 0 (i_aload 0 (i_iload 3 (i_int 2 (i_ii (fun x y => x + y) (i_iald 0 (i_recv 5 2 (i_call k d 78 3 6 (i_aload 2 (i_aload 0 (i_iload 3 (i_int 1 (i_ii (fun x y => x + y) (i_iald 0 (i_aload 0 (i_iload 3 (i_int 2 (i_ii (fun x y => x + y) (i_iald 0 (i_recv 6 2 (i_call k d 213 3 3 (i_lcmp (i_ifeq (i_iinc 3 6 (k d 263)) (i_int 0 i_zret))))))))))))))))))))))))))))), (i_aload 1 (i_recv 5 0 (i_call k d 79 1 1 (i_aload 2 (i_recv 6 0 (i_call k d 214 1 1 (i_cmpeq (i_iinc 3 6 (k d 263)) (i_int 0 i_zret)))))))), (i_aload 1 (i_recv 5 0 (i_call k d 80 1 1 (i_aload 2 (i_recv 6 0 (i_call k d 215 1 1 (i_cmpeq (i_iinc 3 6 (k d 263)) (i_int 0 i_zret)))))))), (i_aload 1 (i_aload 0 (i_iload 3 (i_int 1 (i_ii (fun x y => x + y) (i_iald 0 (i_recv 5 1 (i_call k d 81 2 2 (i_aload 2 (i_aload 0 (i_iload 3 (i_int 1 (i_ii (fun x y => x + y) (i_iald 0 (i_recv 6 1 (i_call k d 216 2 2 (i_cmpeq (i_iinc 3 6 (k d 263)) (i_int 0 i_zret)))))))))))))))))), (i_aload 1 (i_aload 0 (i_iload 3 (i_int 1 (i_ii (fun x y => x + y) (i_iald 0 (i_recv 5 1 (i_call k d 83 2 5 (i_aload 2 (i_aload 0 (i_iload 3 (i_int 1 (i_ii (fun x y => x + y) (i_iald 0 (i_recv 6 1 (i_call k d 217 2 7 (i_lcmp (i_ifeq (i_iinc 3 6 (k d 263)) (i_int 0 i_zret))))))))))))))))))), (i_aload 1 (i_aload 0 (i_iload 3 (i_int 1 (i_ii (fun x y => x + y) (i_iald 0 (i_i2l (i_int 32 (i_lsh (fun x y => x <<< (y.toInt64 &&& 63)) (i_aload 0 (i_iload 3 (i_int 2 (i_ii (fun x y => x + y) (i_iald 0 (i_i2l (i_long 4294967295 (i_ll (fun x y => x &&& y) (i_ll (fun x y => x ||| y) (i_aload 0 (i_iload 3 (i_int 3 (i_ii (fun x y => x + y) (i_iald 0 (i_recv 5 2 (i_call k d 110 3 5 (i_aload 2 (i_aload 0 (i_iload 3 (i_int 1 (i_ii (fun x y => x + y) (i_iald 0 (i_i2l (i_int 32 (i_lsh (fun x y => x <<< (y.toInt64 &&& 63)) (i_aload 0 (i_iload 3 (i_int 2 (i_ii (fun x y => x + y) (i_iald 0 (i_i2l (i_long 4294967295 (i_ll (fun x y => x &&& y) (i_ll (fun x y => x ||| y) (i_aload 0 (i_iload 3 (i_int 3 (i_ii (fun x y => x + y) (i_iald 0 (i_recv 6 2 (i_call k d 237 3 5 (i_cmpeq (i_iinc 3 6 (k d 263)) (i_int 0 i_zret)))))))))))))))))))))))))))))))))))))))))))))))))))), (i_aload 1 (i_recv 5 0 (i_call k d 112 1 1 (i_aload 2 (i_recv 6 0 (i_call k d 239 1 1 (i_iinc 3 6 (k d 263)))))))), (i_aload 1 (i_recv 5 0 (i_call k d 113 1 2 (i_aload 2 (i_recv 6 0 (i_call k d 240 1 3 (i_cmpeq (i_iinc 3 6 (k d 263)) (i_int 0 i_zret))))))))] (i_iinc 3 6 (k d 263))))))))))))))
/-- SlabImageLaw.law from 320 -/
def b_264 : am_B := fun k d => (i_aload 0 (i_iload 3 (i_int 2 (i_ii (fun x y => x + y) (i_iald 0 (i_aload 0 (i_iload 3 (i_int 3 (i_ii (fun x y => x + y) (i_iald 0 (i_recv 5 3 (i_call k d 35 4 4 (i_aload 2 (i_aload 0 (i_iload 3 (i_int 1 (i_ii (fun x y => x + y) (i_iald 0 (i_ifeq (i_int 0 (k d 265)) (i_int 1 (k d 265)))))))))))))))))))))
/-- SlabImageLaw.law from 347 -/
def b_265 : am_B := fun k d => (i_aload 0 (i_iload 3 (i_int 2 (i_ii (fun x y => x + y) (i_iald 0 (i_aload 0 (i_iload 3 (i_int 3 (i_ii (fun x y => x + y) (i_iald 0 (i_recv 6 3 (i_call k d 175 4 4 (i_cmpeq (i_iinc 3 6 (k d 263)) (i_int 0 i_zret))))))))))))))
def am_t0 : List ((am_I × Nat) × am_B) := [((I_0, 0), b_0), ((I_1, 0), b_1), ((I_1, 50), b_2), ((I_2, 0), b_3), ((I_3, 0), b_4), ((I_4, 0), b_5), ((I_5, 0), b_6), ((I_6, 0), b_7), ((I_7, 0), b_8), ((I_7, 60), b_9), ((I_8, 0), b_10), ((I_9, 0), b_11), ((I_9, 2), b_12), ((I_10, 0), b_13), ((I_10, 2), b_14), ((I_11, 0), b_15), ((I_12, 0), b_16), ((I_12, 48), b_17), ((I_13, 0), b_18), ((I_14, 0), b_19), ((I_15, 0), b_20), ((I_16, 0), b_21), ((I_17, 0), b_22), ((I_18, 0), b_23), ((I_19, 0), b_24), ((I_19, 5), b_25), ((I_20, 0), b_26), ((I_21, 0), b_27), ((I_22, 0), b_28), ((I_23, 0), b_29), ((I_23, 83), b_30), ((I_24, 0), b_31), ((I_25, 0), b_32), ((I_26, 0), b_33), ((I_26, 24), b_34), ((I_27, 0), b_35), ((I_28, 0), b_36), ((I_29, 0), b_37), ((I_30, 0), b_38), ((I_31, 0), b_39), ((I_32, 0), b_40), ((I_33, 0), b_41), ((I_33, 23), b_42), ((I_34, 0), b_43), ((I_34, 5), b_44), ((I_35, 0), b_45), ((I_36, 0), b_46), ((I_37, 0), b_47), ((I_38, 0), b_48), ((I_38, 5), b_49)]
def am_t1 : List ((am_I × Nat) × am_B) := [((I_39, 0), b_50), ((I_40, 0), b_51), ((I_41, 0), b_52), ((I_41, 22), b_53), ((I_42, 0), b_54), ((I_42, 4), b_55), ((I_43, 0), b_56), ((I_44, 0), b_57), ((I_45, 0), b_58), ((I_45, 23), b_59), ((I_46, 0), b_60), ((I_47, 0), b_61), ((I_48, 0), b_62), ((I_49, 0), b_63), ((I_50, 0), b_64), ((I_51, 0), b_65), ((I_51, 12), b_66), ((I_52, 0), b_67), ((I_53, 0), b_68), ((I_54, 0), b_69), ((I_55, 0), b_70), ((I_56, 0), b_71), ((I_57, 0), b_72), ((I_57, 3), b_73), ((I_58, 0), b_74), ((I_58, 6), b_75), ((I_58, 18), b_76), ((I_59, 0), b_77), ((I_60, 0), b_78), ((I_61, 0), b_79), ((I_62, 0), b_80), ((I_63, 0), b_81), ((I_64, 0), b_82), ((I_65, 0), b_83), ((I_65, 35), b_84), ((I_66, 0), b_85), ((I_66, 30), b_86), ((I_66, 84), b_87), ((I_67, 0), b_88), ((I_68, 0), b_89), ((I_69, 0), b_90), ((I_69, 4), b_91), ((I_70, 0), b_92), ((I_71, 0), b_93), ((I_72, 0), b_94), ((I_73, 0), b_95), ((I_73, 12), b_96), ((I_74, 0), b_97), ((I_74, 15), b_98), ((I_75, 0), b_99)]
def am_t2 : List ((am_I × Nat) × am_B) := [((I_75, 62), b_100), ((I_76, 0), b_101), ((I_76, 2), b_102), ((I_76, 24), b_103), ((I_76, 80), b_104), ((I_77, 0), b_105), ((I_77, 2), b_106), ((I_78, 0), b_107), ((I_78, 3), b_108), ((I_79, 0), b_109), ((I_80, 0), b_110), ((I_80, 31), b_111), ((I_81, 0), b_112), ((I_82, 0), b_113), ((I_83, 0), b_114), ((I_83, 24), b_115), ((I_84, 0), b_116), ((I_85, 0), b_117), ((I_85, 60), b_118), ((I_86, 0), b_119), ((I_87, 0), b_120), ((I_88, 0), b_121), ((I_88, 4), b_122), ((I_89, 0), b_123), ((I_89, 18), b_124), ((I_90, 0), b_125), ((I_91, 0), b_126), ((I_92, 0), b_127), ((I_92, 18), b_128), ((I_93, 0), b_129), ((I_94, 0), b_130), ((I_95, 0), b_131), ((I_95, 18), b_132), ((I_96, 0), b_133), ((I_96, 53), b_134), ((I_97, 0), b_135), ((I_97, 2), b_136), ((I_97, 24), b_137), ((I_97, 80), b_138), ((I_98, 0), b_139), ((I_98, 2), b_140), ((I_99, 0), b_141), ((I_99, 3), b_142), ((I_100, 0), b_143), ((I_100, 15), b_144), ((I_101, 0), b_145), ((I_102, 0), b_146), ((I_102, 76), b_147), ((I_103, 0), b_148), ((I_104, 0), b_149)]
def am_t3 : List ((am_I × Nat) × am_B) := [((I_104, 6), b_150), ((I_105, 0), b_151), ((I_105, 4), b_152), ((I_106, 0), b_153), ((I_106, 42), b_154), ((I_106, 71), b_155), ((I_106, 97), b_156), ((I_106, 193), b_157), ((I_107, 0), b_158), ((I_108, 0), b_159), ((I_108, 6), b_160), ((I_109, 0), b_161), ((I_109, 2), b_162), ((I_110, 0), b_163), ((I_111, 0), b_164), ((I_111, 25), b_165), ((I_111, 131), b_166), ((I_112, 0), b_167), ((I_113, 0), b_168), ((I_113, 40), b_169), ((I_114, 0), b_170), ((I_114, 30), b_171), ((I_115, 0), b_172), ((I_115, 25), b_173), ((I_115, 75), b_174), ((I_116, 0), b_175), ((I_116, 35), b_176), ((I_116, 81), b_177), ((I_117, 0), b_178), ((I_118, 0), b_179), ((I_119, 0), b_180), ((I_119, 35), b_181), ((I_119, 99), b_182), ((I_120, 0), b_183), ((I_121, 0), b_184), ((I_122, 0), b_185), ((I_122, 25), b_186), ((I_123, 0), b_187), ((I_123, 6), b_188), ((I_124, 0), b_189), ((I_125, 0), b_190), ((I_126, 0), b_191), ((I_127, 0), b_192), ((I_127, 20), b_193), ((I_127, 67), b_194), ((I_128, 0), b_195), ((I_128, 4), b_196), ((I_129, 0), b_197), ((I_130, 0), b_198), ((I_131, 0), b_199)]
def am_t4 : List ((am_I × Nat) × am_B) := [((I_132, 0), b_200), ((I_133, 0), b_201), ((I_134, 0), b_202), ((I_135, 0), b_203), ((I_135, 12), b_204), ((I_136, 0), b_205), ((I_136, 50), b_206), ((I_136, 119), b_207), ((I_137, 0), b_208), ((I_137, 2), b_209), ((I_137, 15), b_210), ((I_138, 0), b_211), ((I_139, 0), b_212), ((I_140, 0), b_213), ((I_141, 0), b_214), ((I_142, 0), b_215), ((I_143, 0), b_216), ((I_144, 0), b_217), ((I_144, 26), b_218), ((I_145, 0), b_219), ((I_145, 39), b_220), ((I_145, 100), b_221), ((I_145, 124), b_222), ((I_145, 174), b_223), ((I_145, 187), b_224), ((I_146, 0), b_225), ((I_146, 4), b_226), ((I_147, 0), b_227), ((I_148, 0), b_228), ((I_149, 0), b_229), ((I_150, 0), b_230), ((I_150, 26), b_231), ((I_151, 0), b_232), ((I_152, 0), b_233), ((I_152, 30), b_234), ((I_153, 0), b_235), ((I_153, 24), b_236), ((I_154, 0), b_237), ((I_154, 28), b_238), ((I_155, 0), b_239), ((I_156, 0), b_240), ((I_156, 51), b_241), ((I_157, 0), b_242), ((I_157, 55), b_243), ((I_158, 0), b_244), ((I_158, 33), b_245), ((I_159, 0), b_246), ((I_159, 15), b_247), ((I_160, 0), b_248), ((I_161, 0), b_249)]
def am_t5 : List ((am_I × Nat) × am_B) := [((I_162, 0), b_250), ((I_162, 29), b_251), ((I_162, 117), b_252), ((I_163, 0), b_253), ((I_164, 0), b_254), ((I_164, 78), b_255), ((I_165, 0), b_256), ((I_165, 2), b_257), ((I_165, 58), b_258), ((I_165, 71), b_259), ((I_166, 0), b_260), ((I_166, 18), b_261), ((I_167, 0), b_262), ((I_167, 18), b_263), ((I_167, 320), b_264), ((I_167, 347), b_265)]
def am_tab : List ((am_I × Nat) × am_B) := am_t0 ++ (am_t1 ++ (am_t2 ++ (am_t3 ++ (am_t4 ++ (am_t5)))))
def am_N (lab : Nat) : Option (am_I × Nat) := (am_tab[lab]?).map fun e => e.1
def am_T (lab : Nat) : am_B := match am_tab[lab]? with
  | some e => e.2
  | none => fun _ _ _ _ _ => none
theorem n_0 : am_N 0 = some (I_0, 0) := rfl
theorem n_1 : am_N 1 = some (I_1, 0) := rfl
theorem n_2 : am_N 2 = some (I_1, 50) := rfl
theorem n_3 : am_N 3 = some (I_2, 0) := rfl
theorem n_4 : am_N 4 = some (I_3, 0) := rfl
theorem n_5 : am_N 5 = some (I_4, 0) := rfl
theorem n_6 : am_N 6 = some (I_5, 0) := rfl
theorem n_7 : am_N 7 = some (I_6, 0) := rfl
theorem n_8 : am_N 8 = some (I_7, 0) := rfl
theorem n_9 : am_N 9 = some (I_7, 60) := rfl
theorem n_10 : am_N 10 = some (I_8, 0) := rfl
theorem n_11 : am_N 11 = some (I_9, 0) := rfl
theorem n_12 : am_N 12 = some (I_9, 2) := rfl
theorem n_13 : am_N 13 = some (I_10, 0) := rfl
theorem n_14 : am_N 14 = some (I_10, 2) := rfl
theorem n_15 : am_N 15 = some (I_11, 0) := rfl
theorem n_16 : am_N 16 = some (I_12, 0) := rfl
theorem n_17 : am_N 17 = some (I_12, 48) := rfl
theorem n_18 : am_N 18 = some (I_13, 0) := rfl
theorem n_19 : am_N 19 = some (I_14, 0) := rfl
theorem n_20 : am_N 20 = some (I_15, 0) := rfl
theorem n_21 : am_N 21 = some (I_16, 0) := rfl
theorem n_22 : am_N 22 = some (I_17, 0) := rfl
theorem n_23 : am_N 23 = some (I_18, 0) := rfl
theorem n_24 : am_N 24 = some (I_19, 0) := rfl
theorem n_25 : am_N 25 = some (I_19, 5) := rfl
theorem n_26 : am_N 26 = some (I_20, 0) := rfl
theorem n_27 : am_N 27 = some (I_21, 0) := rfl
theorem n_28 : am_N 28 = some (I_22, 0) := rfl
theorem n_29 : am_N 29 = some (I_23, 0) := rfl
theorem n_30 : am_N 30 = some (I_23, 83) := rfl
theorem n_31 : am_N 31 = some (I_24, 0) := rfl
theorem n_32 : am_N 32 = some (I_25, 0) := rfl
theorem n_33 : am_N 33 = some (I_26, 0) := rfl
theorem n_34 : am_N 34 = some (I_26, 24) := rfl
theorem n_35 : am_N 35 = some (I_27, 0) := rfl
theorem n_36 : am_N 36 = some (I_28, 0) := rfl
theorem n_37 : am_N 37 = some (I_29, 0) := rfl
theorem n_38 : am_N 38 = some (I_30, 0) := rfl
theorem n_39 : am_N 39 = some (I_31, 0) := rfl
theorem n_40 : am_N 40 = some (I_32, 0) := rfl
theorem n_41 : am_N 41 = some (I_33, 0) := rfl
theorem n_42 : am_N 42 = some (I_33, 23) := rfl
theorem n_43 : am_N 43 = some (I_34, 0) := rfl
theorem n_44 : am_N 44 = some (I_34, 5) := rfl
theorem n_45 : am_N 45 = some (I_35, 0) := rfl
theorem n_46 : am_N 46 = some (I_36, 0) := rfl
theorem n_47 : am_N 47 = some (I_37, 0) := rfl
theorem n_48 : am_N 48 = some (I_38, 0) := rfl
theorem n_49 : am_N 49 = some (I_38, 5) := rfl
theorem n_50 : am_N 50 = some (I_39, 0) := rfl
theorem n_51 : am_N 51 = some (I_40, 0) := rfl
theorem n_52 : am_N 52 = some (I_41, 0) := rfl
theorem n_53 : am_N 53 = some (I_41, 22) := rfl
theorem n_54 : am_N 54 = some (I_42, 0) := rfl
theorem n_55 : am_N 55 = some (I_42, 4) := rfl
theorem n_56 : am_N 56 = some (I_43, 0) := rfl
theorem n_57 : am_N 57 = some (I_44, 0) := rfl
theorem n_58 : am_N 58 = some (I_45, 0) := rfl
theorem n_59 : am_N 59 = some (I_45, 23) := rfl
theorem n_60 : am_N 60 = some (I_46, 0) := rfl
theorem n_61 : am_N 61 = some (I_47, 0) := rfl
theorem n_62 : am_N 62 = some (I_48, 0) := rfl
theorem n_63 : am_N 63 = some (I_49, 0) := rfl
theorem n_64 : am_N 64 = some (I_50, 0) := rfl
theorem n_65 : am_N 65 = some (I_51, 0) := rfl
theorem n_66 : am_N 66 = some (I_51, 12) := rfl
theorem n_67 : am_N 67 = some (I_52, 0) := rfl
theorem n_68 : am_N 68 = some (I_53, 0) := rfl
theorem n_69 : am_N 69 = some (I_54, 0) := rfl
theorem n_70 : am_N 70 = some (I_55, 0) := rfl
theorem n_71 : am_N 71 = some (I_56, 0) := rfl
theorem n_72 : am_N 72 = some (I_57, 0) := rfl
theorem n_73 : am_N 73 = some (I_57, 3) := rfl
theorem n_74 : am_N 74 = some (I_58, 0) := rfl
theorem n_75 : am_N 75 = some (I_58, 6) := rfl
theorem n_76 : am_N 76 = some (I_58, 18) := rfl
theorem n_77 : am_N 77 = some (I_59, 0) := rfl
theorem n_78 : am_N 78 = some (I_60, 0) := rfl
theorem n_79 : am_N 79 = some (I_61, 0) := rfl
theorem n_80 : am_N 80 = some (I_62, 0) := rfl
theorem n_81 : am_N 81 = some (I_63, 0) := rfl
theorem n_82 : am_N 82 = some (I_64, 0) := rfl
theorem n_83 : am_N 83 = some (I_65, 0) := rfl
theorem n_84 : am_N 84 = some (I_65, 35) := rfl
theorem n_85 : am_N 85 = some (I_66, 0) := rfl
theorem n_86 : am_N 86 = some (I_66, 30) := rfl
theorem n_87 : am_N 87 = some (I_66, 84) := rfl
theorem n_88 : am_N 88 = some (I_67, 0) := rfl
theorem n_89 : am_N 89 = some (I_68, 0) := rfl
theorem n_90 : am_N 90 = some (I_69, 0) := rfl
theorem n_91 : am_N 91 = some (I_69, 4) := rfl
theorem n_92 : am_N 92 = some (I_70, 0) := rfl
theorem n_93 : am_N 93 = some (I_71, 0) := rfl
theorem n_94 : am_N 94 = some (I_72, 0) := rfl
theorem n_95 : am_N 95 = some (I_73, 0) := rfl
theorem n_96 : am_N 96 = some (I_73, 12) := rfl
theorem n_97 : am_N 97 = some (I_74, 0) := rfl
theorem n_98 : am_N 98 = some (I_74, 15) := rfl
theorem n_99 : am_N 99 = some (I_75, 0) := rfl
theorem n_100 : am_N 100 = some (I_75, 62) := rfl
theorem n_101 : am_N 101 = some (I_76, 0) := rfl
theorem n_102 : am_N 102 = some (I_76, 2) := rfl
theorem n_103 : am_N 103 = some (I_76, 24) := rfl
theorem n_104 : am_N 104 = some (I_76, 80) := rfl
theorem n_105 : am_N 105 = some (I_77, 0) := rfl
theorem n_106 : am_N 106 = some (I_77, 2) := rfl
theorem n_107 : am_N 107 = some (I_78, 0) := rfl
theorem n_108 : am_N 108 = some (I_78, 3) := rfl
theorem n_109 : am_N 109 = some (I_79, 0) := rfl
theorem n_110 : am_N 110 = some (I_80, 0) := rfl
theorem n_111 : am_N 111 = some (I_80, 31) := rfl
theorem n_112 : am_N 112 = some (I_81, 0) := rfl
theorem n_113 : am_N 113 = some (I_82, 0) := rfl
theorem n_114 : am_N 114 = some (I_83, 0) := rfl
theorem n_115 : am_N 115 = some (I_83, 24) := rfl
theorem n_116 : am_N 116 = some (I_84, 0) := rfl
theorem n_117 : am_N 117 = some (I_85, 0) := rfl
theorem n_118 : am_N 118 = some (I_85, 60) := rfl
theorem n_119 : am_N 119 = some (I_86, 0) := rfl
theorem n_120 : am_N 120 = some (I_87, 0) := rfl
theorem n_121 : am_N 121 = some (I_88, 0) := rfl
theorem n_122 : am_N 122 = some (I_88, 4) := rfl
theorem n_123 : am_N 123 = some (I_89, 0) := rfl
theorem n_124 : am_N 124 = some (I_89, 18) := rfl
theorem n_125 : am_N 125 = some (I_90, 0) := rfl
theorem n_126 : am_N 126 = some (I_91, 0) := rfl
theorem n_127 : am_N 127 = some (I_92, 0) := rfl
theorem n_128 : am_N 128 = some (I_92, 18) := rfl
theorem n_129 : am_N 129 = some (I_93, 0) := rfl
theorem n_130 : am_N 130 = some (I_94, 0) := rfl
theorem n_131 : am_N 131 = some (I_95, 0) := rfl
theorem n_132 : am_N 132 = some (I_95, 18) := rfl
theorem n_133 : am_N 133 = some (I_96, 0) := rfl
theorem n_134 : am_N 134 = some (I_96, 53) := rfl
theorem n_135 : am_N 135 = some (I_97, 0) := rfl
theorem n_136 : am_N 136 = some (I_97, 2) := rfl
theorem n_137 : am_N 137 = some (I_97, 24) := rfl
theorem n_138 : am_N 138 = some (I_97, 80) := rfl
theorem n_139 : am_N 139 = some (I_98, 0) := rfl
theorem n_140 : am_N 140 = some (I_98, 2) := rfl
theorem n_141 : am_N 141 = some (I_99, 0) := rfl
theorem n_142 : am_N 142 = some (I_99, 3) := rfl
theorem n_143 : am_N 143 = some (I_100, 0) := rfl
theorem n_144 : am_N 144 = some (I_100, 15) := rfl
theorem n_145 : am_N 145 = some (I_101, 0) := rfl
theorem n_146 : am_N 146 = some (I_102, 0) := rfl
theorem n_147 : am_N 147 = some (I_102, 76) := rfl
theorem n_148 : am_N 148 = some (I_103, 0) := rfl
theorem n_149 : am_N 149 = some (I_104, 0) := rfl
theorem n_150 : am_N 150 = some (I_104, 6) := rfl
theorem n_151 : am_N 151 = some (I_105, 0) := rfl
theorem n_152 : am_N 152 = some (I_105, 4) := rfl
theorem n_153 : am_N 153 = some (I_106, 0) := rfl
theorem n_154 : am_N 154 = some (I_106, 42) := rfl
theorem n_155 : am_N 155 = some (I_106, 71) := rfl
theorem n_156 : am_N 156 = some (I_106, 97) := rfl
theorem n_157 : am_N 157 = some (I_106, 193) := rfl
theorem n_158 : am_N 158 = some (I_107, 0) := rfl
theorem n_159 : am_N 159 = some (I_108, 0) := rfl
theorem n_160 : am_N 160 = some (I_108, 6) := rfl
theorem n_161 : am_N 161 = some (I_109, 0) := rfl
theorem n_162 : am_N 162 = some (I_109, 2) := rfl
theorem n_163 : am_N 163 = some (I_110, 0) := rfl
theorem n_164 : am_N 164 = some (I_111, 0) := rfl
theorem n_165 : am_N 165 = some (I_111, 25) := rfl
theorem n_166 : am_N 166 = some (I_111, 131) := rfl
theorem n_167 : am_N 167 = some (I_112, 0) := rfl
theorem n_168 : am_N 168 = some (I_113, 0) := rfl
theorem n_169 : am_N 169 = some (I_113, 40) := rfl
theorem n_170 : am_N 170 = some (I_114, 0) := rfl
theorem n_171 : am_N 171 = some (I_114, 30) := rfl
theorem n_172 : am_N 172 = some (I_115, 0) := rfl
theorem n_173 : am_N 173 = some (I_115, 25) := rfl
theorem n_174 : am_N 174 = some (I_115, 75) := rfl
theorem n_175 : am_N 175 = some (I_116, 0) := rfl
theorem n_176 : am_N 176 = some (I_116, 35) := rfl
theorem n_177 : am_N 177 = some (I_116, 81) := rfl
theorem n_178 : am_N 178 = some (I_117, 0) := rfl
theorem n_179 : am_N 179 = some (I_118, 0) := rfl
theorem n_180 : am_N 180 = some (I_119, 0) := rfl
theorem n_181 : am_N 181 = some (I_119, 35) := rfl
theorem n_182 : am_N 182 = some (I_119, 99) := rfl
theorem n_183 : am_N 183 = some (I_120, 0) := rfl
theorem n_184 : am_N 184 = some (I_121, 0) := rfl
theorem n_185 : am_N 185 = some (I_122, 0) := rfl
theorem n_186 : am_N 186 = some (I_122, 25) := rfl
theorem n_187 : am_N 187 = some (I_123, 0) := rfl
theorem n_188 : am_N 188 = some (I_123, 6) := rfl
theorem n_189 : am_N 189 = some (I_124, 0) := rfl
theorem n_190 : am_N 190 = some (I_125, 0) := rfl
theorem n_191 : am_N 191 = some (I_126, 0) := rfl
theorem n_192 : am_N 192 = some (I_127, 0) := rfl
theorem n_193 : am_N 193 = some (I_127, 20) := rfl
theorem n_194 : am_N 194 = some (I_127, 67) := rfl
theorem n_195 : am_N 195 = some (I_128, 0) := rfl
theorem n_196 : am_N 196 = some (I_128, 4) := rfl
theorem n_197 : am_N 197 = some (I_129, 0) := rfl
theorem n_198 : am_N 198 = some (I_130, 0) := rfl
theorem n_199 : am_N 199 = some (I_131, 0) := rfl
theorem n_200 : am_N 200 = some (I_132, 0) := rfl
theorem n_201 : am_N 201 = some (I_133, 0) := rfl
theorem n_202 : am_N 202 = some (I_134, 0) := rfl
theorem n_203 : am_N 203 = some (I_135, 0) := rfl
theorem n_204 : am_N 204 = some (I_135, 12) := rfl
theorem n_205 : am_N 205 = some (I_136, 0) := rfl
theorem n_206 : am_N 206 = some (I_136, 50) := rfl
theorem n_207 : am_N 207 = some (I_136, 119) := rfl
theorem n_208 : am_N 208 = some (I_137, 0) := rfl
theorem n_209 : am_N 209 = some (I_137, 2) := rfl
theorem n_210 : am_N 210 = some (I_137, 15) := rfl
theorem n_211 : am_N 211 = some (I_138, 0) := rfl
theorem n_212 : am_N 212 = some (I_139, 0) := rfl
theorem n_213 : am_N 213 = some (I_140, 0) := rfl
theorem n_214 : am_N 214 = some (I_141, 0) := rfl
theorem n_215 : am_N 215 = some (I_142, 0) := rfl
theorem n_216 : am_N 216 = some (I_143, 0) := rfl
theorem n_217 : am_N 217 = some (I_144, 0) := rfl
theorem n_218 : am_N 218 = some (I_144, 26) := rfl
theorem n_219 : am_N 219 = some (I_145, 0) := rfl
theorem n_220 : am_N 220 = some (I_145, 39) := rfl
theorem n_221 : am_N 221 = some (I_145, 100) := rfl
theorem n_222 : am_N 222 = some (I_145, 124) := rfl
theorem n_223 : am_N 223 = some (I_145, 174) := rfl
theorem n_224 : am_N 224 = some (I_145, 187) := rfl
theorem n_225 : am_N 225 = some (I_146, 0) := rfl
theorem n_226 : am_N 226 = some (I_146, 4) := rfl
theorem n_227 : am_N 227 = some (I_147, 0) := rfl
theorem n_228 : am_N 228 = some (I_148, 0) := rfl
theorem n_229 : am_N 229 = some (I_149, 0) := rfl
theorem n_230 : am_N 230 = some (I_150, 0) := rfl
theorem n_231 : am_N 231 = some (I_150, 26) := rfl
theorem n_232 : am_N 232 = some (I_151, 0) := rfl
theorem n_233 : am_N 233 = some (I_152, 0) := rfl
theorem n_234 : am_N 234 = some (I_152, 30) := rfl
theorem n_235 : am_N 235 = some (I_153, 0) := rfl
theorem n_236 : am_N 236 = some (I_153, 24) := rfl
theorem n_237 : am_N 237 = some (I_154, 0) := rfl
theorem n_238 : am_N 238 = some (I_154, 28) := rfl
theorem n_239 : am_N 239 = some (I_155, 0) := rfl
theorem n_240 : am_N 240 = some (I_156, 0) := rfl
theorem n_241 : am_N 241 = some (I_156, 51) := rfl
theorem n_242 : am_N 242 = some (I_157, 0) := rfl
theorem n_243 : am_N 243 = some (I_157, 55) := rfl
theorem n_244 : am_N 244 = some (I_158, 0) := rfl
theorem n_245 : am_N 245 = some (I_158, 33) := rfl
theorem n_246 : am_N 246 = some (I_159, 0) := rfl
theorem n_247 : am_N 247 = some (I_159, 15) := rfl
theorem n_248 : am_N 248 = some (I_160, 0) := rfl
theorem n_249 : am_N 249 = some (I_161, 0) := rfl
theorem n_250 : am_N 250 = some (I_162, 0) := rfl
theorem n_251 : am_N 251 = some (I_162, 29) := rfl
theorem n_252 : am_N 252 = some (I_162, 117) := rfl
theorem n_253 : am_N 253 = some (I_163, 0) := rfl
theorem n_254 : am_N 254 = some (I_164, 0) := rfl
theorem n_255 : am_N 255 = some (I_164, 78) := rfl
theorem n_256 : am_N 256 = some (I_165, 0) := rfl
theorem n_257 : am_N 257 = some (I_165, 2) := rfl
theorem n_258 : am_N 258 = some (I_165, 58) := rfl
theorem n_259 : am_N 259 = some (I_165, 71) := rfl
theorem n_260 : am_N 260 = some (I_166, 0) := rfl
theorem n_261 : am_N 261 = some (I_166, 18) := rfl
theorem n_262 : am_N 262 = some (I_167, 0) := rfl
theorem n_263 : am_N 263 = some (I_167, 18) := rfl
theorem n_264 : am_N 264 = some (I_167, 320) := rfl
theorem n_265 : am_N 265 = some (I_167, 347) := rfl
theorem t_0 : am_T 0 = b_0 := rfl
theorem t_1 : am_T 1 = b_1 := rfl
theorem t_2 : am_T 2 = b_2 := rfl
theorem t_3 : am_T 3 = b_3 := rfl
theorem t_4 : am_T 4 = b_4 := rfl
theorem t_5 : am_T 5 = b_5 := rfl
theorem t_6 : am_T 6 = b_6 := rfl
theorem t_7 : am_T 7 = b_7 := rfl
theorem t_8 : am_T 8 = b_8 := rfl
theorem t_9 : am_T 9 = b_9 := rfl
theorem t_10 : am_T 10 = b_10 := rfl
theorem t_11 : am_T 11 = b_11 := rfl
theorem t_12 : am_T 12 = b_12 := rfl
theorem t_13 : am_T 13 = b_13 := rfl
theorem t_14 : am_T 14 = b_14 := rfl
theorem t_15 : am_T 15 = b_15 := rfl
theorem t_16 : am_T 16 = b_16 := rfl
theorem t_17 : am_T 17 = b_17 := rfl
theorem t_18 : am_T 18 = b_18 := rfl
theorem t_19 : am_T 19 = b_19 := rfl
theorem t_20 : am_T 20 = b_20 := rfl
theorem t_21 : am_T 21 = b_21 := rfl
theorem t_22 : am_T 22 = b_22 := rfl
theorem t_23 : am_T 23 = b_23 := rfl
theorem t_24 : am_T 24 = b_24 := rfl
theorem t_25 : am_T 25 = b_25 := rfl
theorem t_26 : am_T 26 = b_26 := rfl
theorem t_27 : am_T 27 = b_27 := rfl
theorem t_28 : am_T 28 = b_28 := rfl
theorem t_29 : am_T 29 = b_29 := rfl
theorem t_30 : am_T 30 = b_30 := rfl
theorem t_31 : am_T 31 = b_31 := rfl
theorem t_32 : am_T 32 = b_32 := rfl
theorem t_33 : am_T 33 = b_33 := rfl
theorem t_34 : am_T 34 = b_34 := rfl
theorem t_35 : am_T 35 = b_35 := rfl
theorem t_36 : am_T 36 = b_36 := rfl
theorem t_37 : am_T 37 = b_37 := rfl
theorem t_38 : am_T 38 = b_38 := rfl
theorem t_39 : am_T 39 = b_39 := rfl
theorem t_40 : am_T 40 = b_40 := rfl
theorem t_41 : am_T 41 = b_41 := rfl
theorem t_42 : am_T 42 = b_42 := rfl
theorem t_43 : am_T 43 = b_43 := rfl
theorem t_44 : am_T 44 = b_44 := rfl
theorem t_45 : am_T 45 = b_45 := rfl
theorem t_46 : am_T 46 = b_46 := rfl
theorem t_47 : am_T 47 = b_47 := rfl
theorem t_48 : am_T 48 = b_48 := rfl
theorem t_49 : am_T 49 = b_49 := rfl
theorem t_50 : am_T 50 = b_50 := rfl
theorem t_51 : am_T 51 = b_51 := rfl
theorem t_52 : am_T 52 = b_52 := rfl
theorem t_53 : am_T 53 = b_53 := rfl
theorem t_54 : am_T 54 = b_54 := rfl
theorem t_55 : am_T 55 = b_55 := rfl
theorem t_56 : am_T 56 = b_56 := rfl
theorem t_57 : am_T 57 = b_57 := rfl
theorem t_58 : am_T 58 = b_58 := rfl
theorem t_59 : am_T 59 = b_59 := rfl
theorem t_60 : am_T 60 = b_60 := rfl
theorem t_61 : am_T 61 = b_61 := rfl
theorem t_62 : am_T 62 = b_62 := rfl
theorem t_63 : am_T 63 = b_63 := rfl
theorem t_64 : am_T 64 = b_64 := rfl
theorem t_65 : am_T 65 = b_65 := rfl
theorem t_66 : am_T 66 = b_66 := rfl
theorem t_67 : am_T 67 = b_67 := rfl
theorem t_68 : am_T 68 = b_68 := rfl
theorem t_69 : am_T 69 = b_69 := rfl
theorem t_70 : am_T 70 = b_70 := rfl
theorem t_71 : am_T 71 = b_71 := rfl
theorem t_72 : am_T 72 = b_72 := rfl
theorem t_73 : am_T 73 = b_73 := rfl
theorem t_74 : am_T 74 = b_74 := rfl
theorem t_75 : am_T 75 = b_75 := rfl
theorem t_76 : am_T 76 = b_76 := rfl
theorem t_77 : am_T 77 = b_77 := rfl
theorem t_78 : am_T 78 = b_78 := rfl
theorem t_79 : am_T 79 = b_79 := rfl
theorem t_80 : am_T 80 = b_80 := rfl
theorem t_81 : am_T 81 = b_81 := rfl
theorem t_82 : am_T 82 = b_82 := rfl
theorem t_83 : am_T 83 = b_83 := rfl
theorem t_84 : am_T 84 = b_84 := rfl
theorem t_85 : am_T 85 = b_85 := rfl
theorem t_86 : am_T 86 = b_86 := rfl
theorem t_87 : am_T 87 = b_87 := rfl
theorem t_88 : am_T 88 = b_88 := rfl
theorem t_89 : am_T 89 = b_89 := rfl
theorem t_90 : am_T 90 = b_90 := rfl
theorem t_91 : am_T 91 = b_91 := rfl
theorem t_92 : am_T 92 = b_92 := rfl
theorem t_93 : am_T 93 = b_93 := rfl
theorem t_94 : am_T 94 = b_94 := rfl
theorem t_95 : am_T 95 = b_95 := rfl
theorem t_96 : am_T 96 = b_96 := rfl
theorem t_97 : am_T 97 = b_97 := rfl
theorem t_98 : am_T 98 = b_98 := rfl
theorem t_99 : am_T 99 = b_99 := rfl
theorem t_100 : am_T 100 = b_100 := rfl
theorem t_101 : am_T 101 = b_101 := rfl
theorem t_102 : am_T 102 = b_102 := rfl
theorem t_103 : am_T 103 = b_103 := rfl
theorem t_104 : am_T 104 = b_104 := rfl
theorem t_105 : am_T 105 = b_105 := rfl
theorem t_106 : am_T 106 = b_106 := rfl
theorem t_107 : am_T 107 = b_107 := rfl
theorem t_108 : am_T 108 = b_108 := rfl
theorem t_109 : am_T 109 = b_109 := rfl
theorem t_110 : am_T 110 = b_110 := rfl
theorem t_111 : am_T 111 = b_111 := rfl
theorem t_112 : am_T 112 = b_112 := rfl
theorem t_113 : am_T 113 = b_113 := rfl
theorem t_114 : am_T 114 = b_114 := rfl
theorem t_115 : am_T 115 = b_115 := rfl
theorem t_116 : am_T 116 = b_116 := rfl
theorem t_117 : am_T 117 = b_117 := rfl
theorem t_118 : am_T 118 = b_118 := rfl
theorem t_119 : am_T 119 = b_119 := rfl
theorem t_120 : am_T 120 = b_120 := rfl
theorem t_121 : am_T 121 = b_121 := rfl
theorem t_122 : am_T 122 = b_122 := rfl
theorem t_123 : am_T 123 = b_123 := rfl
theorem t_124 : am_T 124 = b_124 := rfl
theorem t_125 : am_T 125 = b_125 := rfl
theorem t_126 : am_T 126 = b_126 := rfl
theorem t_127 : am_T 127 = b_127 := rfl
theorem t_128 : am_T 128 = b_128 := rfl
theorem t_129 : am_T 129 = b_129 := rfl
theorem t_130 : am_T 130 = b_130 := rfl
theorem t_131 : am_T 131 = b_131 := rfl
theorem t_132 : am_T 132 = b_132 := rfl
theorem t_133 : am_T 133 = b_133 := rfl
theorem t_134 : am_T 134 = b_134 := rfl
theorem t_135 : am_T 135 = b_135 := rfl
theorem t_136 : am_T 136 = b_136 := rfl
theorem t_137 : am_T 137 = b_137 := rfl
theorem t_138 : am_T 138 = b_138 := rfl
theorem t_139 : am_T 139 = b_139 := rfl
theorem t_140 : am_T 140 = b_140 := rfl
theorem t_141 : am_T 141 = b_141 := rfl
theorem t_142 : am_T 142 = b_142 := rfl
theorem t_143 : am_T 143 = b_143 := rfl
theorem t_144 : am_T 144 = b_144 := rfl
theorem t_145 : am_T 145 = b_145 := rfl
theorem t_146 : am_T 146 = b_146 := rfl
theorem t_147 : am_T 147 = b_147 := rfl
theorem t_148 : am_T 148 = b_148 := rfl
theorem t_149 : am_T 149 = b_149 := rfl
theorem t_150 : am_T 150 = b_150 := rfl
theorem t_151 : am_T 151 = b_151 := rfl
theorem t_152 : am_T 152 = b_152 := rfl
theorem t_153 : am_T 153 = b_153 := rfl
theorem t_154 : am_T 154 = b_154 := rfl
theorem t_155 : am_T 155 = b_155 := rfl
theorem t_156 : am_T 156 = b_156 := rfl
theorem t_157 : am_T 157 = b_157 := rfl
theorem t_158 : am_T 158 = b_158 := rfl
theorem t_159 : am_T 159 = b_159 := rfl
theorem t_160 : am_T 160 = b_160 := rfl
theorem t_161 : am_T 161 = b_161 := rfl
theorem t_162 : am_T 162 = b_162 := rfl
theorem t_163 : am_T 163 = b_163 := rfl
theorem t_164 : am_T 164 = b_164 := rfl
theorem t_165 : am_T 165 = b_165 := rfl
theorem t_166 : am_T 166 = b_166 := rfl
theorem t_167 : am_T 167 = b_167 := rfl
theorem t_168 : am_T 168 = b_168 := rfl
theorem t_169 : am_T 169 = b_169 := rfl
theorem t_170 : am_T 170 = b_170 := rfl
theorem t_171 : am_T 171 = b_171 := rfl
theorem t_172 : am_T 172 = b_172 := rfl
theorem t_173 : am_T 173 = b_173 := rfl
theorem t_174 : am_T 174 = b_174 := rfl
theorem t_175 : am_T 175 = b_175 := rfl
theorem t_176 : am_T 176 = b_176 := rfl
theorem t_177 : am_T 177 = b_177 := rfl
theorem t_178 : am_T 178 = b_178 := rfl
theorem t_179 : am_T 179 = b_179 := rfl
theorem t_180 : am_T 180 = b_180 := rfl
theorem t_181 : am_T 181 = b_181 := rfl
theorem t_182 : am_T 182 = b_182 := rfl
theorem t_183 : am_T 183 = b_183 := rfl
theorem t_184 : am_T 184 = b_184 := rfl
theorem t_185 : am_T 185 = b_185 := rfl
theorem t_186 : am_T 186 = b_186 := rfl
theorem t_187 : am_T 187 = b_187 := rfl
theorem t_188 : am_T 188 = b_188 := rfl
theorem t_189 : am_T 189 = b_189 := rfl
theorem t_190 : am_T 190 = b_190 := rfl
theorem t_191 : am_T 191 = b_191 := rfl
theorem t_192 : am_T 192 = b_192 := rfl
theorem t_193 : am_T 193 = b_193 := rfl
theorem t_194 : am_T 194 = b_194 := rfl
theorem t_195 : am_T 195 = b_195 := rfl
theorem t_196 : am_T 196 = b_196 := rfl
theorem t_197 : am_T 197 = b_197 := rfl
theorem t_198 : am_T 198 = b_198 := rfl
theorem t_199 : am_T 199 = b_199 := rfl
theorem t_200 : am_T 200 = b_200 := rfl
theorem t_201 : am_T 201 = b_201 := rfl
theorem t_202 : am_T 202 = b_202 := rfl
theorem t_203 : am_T 203 = b_203 := rfl
theorem t_204 : am_T 204 = b_204 := rfl
theorem t_205 : am_T 205 = b_205 := rfl
theorem t_206 : am_T 206 = b_206 := rfl
theorem t_207 : am_T 207 = b_207 := rfl
theorem t_208 : am_T 208 = b_208 := rfl
theorem t_209 : am_T 209 = b_209 := rfl
theorem t_210 : am_T 210 = b_210 := rfl
theorem t_211 : am_T 211 = b_211 := rfl
theorem t_212 : am_T 212 = b_212 := rfl
theorem t_213 : am_T 213 = b_213 := rfl
theorem t_214 : am_T 214 = b_214 := rfl
theorem t_215 : am_T 215 = b_215 := rfl
theorem t_216 : am_T 216 = b_216 := rfl
theorem t_217 : am_T 217 = b_217 := rfl
theorem t_218 : am_T 218 = b_218 := rfl
theorem t_219 : am_T 219 = b_219 := rfl
theorem t_220 : am_T 220 = b_220 := rfl
theorem t_221 : am_T 221 = b_221 := rfl
theorem t_222 : am_T 222 = b_222 := rfl
theorem t_223 : am_T 223 = b_223 := rfl
theorem t_224 : am_T 224 = b_224 := rfl
theorem t_225 : am_T 225 = b_225 := rfl
theorem t_226 : am_T 226 = b_226 := rfl
theorem t_227 : am_T 227 = b_227 := rfl
theorem t_228 : am_T 228 = b_228 := rfl
theorem t_229 : am_T 229 = b_229 := rfl
theorem t_230 : am_T 230 = b_230 := rfl
theorem t_231 : am_T 231 = b_231 := rfl
theorem t_232 : am_T 232 = b_232 := rfl
theorem t_233 : am_T 233 = b_233 := rfl
theorem t_234 : am_T 234 = b_234 := rfl
theorem t_235 : am_T 235 = b_235 := rfl
theorem t_236 : am_T 236 = b_236 := rfl
theorem t_237 : am_T 237 = b_237 := rfl
theorem t_238 : am_T 238 = b_238 := rfl
theorem t_239 : am_T 239 = b_239 := rfl
theorem t_240 : am_T 240 = b_240 := rfl
theorem t_241 : am_T 241 = b_241 := rfl
theorem t_242 : am_T 242 = b_242 := rfl
theorem t_243 : am_T 243 = b_243 := rfl
theorem t_244 : am_T 244 = b_244 := rfl
theorem t_245 : am_T 245 = b_245 := rfl
theorem t_246 : am_T 246 = b_246 := rfl
theorem t_247 : am_T 247 = b_247 := rfl
theorem t_248 : am_T 248 = b_248 := rfl
theorem t_249 : am_T 249 = b_249 := rfl
theorem t_250 : am_T 250 = b_250 := rfl
theorem t_251 : am_T 251 = b_251 := rfl
theorem t_252 : am_T 252 = b_252 := rfl
theorem t_253 : am_T 253 = b_253 := rfl
theorem t_254 : am_T 254 = b_254 := rfl
theorem t_255 : am_T 255 = b_255 := rfl
theorem t_256 : am_T 256 = b_256 := rfl
theorem t_257 : am_T 257 = b_257 := rfl
theorem t_258 : am_T 258 = b_258 := rfl
theorem t_259 : am_T 259 = b_259 := rfl
theorem t_260 : am_T 260 = b_260 := rfl
theorem t_261 : am_T 261 = b_261 := rfl
theorem t_262 : am_T 262 = b_262 := rfl
theorem t_263 : am_T 263 = b_263 := rfl
theorem t_264 : am_T 264 = b_264 := rfl
theorem t_265 : am_T 265 = b_265 := rfl
