theorem d_X10_init_0 : decode prog_12_method_1_code 0 = .ok (.aload_n 0, 1) := by decide +kernel
theorem d_X10_init_1 : decode prog_12_method_1_code 1 = .ok (.invokespecial 1, 3) := by decide +kernel
theorem d_X10_init_4 : decode prog_12_method_1_code 4 = .ok (.aload_n 0, 1) := by decide +kernel
theorem d_X10_init_5 : decode prog_12_method_1_code 5 = .ok (.sipush 300, 3) := by decide +kernel
theorem d_X10_init_8 : decode prog_12_method_1_code 8 = .ok (.newarray .int, 2) := by decide +kernel
theorem d_X10_init_10 : decode prog_12_method_1_code 10 = .ok (.putfield 7, 3) := by decide +kernel
theorem d_X10_init_13 : decode prog_12_method_1_code 13 = .ok (.aload_n 0, 1) := by decide +kernel
theorem d_X10_init_14 : decode prog_12_method_1_code 14 = .ok (.sipush 300, 3) := by decide +kernel
theorem d_X10_init_17 : decode prog_12_method_1_code 17 = .ok (.newarray .int, 2) := by decide +kernel
theorem d_X10_init_19 : decode prog_12_method_1_code 19 = .ok (.putfield 13, 3) := by decide +kernel
theorem d_X10_init_22 : decode prog_12_method_1_code 22 = .ok (.aload_n 0, 1) := by decide +kernel
theorem d_X10_init_23 : decode prog_12_method_1_code 23 = .ok (.sipush 300, 3) := by decide +kernel
theorem d_X10_init_26 : decode prog_12_method_1_code 26 = .ok (.newarray .int, 2) := by decide +kernel
theorem d_X10_init_28 : decode prog_12_method_1_code 28 = .ok (.putfield 16, 3) := by decide +kernel
theorem d_X10_init_31 : decode prog_12_method_1_code 31 = .ok (.aload_n 0, 1) := by decide +kernel
theorem d_X10_init_32 : decode prog_12_method_1_code 32 = .ok (.sipush 200, 3) := by decide +kernel
theorem d_X10_init_35 : decode prog_12_method_1_code 35 = .ok (.newarray .int, 2) := by decide +kernel
theorem d_X10_init_37 : decode prog_12_method_1_code 37 = .ok (.putfield 19, 3) := by decide +kernel
theorem d_X10_init_40 : decode prog_12_method_1_code 40 = .ok (.aload_n 0, 1) := by decide +kernel
theorem d_X10_init_41 : decode prog_12_method_1_code 41 = .ok (.bipush 9, 2) := by decide +kernel
theorem d_X10_init_43 : decode prog_12_method_1_code 43 = .ok (.newarray .int, 2) := by decide +kernel
theorem d_X10_init_45 : decode prog_12_method_1_code 45 = .ok (.putfield 22, 3) := by decide +kernel
theorem d_X10_init_48 : decode prog_12_method_1_code 48 = .ok (.aload_n 0, 1) := by decide +kernel
theorem d_X10_init_49 : decode prog_12_method_1_code 49 = .ok (.iconst 4, 1) := by decide +kernel
theorem d_X10_init_50 : decode prog_12_method_1_code 50 = .ok (.newarray .int, 2) := by decide +kernel
theorem d_X10_init_52 : decode prog_12_method_1_code 52 = .ok (.putfield 25, 3) := by decide +kernel
theorem d_X10_init_55 : decode prog_12_method_1_code 55 = .ok (.aload_n 0, 1) := by decide +kernel
theorem d_X10_init_56 : decode prog_12_method_1_code 56 = .ok (.iconst 4, 1) := by decide +kernel
theorem d_X10_init_57 : decode prog_12_method_1_code 57 = .ok (.newarray .int, 2) := by decide +kernel
theorem d_X10_init_59 : decode prog_12_method_1_code 59 = .ok (.putfield 28, 3) := by decide +kernel
theorem d_X10_init_62 : decode prog_12_method_1_code 62 = .ok (.aload_n 0, 1) := by decide +kernel
theorem d_X10_init_63 : decode prog_12_method_1_code 63 = .ok (.iconst 4, 1) := by decide +kernel
theorem d_X10_init_64 : decode prog_12_method_1_code 64 = .ok (.newarray .int, 2) := by decide +kernel
theorem d_X10_init_66 : decode prog_12_method_1_code 66 = .ok (.putfield 31, 3) := by decide +kernel
theorem d_X10_init_69 : decode prog_12_method_1_code 69 = .ok (.aload_n 0, 1) := by decide +kernel
theorem d_X10_init_70 : decode prog_12_method_1_code 70 = .ok (.iconst 4, 1) := by decide +kernel
theorem d_X10_init_71 : decode prog_12_method_1_code 71 = .ok (.newarray .int, 2) := by decide +kernel
theorem d_X10_init_73 : decode prog_12_method_1_code 73 = .ok (.putfield 34, 3) := by decide +kernel
theorem d_X10_init_76 : decode prog_12_method_1_code 76 = .ok (.aload_n 0, 1) := by decide +kernel
theorem d_X10_init_77 : decode prog_12_method_1_code 77 = .ok (.bipush 81, 2) := by decide +kernel
theorem d_X10_init_79 : decode prog_12_method_1_code 79 = .ok (.newarray .boolean, 2) := by decide +kernel
theorem d_X10_init_81 : decode prog_12_method_1_code 81 = .ok (.putfield 37, 3) := by decide +kernel
theorem d_X10_init_84 : decode prog_12_method_1_code 84 = .ok (.aload_n 0, 1) := by decide +kernel
theorem d_X10_init_85 : decode prog_12_method_1_code 85 = .ok (.sipush 512, 3) := by decide +kernel
theorem d_X10_init_88 : decode prog_12_method_1_code 88 = .ok (.newarray .int, 2) := by decide +kernel
theorem d_X10_init_90 : decode prog_12_method_1_code 90 = .ok (.putfield 41, 3) := by decide +kernel
theorem d_X10_init_93 : decode prog_12_method_1_code 93 = .ok (.aload_n 0, 1) := by decide +kernel
theorem d_X10_init_94 : decode prog_12_method_1_code 94 = .ok (.sipush 5632, 3) := by decide +kernel
theorem d_X10_init_97 : decode prog_12_method_1_code 97 = .ok (.newarray .int, 2) := by decide +kernel
theorem d_X10_init_99 : decode prog_12_method_1_code 99 = .ok (.putfield 44, 3) := by decide +kernel
theorem d_X10_init_102 : decode prog_12_method_1_code 102 = .ok (.aload_n 0, 1) := by decide +kernel
theorem d_X10_init_103 : decode prog_12_method_1_code 103 = .ok (.bipush 18, 2) := by decide +kernel
theorem d_X10_init_105 : decode prog_12_method_1_code 105 = .ok (.newarray .int, 2) := by decide +kernel
theorem d_X10_init_107 : decode prog_12_method_1_code 107 = .ok (.putfield 47, 3) := by decide +kernel
theorem d_X10_init_110 : decode prog_12_method_1_code 110 = .ok (.aload_n 0, 1) := by decide +kernel
theorem d_X10_init_111 : decode prog_12_method_1_code 111 = .ok (.sipush 200, 3) := by decide +kernel
theorem d_X10_init_114 : decode prog_12_method_1_code 114 = .ok (.newarray .int, 2) := by decide +kernel
theorem d_X10_init_116 : decode prog_12_method_1_code 116 = .ok (.putfield 50, 3) := by decide +kernel
theorem d_X10_init_119 : decode prog_12_method_1_code 119 = .ok (.aload_n 0, 1) := by decide +kernel
theorem d_X10_init_120 : decode prog_12_method_1_code 120 = .ok (.iconst 4, 1) := by decide +kernel
theorem d_X10_init_121 : decode prog_12_method_1_code 121 = .ok (.newarray .int, 2) := by decide +kernel
theorem d_X10_init_123 : decode prog_12_method_1_code 123 = .ok (.dup, 1) := by decide +kernel
theorem d_X10_init_124 : decode prog_12_method_1_code 124 = .ok (.iconst 0, 1) := by decide +kernel
theorem d_X10_init_125 : decode prog_12_method_1_code 125 = .ok (.iconst (-1), 1) := by decide +kernel
theorem d_X10_init_126 : decode prog_12_method_1_code 126 = .ok (.iastore, 1) := by decide +kernel
theorem d_X10_init_127 : decode prog_12_method_1_code 127 = .ok (.dup, 1) := by decide +kernel
theorem d_X10_init_128 : decode prog_12_method_1_code 128 = .ok (.iconst 1, 1) := by decide +kernel
theorem d_X10_init_129 : decode prog_12_method_1_code 129 = .ok (.iconst (-1), 1) := by decide +kernel
theorem d_X10_init_130 : decode prog_12_method_1_code 130 = .ok (.iastore, 1) := by decide +kernel
theorem d_X10_init_131 : decode prog_12_method_1_code 131 = .ok (.dup, 1) := by decide +kernel
theorem d_X10_init_132 : decode prog_12_method_1_code 132 = .ok (.iconst 2, 1) := by decide +kernel
theorem d_X10_init_133 : decode prog_12_method_1_code 133 = .ok (.iconst (-1), 1) := by decide +kernel
theorem d_X10_init_134 : decode prog_12_method_1_code 134 = .ok (.iastore, 1) := by decide +kernel
theorem d_X10_init_135 : decode prog_12_method_1_code 135 = .ok (.dup, 1) := by decide +kernel
theorem d_X10_init_136 : decode prog_12_method_1_code 136 = .ok (.iconst 3, 1) := by decide +kernel
theorem d_X10_init_137 : decode prog_12_method_1_code 137 = .ok (.iconst (-1), 1) := by decide +kernel
theorem d_X10_init_138 : decode prog_12_method_1_code 138 = .ok (.iastore, 1) := by decide +kernel
theorem d_X10_init_139 : decode prog_12_method_1_code 139 = .ok (.putfield 53, 3) := by decide +kernel
theorem d_X10_init_142 : decode prog_12_method_1_code 142 = .ok (.aload_n 0, 1) := by decide +kernel
theorem d_X10_init_143 : decode prog_12_method_1_code 143 = .ok (.iconst 4, 1) := by decide +kernel
theorem d_X10_init_144 : decode prog_12_method_1_code 144 = .ok (.newarray .int, 2) := by decide +kernel
theorem d_X10_init_146 : decode prog_12_method_1_code 146 = .ok (.putfield 56, 3) := by decide +kernel
theorem d_X10_init_149 : decode prog_12_method_1_code 149 = .ok (.aload_n 0, 1) := by decide +kernel
theorem d_X10_init_150 : decode prog_12_method_1_code 150 = .ok (.sipush 160, 3) := by decide +kernel
theorem d_X10_init_153 : decode prog_12_method_1_code 153 = .ok (.newarray .int, 2) := by decide +kernel
theorem d_X10_init_155 : decode prog_12_method_1_code 155 = .ok (.putfield 59, 3) := by decide +kernel
theorem d_X10_init_158 : decode prog_12_method_1_code 158 = .ok (.aload_n 0, 1) := by decide +kernel
theorem d_X10_init_159 : decode prog_12_method_1_code 159 = .ok (.iconst 4, 1) := by decide +kernel
theorem d_X10_init_160 : decode prog_12_method_1_code 160 = .ok (.newarray .int, 2) := by decide +kernel
theorem d_X10_init_162 : decode prog_12_method_1_code 162 = .ok (.putfield 62, 3) := by decide +kernel
theorem d_X10_init_165 : decode prog_12_method_1_code 165 = .ok (.aload_n 0, 1) := by decide +kernel
theorem d_X10_init_166 : decode prog_12_method_1_code 166 = .ok (.iconst 4, 1) := by decide +kernel
theorem d_X10_init_167 : decode prog_12_method_1_code 167 = .ok (.newarray .int, 2) := by decide +kernel
theorem d_X10_init_169 : decode prog_12_method_1_code 169 = .ok (.putfield 65, 3) := by decide +kernel
theorem d_X10_init_172 : decode prog_12_method_1_code 172 = .ok (.aload_n 0, 1) := by decide +kernel
theorem d_X10_init_173 : decode prog_12_method_1_code 173 = .ok (.iconst 4, 1) := by decide +kernel
theorem d_X10_init_174 : decode prog_12_method_1_code 174 = .ok (.newarray .int, 2) := by decide +kernel
theorem d_X10_init_176 : decode prog_12_method_1_code 176 = .ok (.putfield 68, 3) := by decide +kernel
theorem d_X10_init_179 : decode prog_12_method_1_code 179 = .ok (.aload_n 0, 1) := by decide +kernel
theorem d_X10_init_180 : decode prog_12_method_1_code 180 = .ok (.bipush 30, 2) := by decide +kernel
theorem d_X10_init_182 : decode prog_12_method_1_code 182 = .ok (.newarray .int, 2) := by decide +kernel
theorem d_X10_init_184 : decode prog_12_method_1_code 184 = .ok (.putfield 71, 3) := by decide +kernel
theorem d_X10_init_187 : decode prog_12_method_1_code 187 = .ok (.aload_n 0, 1) := by decide +kernel
theorem d_X10_init_188 : decode prog_12_method_1_code 188 = .ok (.getfield 7, 3) := by decide +kernel
theorem d_X10_init_191 : decode prog_12_method_1_code 191 = .ok (.iconst 5, 1) := by decide +kernel
theorem d_X10_init_192 : decode prog_12_method_1_code 192 = .ok (.iconst 1, 1) := by decide +kernel
theorem d_X10_init_193 : decode prog_12_method_1_code 193 = .ok (.iastore, 1) := by decide +kernel
theorem d_X10_init_194 : decode prog_12_method_1_code 194 = .ok (.aload_n 0, 1) := by decide +kernel
theorem d_X10_init_195 : decode prog_12_method_1_code 195 = .ok (.getfield 7, 3) := by decide +kernel
theorem d_X10_init_198 : decode prog_12_method_1_code 198 = .ok (.bipush 8, 2) := by decide +kernel
theorem d_X10_init_200 : decode prog_12_method_1_code 200 = .ok (.iconst 1, 1) := by decide +kernel
theorem d_X10_init_201 : decode prog_12_method_1_code 201 = .ok (.iastore, 1) := by decide +kernel
theorem d_X10_init_202 : decode prog_12_method_1_code 202 = .ok (.return_, 1) := by decide +kernel
theorem d_X10_in_0 : decode prog_12_method_2_code 0 = .ok (.lload_n 0, 1) := by decide +kernel
theorem d_X10_in_1 : decode prog_12_method_2_code 1 = .ok (.lload_n 2, 1) := by decide +kernel
theorem d_X10_in_2 : decode prog_12_method_2_code 2 = .ok (.lcmp, 1) := by decide +kernel
theorem d_X10_in_3 : decode prog_12_method_2_code 3 = .ok (.ifCond .lt 14, 3) := by decide +kernel
theorem d_X10_in_6 : decode prog_12_method_2_code 6 = .ok (.lload_n 0, 1) := by decide +kernel
theorem d_X10_in_7 : decode prog_12_method_2_code 7 = .ok (.lload 4, 2) := by decide +kernel
theorem d_X10_in_9 : decode prog_12_method_2_code 9 = .ok (.lcmp, 1) := by decide +kernel
theorem d_X10_in_10 : decode prog_12_method_2_code 10 = .ok (.ifCond .gt 7, 3) := by decide +kernel
theorem d_X10_in_13 : decode prog_12_method_2_code 13 = .ok (.iconst 1, 1) := by decide +kernel
theorem d_X10_in_14 : decode prog_12_method_2_code 14 = .ok (.goto 4, 3) := by decide +kernel
theorem d_X10_in_17 : decode prog_12_method_2_code 17 = .ok (.iconst 0, 1) := by decide +kernel
theorem d_X10_in_18 : decode prog_12_method_2_code 18 = .ok (.ireturn, 1) := by decide +kernel
theorem d_X10_sizeOf_0 : decode prog_12_method_3_code 0 = .ok (.iload_n 0, 1) := by decide +kernel
theorem d_X10_sizeOf_1 : decode prog_12_method_3_code 1 = .ok (.ifCond .ge 8, 3) := by decide +kernel
theorem d_X10_sizeOf_4 : decode prog_12_method_3_code 4 = .ok (.iload_n 0, 1) := by decide +kernel
theorem d_X10_sizeOf_5 : decode prog_12_method_3_code 5 = .ok (.ineg, 1) := by decide +kernel
theorem d_X10_sizeOf_6 : decode prog_12_method_3_code 6 = .ok (.goto 4, 3) := by decide +kernel
theorem d_X10_sizeOf_9 : decode prog_12_method_3_code 9 = .ok (.iload_n 0, 1) := by decide +kernel
theorem d_X10_sizeOf_10 : decode prog_12_method_3_code 10 = .ok (.ireturn, 1) := by decide +kernel
theorem d_X10_isLens_0 : decode prog_12_method_4_code 0 = .ok (.iload_n 1, 1) := by decide +kernel
theorem d_X10_isLens_1 : decode prog_12_method_4_code 1 = .ok (.i2l, 1) := by decide +kernel
theorem d_X10_isLens_2 : decode prog_12_method_4_code 2 = .ok (.lconst 0, 1) := by decide +kernel
theorem d_X10_isLens_3 : decode prog_12_method_4_code 3 = .ok (.aload_n 0, 1) := by decide +kernel
theorem d_X10_isLens_4 : decode prog_12_method_4_code 4 = .ok (.getfield 7, 3) := by decide +kernel
theorem d_X10_isLens_7 : decode prog_12_method_4_code 7 = .ok (.iconst 0, 1) := by decide +kernel
theorem d_X10_isLens_8 : decode prog_12_method_4_code 8 = .ok (.iaload, 1) := by decide +kernel
theorem d_X10_isLens_9 : decode prog_12_method_4_code 9 = .ok (.iconst 1, 1) := by decide +kernel
theorem d_X10_isLens_10 : decode prog_12_method_4_code 10 = .ok (.isub, 1) := by decide +kernel
theorem d_X10_isLens_11 : decode prog_12_method_4_code 11 = .ok (.i2l, 1) := by decide +kernel
theorem d_X10_isLens_12 : decode prog_12_method_4_code 12 = .ok (.invokestatic 74, 3) := by decide +kernel
theorem d_X10_isLens_15 : decode prog_12_method_4_code 15 = .ok (.ireturn, 1) := by decide +kernel
theorem d_X10_isPlace_0 : decode prog_12_method_5_code 0 = .ok (.iload_n 1, 1) := by decide +kernel
theorem d_X10_isPlace_1 : decode prog_12_method_5_code 1 = .ok (.i2l, 1) := by decide +kernel
theorem d_X10_isPlace_2 : decode prog_12_method_5_code 2 = .ok (.lconst 0, 1) := by decide +kernel
theorem d_X10_isPlace_3 : decode prog_12_method_5_code 3 = .ok (.aload_n 0, 1) := by decide +kernel
theorem d_X10_isPlace_4 : decode prog_12_method_5_code 4 = .ok (.getfield 7, 3) := by decide +kernel
theorem d_X10_isPlace_7 : decode prog_12_method_5_code 7 = .ok (.iconst 2, 1) := by decide +kernel
theorem d_X10_isPlace_8 : decode prog_12_method_5_code 8 = .ok (.iaload, 1) := by decide +kernel
theorem d_X10_isPlace_9 : decode prog_12_method_5_code 9 = .ok (.iconst 1, 1) := by decide +kernel
theorem d_X10_isPlace_10 : decode prog_12_method_5_code 10 = .ok (.isub, 1) := by decide +kernel
theorem d_X10_isPlace_11 : decode prog_12_method_5_code 11 = .ok (.i2l, 1) := by decide +kernel
theorem d_X10_isPlace_12 : decode prog_12_method_5_code 12 = .ok (.invokestatic 74, 3) := by decide +kernel
theorem d_X10_isPlace_15 : decode prog_12_method_5_code 15 = .ok (.ireturn, 1) := by decide +kernel
theorem d_X10_puts_0 : decode prog_12_method_6_code 0 = .ok (.iconst 0, 1) := by decide +kernel
theorem d_X10_puts_1 : decode prog_12_method_6_code 1 = .ok (.istore_n 1, 1) := by decide +kernel
theorem d_X10_puts_2 : decode prog_12_method_6_code 2 = .ok (.iload_n 1, 1) := by decide +kernel
theorem d_X10_puts_3 : decode prog_12_method_6_code 3 = .ok (.sipush 300, 3) := by decide +kernel
theorem d_X10_puts_6 : decode prog_12_method_6_code 6 = .ok (.if_icmp .ge 21, 3) := by decide +kernel
theorem d_X10_puts_9 : decode prog_12_method_6_code 9 = .ok (.aload_n 0, 1) := by decide +kernel
theorem d_X10_puts_10 : decode prog_12_method_6_code 10 = .ok (.getfield 16, 3) := by decide +kernel
theorem d_X10_puts_13 : decode prog_12_method_6_code 13 = .ok (.iload_n 1, 1) := by decide +kernel
theorem d_X10_puts_14 : decode prog_12_method_6_code 14 = .ok (.aload_n 0, 1) := by decide +kernel
theorem d_X10_puts_15 : decode prog_12_method_6_code 15 = .ok (.getfield 7, 3) := by decide +kernel
theorem d_X10_puts_18 : decode prog_12_method_6_code 18 = .ok (.iload_n 1, 1) := by decide +kernel
theorem d_X10_puts_19 : decode prog_12_method_6_code 19 = .ok (.iaload, 1) := by decide +kernel
theorem d_X10_puts_20 : decode prog_12_method_6_code 20 = .ok (.iastore, 1) := by decide +kernel
theorem d_X10_puts_21 : decode prog_12_method_6_code 21 = .ok (.iinc 1 1, 3) := by decide +kernel
theorem d_X10_puts_24 : decode prog_12_method_6_code 24 = .ok (.goto (-22), 3) := by decide +kernel
theorem d_X10_puts_27 : decode prog_12_method_6_code 27 = .ok (.return_, 1) := by decide +kernel
theorem d_X10_putsBack_0 : decode prog_12_method_7_code 0 = .ok (.iconst 0, 1) := by decide +kernel
theorem d_X10_putsBack_1 : decode prog_12_method_7_code 1 = .ok (.istore_n 1, 1) := by decide +kernel
theorem d_X10_putsBack_2 : decode prog_12_method_7_code 2 = .ok (.iload_n 1, 1) := by decide +kernel
theorem d_X10_putsBack_3 : decode prog_12_method_7_code 3 = .ok (.sipush 300, 3) := by decide +kernel
theorem d_X10_putsBack_6 : decode prog_12_method_7_code 6 = .ok (.if_icmp .ge 21, 3) := by decide +kernel
theorem d_X10_putsBack_9 : decode prog_12_method_7_code 9 = .ok (.aload_n 0, 1) := by decide +kernel
theorem d_X10_putsBack_10 : decode prog_12_method_7_code 10 = .ok (.getfield 7, 3) := by decide +kernel
theorem d_X10_putsBack_13 : decode prog_12_method_7_code 13 = .ok (.iload_n 1, 1) := by decide +kernel
theorem d_X10_putsBack_14 : decode prog_12_method_7_code 14 = .ok (.aload_n 0, 1) := by decide +kernel
theorem d_X10_putsBack_15 : decode prog_12_method_7_code 15 = .ok (.getfield 16, 3) := by decide +kernel
theorem d_X10_putsBack_18 : decode prog_12_method_7_code 18 = .ok (.iload_n 1, 1) := by decide +kernel
theorem d_X10_putsBack_19 : decode prog_12_method_7_code 19 = .ok (.iaload, 1) := by decide +kernel
theorem d_X10_putsBack_20 : decode prog_12_method_7_code 20 = .ok (.iastore, 1) := by decide +kernel
theorem d_X10_putsBack_21 : decode prog_12_method_7_code 21 = .ok (.iinc 1 1, 3) := by decide +kernel
theorem d_X10_putsBack_24 : decode prog_12_method_7_code 24 = .ok (.goto (-22), 3) := by decide +kernel
theorem d_X10_putsBack_27 : decode prog_12_method_7_code 27 = .ok (.return_, 1) := by decide +kernel
theorem d_X10_becomes_0 : decode prog_12_method_8_code 0 = .ok (.aload_n 0, 1) := by decide +kernel
theorem d_X10_becomes_1 : decode prog_12_method_8_code 1 = .ok (.getfield 7, 3) := by decide +kernel
theorem d_X10_becomes_4 : decode prog_12_method_8_code 4 = .ok (.iload_n 1, 1) := by decide +kernel
theorem d_X10_becomes_5 : decode prog_12_method_8_code 5 = .ok (.iaload, 1) := by decide +kernel
theorem d_X10_becomes_6 : decode prog_12_method_8_code 6 = .ok (.istore_n 3, 1) := by decide +kernel
theorem d_X10_becomes_7 : decode prog_12_method_8_code 7 = .ok (.aload_n 0, 1) := by decide +kernel
theorem d_X10_becomes_8 : decode prog_12_method_8_code 8 = .ok (.getfield 7, 3) := by decide +kernel
theorem d_X10_becomes_11 : decode prog_12_method_8_code 11 = .ok (.iload_n 1, 1) := by decide +kernel
theorem d_X10_becomes_12 : decode prog_12_method_8_code 12 = .ok (.iload_n 2, 1) := by decide +kernel
theorem d_X10_becomes_13 : decode prog_12_method_8_code 13 = .ok (.iastore, 1) := by decide +kernel
theorem d_X10_becomes_14 : decode prog_12_method_8_code 14 = .ok (.iload_n 3, 1) := by decide +kernel
theorem d_X10_becomes_15 : decode prog_12_method_8_code 15 = .ok (.iload_n 2, 1) := by decide +kernel
theorem d_X10_becomes_16 : decode prog_12_method_8_code 16 = .ok (.if_icmp .ne 7, 3) := by decide +kernel
theorem d_X10_becomes_19 : decode prog_12_method_8_code 19 = .ok (.iconst 0, 1) := by decide +kernel
theorem d_X10_becomes_20 : decode prog_12_method_8_code 20 = .ok (.goto 4, 3) := by decide +kernel
theorem d_X10_becomes_23 : decode prog_12_method_8_code 23 = .ok (.iconst 1, 1) := by decide +kernel
theorem d_X10_becomes_24 : decode prog_12_method_8_code 24 = .ok (.ireturn, 1) := by decide +kernel
theorem d_X10_at_0 : decode prog_12_method_9_code 0 = .ok (.bipush 9, 2) := by decide +kernel
theorem d_X10_at_2 : decode prog_12_method_9_code 2 = .ok (.iconst 4, 1) := by decide +kernel
theorem d_X10_at_3 : decode prog_12_method_9_code 3 = .ok (.iload_n 0, 1) := by decide +kernel
theorem d_X10_at_4 : decode prog_12_method_9_code 4 = .ok (.imul, 1) := by decide +kernel
theorem d_X10_at_5 : decode prog_12_method_9_code 5 = .ok (.iadd, 1) := by decide +kernel
theorem d_X10_at_6 : decode prog_12_method_9_code 6 = .ok (.iload_n 1, 1) := by decide +kernel
theorem d_X10_at_7 : decode prog_12_method_9_code 7 = .ok (.iadd, 1) := by decide +kernel
theorem d_X10_at_8 : decode prog_12_method_9_code 8 = .ok (.ireturn, 1) := by decide +kernel
theorem d_X10_its_0 : decode prog_12_method_10_code 0 = .ok (.aload_n 0, 1) := by decide +kernel
theorem d_X10_its_1 : decode prog_12_method_10_code 1 = .ok (.getfield 7, 3) := by decide +kernel
theorem d_X10_its_4 : decode prog_12_method_10_code 4 = .ok (.iload_n 1, 1) := by decide +kernel
theorem d_X10_its_5 : decode prog_12_method_10_code 5 = .ok (.iload_n 2, 1) := by decide +kernel
theorem d_X10_its_6 : decode prog_12_method_10_code 6 = .ok (.invokestatic 78, 3) := by decide +kernel
theorem d_X10_its_9 : decode prog_12_method_10_code 9 = .ok (.iaload, 1) := by decide +kernel
theorem d_X10_its_10 : decode prog_12_method_10_code 10 = .ok (.ireturn, 1) := by decide +kernel
theorem d_X10_isKind_0 : decode prog_12_method_11_code 0 = .ok (.iload_n 0, 1) := by decide +kernel
theorem d_X10_isKind_1 : decode prog_12_method_11_code 1 = .ok (.i2l, 1) := by decide +kernel
theorem d_X10_isKind_2 : decode prog_12_method_11_code 2 = .ok (.lconst 1, 1) := by decide +kernel
theorem d_X10_isKind_3 : decode prog_12_method_11_code 3 = .ok (.ldc2_w 82, 3) := by decide +kernel
theorem d_X10_isKind_6 : decode prog_12_method_11_code 6 = .ok (.invokestatic 74, 3) := by decide +kernel
theorem d_X10_isKind_9 : decode prog_12_method_11_code 9 = .ok (.ireturn, 1) := by decide +kernel
theorem d_X10_isPart_0 : decode prog_12_method_12_code 0 = .ok (.iload_n 0, 1) := by decide +kernel
theorem d_X10_isPart_1 : decode prog_12_method_12_code 1 = .ok (.iconst 1, 1) := by decide +kernel
theorem d_X10_isPart_2 : decode prog_12_method_12_code 2 = .ok (.if_icmp .eq 8, 3) := by decide +kernel
theorem d_X10_isPart_5 : decode prog_12_method_12_code 5 = .ok (.iload_n 0, 1) := by decide +kernel
theorem d_X10_isPart_6 : decode prog_12_method_12_code 6 = .ok (.iconst 2, 1) := by decide +kernel
theorem d_X10_isPart_7 : decode prog_12_method_12_code 7 = .ok (.if_icmp .ne 17, 3) := by decide +kernel
theorem d_X10_isPart_10 : decode prog_12_method_12_code 10 = .ok (.iload_n 1, 1) := by decide +kernel
theorem d_X10_isPart_11 : decode prog_12_method_12_code 11 = .ok (.i2l, 1) := by decide +kernel
theorem d_X10_isPart_12 : decode prog_12_method_12_code 12 = .ok (.ldc2_w 84, 3) := by decide +kernel
theorem d_X10_isPart_15 : decode prog_12_method_12_code 15 = .ok (.ldc2_w 86, 3) := by decide +kernel
theorem d_X10_isPart_18 : decode prog_12_method_12_code 18 = .ok (.invokestatic 74, 3) := by decide +kernel
theorem d_X10_isPart_21 : decode prog_12_method_12_code 21 = .ok (.ifCond .ne 20, 3) := by decide +kernel
theorem d_X10_isPart_24 : decode prog_12_method_12_code 24 = .ok (.iload_n 0, 1) := by decide +kernel
theorem d_X10_isPart_25 : decode prog_12_method_12_code 25 = .ok (.iconst 3, 1) := by decide +kernel
theorem d_X10_isPart_26 : decode prog_12_method_12_code 26 = .ok (.if_icmp .ne 19, 3) := by decide +kernel
theorem d_X10_isPart_29 : decode prog_12_method_12_code 29 = .ok (.iload_n 1, 1) := by decide +kernel
theorem d_X10_isPart_30 : decode prog_12_method_12_code 30 = .ok (.i2l, 1) := by decide +kernel
theorem d_X10_isPart_31 : decode prog_12_method_12_code 31 = .ok (.lconst 1, 1) := by decide +kernel
theorem d_X10_isPart_32 : decode prog_12_method_12_code 32 = .ok (.ldc2_w 88, 3) := by decide +kernel
theorem d_X10_isPart_35 : decode prog_12_method_12_code 35 = .ok (.invokestatic 74, 3) := by decide +kernel
theorem d_X10_isPart_38 : decode prog_12_method_12_code 38 = .ok (.ifCond .eq 7, 3) := by decide +kernel
theorem d_X10_isPart_41 : decode prog_12_method_12_code 41 = .ok (.iconst 1, 1) := by decide +kernel
theorem d_X10_isPart_42 : decode prog_12_method_12_code 42 = .ok (.goto 4, 3) := by decide +kernel
theorem d_X10_isPart_45 : decode prog_12_method_12_code 45 = .ok (.iconst 0, 1) := by decide +kernel
theorem d_X10_isPart_46 : decode prog_12_method_12_code 46 = .ok (.ireturn, 1) := by decide +kernel
theorem d_X10_lens_0 : decode prog_12_method_13_code 0 = .ok (.iload_n 1, 1) := by decide +kernel
theorem d_X10_lens_1 : decode prog_12_method_13_code 1 = .ok (.invokestatic 90, 3) := by decide +kernel
theorem d_X10_lens_4 : decode prog_12_method_13_code 4 = .ok (.ifCond .eq 28, 3) := by decide +kernel
theorem d_X10_lens_7 : decode prog_12_method_13_code 7 = .ok (.iconst 1, 1) := by decide +kernel
theorem d_X10_lens_8 : decode prog_12_method_13_code 8 = .ok (.iload_n 2, 1) := by decide +kernel
theorem d_X10_lens_9 : decode prog_12_method_13_code 9 = .ok (.invokestatic 94, 3) := by decide +kernel
theorem d_X10_lens_12 : decode prog_12_method_13_code 12 = .ok (.ifCond .eq 20, 3) := by decide +kernel
theorem d_X10_lens_15 : decode prog_12_method_13_code 15 = .ok (.iconst 2, 1) := by decide +kernel
theorem d_X10_lens_16 : decode prog_12_method_13_code 16 = .ok (.iload_n 3, 1) := by decide +kernel
theorem d_X10_lens_17 : decode prog_12_method_13_code 17 = .ok (.invokestatic 94, 3) := by decide +kernel
theorem d_X10_lens_20 : decode prog_12_method_13_code 20 = .ok (.ifCond .eq 12, 3) := by decide +kernel
theorem d_X10_lens_23 : decode prog_12_method_13_code 23 = .ok (.iconst 3, 1) := by decide +kernel
theorem d_X10_lens_24 : decode prog_12_method_13_code 24 = .ok (.iload 4, 2) := by decide +kernel
theorem d_X10_lens_26 : decode prog_12_method_13_code 26 = .ok (.invokestatic 94, 3) := by decide +kernel
theorem d_X10_lens_29 : decode prog_12_method_13_code 29 = .ok (.ifCond .ne 5, 3) := by decide +kernel
theorem d_X10_lens_32 : decode prog_12_method_13_code 32 = .ok (.iconst (-1), 1) := by decide +kernel
theorem d_X10_lens_33 : decode prog_12_method_13_code 33 = .ok (.ireturn, 1) := by decide +kernel
theorem d_X10_lens_34 : decode prog_12_method_13_code 34 = .ok (.aload_n 0, 1) := by decide +kernel
theorem d_X10_lens_35 : decode prog_12_method_13_code 35 = .ok (.getfield 7, 3) := by decide +kernel
theorem d_X10_lens_38 : decode prog_12_method_13_code 38 = .ok (.iconst 0, 1) := by decide +kernel
theorem d_X10_lens_39 : decode prog_12_method_13_code 39 = .ok (.iaload, 1) := by decide +kernel
theorem d_X10_lens_40 : decode prog_12_method_13_code 40 = .ok (.bipush 9, 2) := by decide +kernel
theorem d_X10_lens_42 : decode prog_12_method_13_code 42 = .ok (.if_icmp .ne 6, 3) := by decide +kernel
theorem d_X10_lens_45 : decode prog_12_method_13_code 45 = .ok (.bipush (-2), 2) := by decide +kernel
theorem d_X10_lens_47 : decode prog_12_method_13_code 47 = .ok (.ireturn, 1) := by decide +kernel
theorem d_X10_lens_48 : decode prog_12_method_13_code 48 = .ok (.aload_n 0, 1) := by decide +kernel
theorem d_X10_lens_49 : decode prog_12_method_13_code 49 = .ok (.getfield 7, 3) := by decide +kernel
theorem d_X10_lens_52 : decode prog_12_method_13_code 52 = .ok (.iconst 0, 1) := by decide +kernel
theorem d_X10_lens_53 : decode prog_12_method_13_code 53 = .ok (.iaload, 1) := by decide +kernel
theorem d_X10_lens_54 : decode prog_12_method_13_code 54 = .ok (.istore 5, 2) := by decide +kernel
theorem d_X10_lens_56 : decode prog_12_method_13_code 56 = .ok (.aload_n 0, 1) := by decide +kernel
theorem d_X10_lens_57 : decode prog_12_method_13_code 57 = .ok (.getfield 7, 3) := by decide +kernel
theorem d_X10_lens_60 : decode prog_12_method_13_code 60 = .ok (.iload 5, 2) := by decide +kernel
theorem d_X10_lens_62 : decode prog_12_method_13_code 62 = .ok (.iconst 0, 1) := by decide +kernel
theorem d_X10_lens_63 : decode prog_12_method_13_code 63 = .ok (.invokestatic 78, 3) := by decide +kernel
theorem d_X10_lens_66 : decode prog_12_method_13_code 66 = .ok (.iload_n 1, 1) := by decide +kernel
theorem d_X10_lens_67 : decode prog_12_method_13_code 67 = .ok (.iastore, 1) := by decide +kernel
theorem d_X10_lens_68 : decode prog_12_method_13_code 68 = .ok (.aload_n 0, 1) := by decide +kernel
theorem d_X10_lens_69 : decode prog_12_method_13_code 69 = .ok (.getfield 7, 3) := by decide +kernel
theorem d_X10_lens_72 : decode prog_12_method_13_code 72 = .ok (.iload 5, 2) := by decide +kernel
theorem d_X10_lens_74 : decode prog_12_method_13_code 74 = .ok (.iconst 1, 1) := by decide +kernel
theorem d_X10_lens_75 : decode prog_12_method_13_code 75 = .ok (.invokestatic 78, 3) := by decide +kernel
theorem d_X10_lens_78 : decode prog_12_method_13_code 78 = .ok (.iload_n 2, 1) := by decide +kernel
theorem d_X10_lens_79 : decode prog_12_method_13_code 79 = .ok (.iastore, 1) := by decide +kernel
theorem d_X10_lens_80 : decode prog_12_method_13_code 80 = .ok (.aload_n 0, 1) := by decide +kernel
theorem d_X10_lens_81 : decode prog_12_method_13_code 81 = .ok (.getfield 7, 3) := by decide +kernel
theorem d_X10_lens_84 : decode prog_12_method_13_code 84 = .ok (.iload 5, 2) := by decide +kernel
theorem d_X10_lens_86 : decode prog_12_method_13_code 86 = .ok (.iconst 2, 1) := by decide +kernel
theorem d_X10_lens_87 : decode prog_12_method_13_code 87 = .ok (.invokestatic 78, 3) := by decide +kernel
theorem d_X10_lens_90 : decode prog_12_method_13_code 90 = .ok (.iload_n 3, 1) := by decide +kernel
theorem d_X10_lens_91 : decode prog_12_method_13_code 91 = .ok (.iastore, 1) := by decide +kernel
theorem d_X10_lens_92 : decode prog_12_method_13_code 92 = .ok (.aload_n 0, 1) := by decide +kernel
theorem d_X10_lens_93 : decode prog_12_method_13_code 93 = .ok (.getfield 7, 3) := by decide +kernel
theorem d_X10_lens_96 : decode prog_12_method_13_code 96 = .ok (.iload 5, 2) := by decide +kernel
theorem d_X10_lens_98 : decode prog_12_method_13_code 98 = .ok (.iconst 3, 1) := by decide +kernel
theorem d_X10_lens_99 : decode prog_12_method_13_code 99 = .ok (.invokestatic 78, 3) := by decide +kernel
theorem d_X10_lens_102 : decode prog_12_method_13_code 102 = .ok (.iload 4, 2) := by decide +kernel
theorem d_X10_lens_104 : decode prog_12_method_13_code 104 = .ok (.iastore, 1) := by decide +kernel
theorem d_X10_lens_105 : decode prog_12_method_13_code 105 = .ok (.aload_n 0, 1) := by decide +kernel
theorem d_X10_lens_106 : decode prog_12_method_13_code 106 = .ok (.getfield 7, 3) := by decide +kernel
theorem d_X10_lens_109 : decode prog_12_method_13_code 109 = .ok (.iconst 0, 1) := by decide +kernel
theorem d_X10_lens_110 : decode prog_12_method_13_code 110 = .ok (.dup2, 1) := by decide +kernel
theorem d_X10_lens_111 : decode prog_12_method_13_code 111 = .ok (.iaload, 1) := by decide +kernel
theorem d_X10_lens_112 : decode prog_12_method_13_code 112 = .ok (.iconst 1, 1) := by decide +kernel
theorem d_X10_lens_113 : decode prog_12_method_13_code 113 = .ok (.iadd, 1) := by decide +kernel
theorem d_X10_lens_114 : decode prog_12_method_13_code 114 = .ok (.iastore, 1) := by decide +kernel
theorem d_X10_lens_115 : decode prog_12_method_13_code 115 = .ok (.iload 5, 2) := by decide +kernel
theorem d_X10_lens_117 : decode prog_12_method_13_code 117 = .ok (.ireturn, 1) := by decide +kernel
theorem d_X10_isUnder_0 : decode prog_12_method_14_code 0 = .ok (.iload_n 1, 1) := by decide +kernel
theorem d_X10_isUnder_1 : decode prog_12_method_14_code 1 = .ok (.ifCond .eq 28, 3) := by decide +kernel
theorem d_X10_isUnder_4 : decode prog_12_method_14_code 4 = .ok (.iload_n 0, 1) := by decide +kernel
theorem d_X10_isUnder_5 : decode prog_12_method_14_code 5 = .ok (.iload_n 1, 1) := by decide +kernel
theorem d_X10_isUnder_6 : decode prog_12_method_14_code 6 = .ok (.if_icmp .eq 23, 3) := by decide +kernel
theorem d_X10_isUnder_9 : decode prog_12_method_14_code 9 = .ok (.iload_n 1, 1) := by decide +kernel
theorem d_X10_isUnder_10 : decode prog_12_method_14_code 10 = .ok (.iconst 2, 1) := by decide +kernel
theorem d_X10_isUnder_11 : decode prog_12_method_14_code 11 = .ok (.if_icmp .ne 8, 3) := by decide +kernel
theorem d_X10_isUnder_14 : decode prog_12_method_14_code 14 = .ok (.iload_n 0, 1) := by decide +kernel
theorem d_X10_isUnder_15 : decode prog_12_method_14_code 15 = .ok (.iconst 3, 1) := by decide +kernel
theorem d_X10_isUnder_16 : decode prog_12_method_14_code 16 = .ok (.if_icmp .eq 13, 3) := by decide +kernel
theorem d_X10_isUnder_19 : decode prog_12_method_14_code 19 = .ok (.iload_n 1, 1) := by decide +kernel
theorem d_X10_isUnder_20 : decode prog_12_method_14_code 20 = .ok (.iconst 4, 1) := by decide +kernel
theorem d_X10_isUnder_21 : decode prog_12_method_14_code 21 = .ok (.if_icmp .ne 12, 3) := by decide +kernel
theorem d_X10_isUnder_24 : decode prog_12_method_14_code 24 = .ok (.iload_n 0, 1) := by decide +kernel
theorem d_X10_isUnder_25 : decode prog_12_method_14_code 25 = .ok (.iconst 5, 1) := by decide +kernel
theorem d_X10_isUnder_26 : decode prog_12_method_14_code 26 = .ok (.if_icmp .ne 7, 3) := by decide +kernel
theorem d_X10_isUnder_29 : decode prog_12_method_14_code 29 = .ok (.iconst 1, 1) := by decide +kernel
theorem d_X10_isUnder_30 : decode prog_12_method_14_code 30 = .ok (.goto 4, 3) := by decide +kernel
theorem d_X10_isUnder_33 : decode prog_12_method_14_code 33 = .ok (.iconst 0, 1) := by decide +kernel
theorem d_X10_isUnder_34 : decode prog_12_method_14_code 34 = .ok (.ireturn, 1) := by decide +kernel
theorem d_X10_fact_0 : decode prog_12_method_15_code 0 = .ok (.iload_n 1, 1) := by decide +kernel
theorem d_X10_fact_1 : decode prog_12_method_15_code 1 = .ok (.tableswitch 66 (-5) (-1) #[64, 57, 49, 42, 35], 35) := by decide +kernel
theorem d_X10_fact_36 : decode prog_12_method_15_code 36 = .ok (.aload_n 0, 1) := by decide +kernel
theorem d_X10_fact_37 : decode prog_12_method_15_code 37 = .ok (.getfield 7, 3) := by decide +kernel
theorem d_X10_fact_40 : decode prog_12_method_15_code 40 = .ok (.iconst 4, 1) := by decide +kernel
theorem d_X10_fact_41 : decode prog_12_method_15_code 41 = .ok (.iaload, 1) := by decide +kernel
theorem d_X10_fact_42 : decode prog_12_method_15_code 42 = .ok (.ireturn, 1) := by decide +kernel
theorem d_X10_fact_43 : decode prog_12_method_15_code 43 = .ok (.aload_n 0, 1) := by decide +kernel
theorem d_X10_fact_44 : decode prog_12_method_15_code 44 = .ok (.getfield 7, 3) := by decide +kernel
theorem d_X10_fact_47 : decode prog_12_method_15_code 47 = .ok (.iconst 5, 1) := by decide +kernel
theorem d_X10_fact_48 : decode prog_12_method_15_code 48 = .ok (.iaload, 1) := by decide +kernel
theorem d_X10_fact_49 : decode prog_12_method_15_code 49 = .ok (.ireturn, 1) := by decide +kernel
theorem d_X10_fact_50 : decode prog_12_method_15_code 50 = .ok (.aload_n 0, 1) := by decide +kernel
theorem d_X10_fact_51 : decode prog_12_method_15_code 51 = .ok (.getfield 7, 3) := by decide +kernel
theorem d_X10_fact_54 : decode prog_12_method_15_code 54 = .ok (.bipush 6, 2) := by decide +kernel
theorem d_X10_fact_56 : decode prog_12_method_15_code 56 = .ok (.iaload, 1) := by decide +kernel
theorem d_X10_fact_57 : decode prog_12_method_15_code 57 = .ok (.ireturn, 1) := by decide +kernel
theorem d_X10_fact_58 : decode prog_12_method_15_code 58 = .ok (.aload_n 0, 1) := by decide +kernel
theorem d_X10_fact_59 : decode prog_12_method_15_code 59 = .ok (.iload_n 2, 1) := by decide +kernel
theorem d_X10_fact_60 : decode prog_12_method_15_code 60 = .ok (.iconst 1, 1) := by decide +kernel
theorem d_X10_fact_61 : decode prog_12_method_15_code 61 = .ok (.invokevirtual 98, 3) := by decide +kernel
theorem d_X10_fact_64 : decode prog_12_method_15_code 64 = .ok (.ireturn, 1) := by decide +kernel
theorem d_X10_fact_65 : decode prog_12_method_15_code 65 = .ok (.iload_n 2, 1) := by decide +kernel
theorem d_X10_fact_66 : decode prog_12_method_15_code 66 = .ok (.ireturn, 1) := by decide +kernel
theorem d_X10_fact_67 : decode prog_12_method_15_code 67 = .ok (.iload_n 1, 1) := by decide +kernel
theorem d_X10_fact_68 : decode prog_12_method_15_code 68 = .ok (.ireturn, 1) := by decide +kernel
theorem d_X10_isHolding_0 : decode prog_12_method_16_code 0 = .ok (.iload_n 0, 1) := by decide +kernel
theorem d_X10_isHolding_1 : decode prog_12_method_16_code 1 = .ok (.lookupswitch 92 #[(-21, 76), (-13, 65), (-12, 54), (-11, 43)], 43) := by decide +kernel
theorem d_X10_isHolding_44 : decode prog_12_method_16_code 44 = .ok (.iload_n 1, 1) := by decide +kernel
theorem d_X10_isHolding_45 : decode prog_12_method_16_code 45 = .ok (.iload_n 2, 1) := by decide +kernel
theorem d_X10_isHolding_46 : decode prog_12_method_16_code 46 = .ok (.if_icmp .ge 7, 3) := by decide +kernel
theorem d_X10_isHolding_49 : decode prog_12_method_16_code 49 = .ok (.iconst 1, 1) := by decide +kernel
theorem d_X10_isHolding_50 : decode prog_12_method_16_code 50 = .ok (.goto 4, 3) := by decide +kernel
theorem d_X10_isHolding_53 : decode prog_12_method_16_code 53 = .ok (.iconst 0, 1) := by decide +kernel
theorem d_X10_isHolding_54 : decode prog_12_method_16_code 54 = .ok (.ireturn, 1) := by decide +kernel
theorem d_X10_isHolding_55 : decode prog_12_method_16_code 55 = .ok (.iload_n 1, 1) := by decide +kernel
theorem d_X10_isHolding_56 : decode prog_12_method_16_code 56 = .ok (.iload_n 2, 1) := by decide +kernel
theorem d_X10_isHolding_57 : decode prog_12_method_16_code 57 = .ok (.if_icmp .ne 7, 3) := by decide +kernel
theorem d_X10_isHolding_60 : decode prog_12_method_16_code 60 = .ok (.iconst 1, 1) := by decide +kernel
theorem d_X10_isHolding_61 : decode prog_12_method_16_code 61 = .ok (.goto 4, 3) := by decide +kernel
theorem d_X10_isHolding_64 : decode prog_12_method_16_code 64 = .ok (.iconst 0, 1) := by decide +kernel
theorem d_X10_isHolding_65 : decode prog_12_method_16_code 65 = .ok (.ireturn, 1) := by decide +kernel
theorem d_X10_isHolding_66 : decode prog_12_method_16_code 66 = .ok (.iload_n 1, 1) := by decide +kernel
theorem d_X10_isHolding_67 : decode prog_12_method_16_code 67 = .ok (.iload_n 2, 1) := by decide +kernel
theorem d_X10_isHolding_68 : decode prog_12_method_16_code 68 = .ok (.if_icmp .le 7, 3) := by decide +kernel
theorem d_X10_isHolding_71 : decode prog_12_method_16_code 71 = .ok (.iconst 1, 1) := by decide +kernel
theorem d_X10_isHolding_72 : decode prog_12_method_16_code 72 = .ok (.goto 4, 3) := by decide +kernel
theorem d_X10_isHolding_75 : decode prog_12_method_16_code 75 = .ok (.iconst 0, 1) := by decide +kernel
theorem d_X10_isHolding_76 : decode prog_12_method_16_code 76 = .ok (.ireturn, 1) := by decide +kernel
theorem d_X10_isHolding_77 : decode prog_12_method_16_code 77 = .ok (.iload_n 1, 1) := by decide +kernel
theorem d_X10_isHolding_78 : decode prog_12_method_16_code 78 = .ok (.iconst 1, 1) := by decide +kernel
theorem d_X10_isHolding_79 : decode prog_12_method_16_code 79 = .ok (.if_icmp .ne 12, 3) := by decide +kernel
theorem d_X10_isHolding_82 : decode prog_12_method_16_code 82 = .ok (.iload_n 2, 1) := by decide +kernel
theorem d_X10_isHolding_83 : decode prog_12_method_16_code 83 = .ok (.iconst 1, 1) := by decide +kernel
theorem d_X10_isHolding_84 : decode prog_12_method_16_code 84 = .ok (.if_icmp .ne 7, 3) := by decide +kernel
theorem d_X10_isHolding_87 : decode prog_12_method_16_code 87 = .ok (.iconst 1, 1) := by decide +kernel
theorem d_X10_isHolding_88 : decode prog_12_method_16_code 88 = .ok (.goto 4, 3) := by decide +kernel
theorem d_X10_isHolding_91 : decode prog_12_method_16_code 91 = .ok (.iconst 0, 1) := by decide +kernel
theorem d_X10_isHolding_92 : decode prog_12_method_16_code 92 = .ok (.ireturn, 1) := by decide +kernel
theorem d_X10_isHolding_93 : decode prog_12_method_16_code 93 = .ok (.iload_n 1, 1) := by decide +kernel
theorem d_X10_isHolding_94 : decode prog_12_method_16_code 94 = .ok (.iconst 1, 1) := by decide +kernel
theorem d_X10_isHolding_95 : decode prog_12_method_16_code 95 = .ok (.if_icmp .eq 8, 3) := by decide +kernel
theorem d_X10_isHolding_98 : decode prog_12_method_16_code 98 = .ok (.iload_n 2, 1) := by decide +kernel
theorem d_X10_isHolding_99 : decode prog_12_method_16_code 99 = .ok (.iconst 1, 1) := by decide +kernel
theorem d_X10_isHolding_100 : decode prog_12_method_16_code 100 = .ok (.if_icmp .ne 7, 3) := by decide +kernel
theorem d_X10_isHolding_103 : decode prog_12_method_16_code 103 = .ok (.iconst 1, 1) := by decide +kernel
theorem d_X10_isHolding_104 : decode prog_12_method_16_code 104 = .ok (.goto 4, 3) := by decide +kernel
theorem d_X10_isHolding_107 : decode prog_12_method_16_code 107 = .ok (.iconst 0, 1) := by decide +kernel
theorem d_X10_isHolding_108 : decode prog_12_method_16_code 108 = .ok (.ireturn, 1) := by decide +kernel
theorem d_X10_isSo_0 : decode prog_12_method_17_code 0 = .ok (.iconst 0, 1) := by decide +kernel
theorem d_X10_isSo_1 : decode prog_12_method_17_code 1 = .ok (.istore 4, 2) := by decide +kernel
theorem d_X10_isSo_3 : decode prog_12_method_17_code 3 = .ok (.iload_n 1, 1) := by decide +kernel
theorem d_X10_isSo_4 : decode prog_12_method_17_code 4 = .ok (.istore 5, 2) := by decide +kernel
theorem d_X10_isSo_6 : decode prog_12_method_17_code 6 = .ok (.iload 5, 2) := by decide +kernel
theorem d_X10_isSo_8 : decode prog_12_method_17_code 8 = .ok (.iload_n 2, 1) := by decide +kernel
theorem d_X10_isSo_9 : decode prog_12_method_17_code 9 = .ok (.if_icmp .ge 119, 3) := by decide +kernel
theorem d_X10_isSo_12 : decode prog_12_method_17_code 12 = .ok (.aload_n 0, 1) := by decide +kernel
theorem d_X10_isSo_13 : decode prog_12_method_17_code 13 = .ok (.getfield 7, 3) := by decide +kernel
theorem d_X10_isSo_16 : decode prog_12_method_17_code 16 = .ok (.bipush 97, 2) := by decide +kernel
theorem d_X10_isSo_18 : decode prog_12_method_17_code 18 = .ok (.iload 5, 2) := by decide +kernel
theorem d_X10_isSo_20 : decode prog_12_method_17_code 20 = .ok (.iadd, 1) := by decide +kernel
theorem d_X10_isSo_21 : decode prog_12_method_17_code 21 = .ok (.iaload, 1) := by decide +kernel
theorem d_X10_isSo_22 : decode prog_12_method_17_code 22 = .ok (.istore 6, 2) := by decide +kernel
theorem d_X10_isSo_24 : decode prog_12_method_17_code 24 = .ok (.iload 6, 2) := by decide +kernel
theorem d_X10_isSo_26 : decode prog_12_method_17_code 26 = .ok (.bipush (-10), 2) := by decide +kernel
theorem d_X10_isSo_28 : decode prog_12_method_17_code 28 = .ok (.if_icmp .le 23, 3) := by decide +kernel
theorem d_X10_isSo_31 : decode prog_12_method_17_code 31 = .ok (.aload_n 0, 1) := by decide +kernel
theorem d_X10_isSo_32 : decode prog_12_method_17_code 32 = .ok (.getfield 19, 3) := by decide +kernel
theorem d_X10_isSo_35 : decode prog_12_method_17_code 35 = .ok (.iload 4, 2) := by decide +kernel
theorem d_X10_isSo_37 : decode prog_12_method_17_code 37 = .ok (.aload_n 0, 1) := by decide +kernel
theorem d_X10_isSo_38 : decode prog_12_method_17_code 38 = .ok (.iload 6, 2) := by decide +kernel
theorem d_X10_isSo_40 : decode prog_12_method_17_code 40 = .ok (.iload_n 3, 1) := by decide +kernel
theorem d_X10_isSo_41 : decode prog_12_method_17_code 41 = .ok (.invokevirtual 101, 3) := by decide +kernel
theorem d_X10_isSo_44 : decode prog_12_method_17_code 44 = .ok (.iastore, 1) := by decide +kernel
theorem d_X10_isSo_45 : decode prog_12_method_17_code 45 = .ok (.iinc 4 1, 3) := by decide +kernel
theorem d_X10_isSo_48 : decode prog_12_method_17_code 48 = .ok (.goto 74, 3) := by decide +kernel
theorem d_X10_isSo_51 : decode prog_12_method_17_code 51 = .ok (.iload 6, 2) := by decide +kernel
theorem d_X10_isSo_53 : decode prog_12_method_17_code 53 = .ok (.bipush (-20), 2) := by decide +kernel
theorem d_X10_isSo_55 : decode prog_12_method_17_code 55 = .ok (.if_icmp .ne 26, 3) := by decide +kernel
theorem d_X10_isSo_58 : decode prog_12_method_17_code 58 = .ok (.aload_n 0, 1) := by decide +kernel
theorem d_X10_isSo_59 : decode prog_12_method_17_code 59 = .ok (.getfield 19, 3) := by decide +kernel
theorem d_X10_isSo_62 : decode prog_12_method_17_code 62 = .ok (.iload 4, 2) := by decide +kernel
theorem d_X10_isSo_64 : decode prog_12_method_17_code 64 = .ok (.iconst 1, 1) := by decide +kernel
theorem d_X10_isSo_65 : decode prog_12_method_17_code 65 = .ok (.isub, 1) := by decide +kernel
theorem d_X10_isSo_66 : decode prog_12_method_17_code 66 = .ok (.iconst 1, 1) := by decide +kernel
theorem d_X10_isSo_67 : decode prog_12_method_17_code 67 = .ok (.aload_n 0, 1) := by decide +kernel
theorem d_X10_isSo_68 : decode prog_12_method_17_code 68 = .ok (.getfield 19, 3) := by decide +kernel
theorem d_X10_isSo_71 : decode prog_12_method_17_code 71 = .ok (.iload 4, 2) := by decide +kernel
theorem d_X10_isSo_73 : decode prog_12_method_17_code 73 = .ok (.iconst 1, 1) := by decide +kernel
theorem d_X10_isSo_74 : decode prog_12_method_17_code 74 = .ok (.isub, 1) := by decide +kernel
theorem d_X10_isSo_75 : decode prog_12_method_17_code 75 = .ok (.iaload, 1) := by decide +kernel
theorem d_X10_isSo_76 : decode prog_12_method_17_code 76 = .ok (.isub, 1) := by decide +kernel
theorem d_X10_isSo_77 : decode prog_12_method_17_code 77 = .ok (.iastore, 1) := by decide +kernel
theorem d_X10_isSo_78 : decode prog_12_method_17_code 78 = .ok (.goto 44, 3) := by decide +kernel
theorem d_X10_isSo_81 : decode prog_12_method_17_code 81 = .ok (.iinc 4 (-1), 3) := by decide +kernel
theorem d_X10_isSo_84 : decode prog_12_method_17_code 84 = .ok (.aload_n 0, 1) := by decide +kernel
theorem d_X10_isSo_85 : decode prog_12_method_17_code 85 = .ok (.getfield 19, 3) := by decide +kernel
theorem d_X10_isSo_88 : decode prog_12_method_17_code 88 = .ok (.iload 4, 2) := by decide +kernel
theorem d_X10_isSo_90 : decode prog_12_method_17_code 90 = .ok (.iconst 1, 1) := by decide +kernel
theorem d_X10_isSo_91 : decode prog_12_method_17_code 91 = .ok (.isub, 1) := by decide +kernel
theorem d_X10_isSo_92 : decode prog_12_method_17_code 92 = .ok (.iload 6, 2) := by decide +kernel
theorem d_X10_isSo_94 : decode prog_12_method_17_code 94 = .ok (.aload_n 0, 1) := by decide +kernel
theorem d_X10_isSo_95 : decode prog_12_method_17_code 95 = .ok (.getfield 19, 3) := by decide +kernel
theorem d_X10_isSo_98 : decode prog_12_method_17_code 98 = .ok (.iload 4, 2) := by decide +kernel
theorem d_X10_isSo_100 : decode prog_12_method_17_code 100 = .ok (.iconst 1, 1) := by decide +kernel
theorem d_X10_isSo_101 : decode prog_12_method_17_code 101 = .ok (.isub, 1) := by decide +kernel
theorem d_X10_isSo_102 : decode prog_12_method_17_code 102 = .ok (.iaload, 1) := by decide +kernel
theorem d_X10_isSo_103 : decode prog_12_method_17_code 103 = .ok (.aload_n 0, 1) := by decide +kernel
theorem d_X10_isSo_104 : decode prog_12_method_17_code 104 = .ok (.getfield 19, 3) := by decide +kernel
theorem d_X10_isSo_107 : decode prog_12_method_17_code 107 = .ok (.iload 4, 2) := by decide +kernel
theorem d_X10_isSo_109 : decode prog_12_method_17_code 109 = .ok (.iaload, 1) := by decide +kernel
theorem d_X10_isSo_110 : decode prog_12_method_17_code 110 = .ok (.invokestatic 104, 3) := by decide +kernel
theorem d_X10_isSo_113 : decode prog_12_method_17_code 113 = .ok (.ifCond .eq 7, 3) := by decide +kernel
theorem d_X10_isSo_116 : decode prog_12_method_17_code 116 = .ok (.iconst 1, 1) := by decide +kernel
theorem d_X10_isSo_117 : decode prog_12_method_17_code 117 = .ok (.goto 4, 3) := by decide +kernel
theorem d_X10_isSo_120 : decode prog_12_method_17_code 120 = .ok (.iconst 0, 1) := by decide +kernel
theorem d_X10_isSo_121 : decode prog_12_method_17_code 121 = .ok (.iastore, 1) := by decide +kernel
theorem d_X10_isSo_122 : decode prog_12_method_17_code 122 = .ok (.iinc 5 1, 3) := by decide +kernel
theorem d_X10_isSo_125 : decode prog_12_method_17_code 125 = .ok (.goto (-119), 3) := by decide +kernel
theorem d_X10_isSo_128 : decode prog_12_method_17_code 128 = .ok (.iload 4, 2) := by decide +kernel
theorem d_X10_isSo_130 : decode prog_12_method_17_code 130 = .ok (.ifCond .eq 13, 3) := by decide +kernel
theorem d_X10_isSo_133 : decode prog_12_method_17_code 133 = .ok (.aload_n 0, 1) := by decide +kernel
theorem d_X10_isSo_134 : decode prog_12_method_17_code 134 = .ok (.getfield 19, 3) := by decide +kernel
theorem d_X10_isSo_137 : decode prog_12_method_17_code 137 = .ok (.iconst 0, 1) := by decide +kernel
theorem d_X10_isSo_138 : decode prog_12_method_17_code 138 = .ok (.iaload, 1) := by decide +kernel
theorem d_X10_isSo_139 : decode prog_12_method_17_code 139 = .ok (.iconst 1, 1) := by decide +kernel
theorem d_X10_isSo_140 : decode prog_12_method_17_code 140 = .ok (.if_icmp .ne 7, 3) := by decide +kernel
theorem d_X10_isSo_143 : decode prog_12_method_17_code 143 = .ok (.iconst 1, 1) := by decide +kernel
theorem d_X10_isSo_144 : decode prog_12_method_17_code 144 = .ok (.goto 4, 3) := by decide +kernel
theorem d_X10_isSo_147 : decode prog_12_method_17_code 147 = .ok (.iconst 0, 1) := by decide +kernel
theorem d_X10_isSo_148 : decode prog_12_method_17_code 148 = .ok (.ireturn, 1) := by decide +kernel
theorem d_X10_strengthOf_0 : decode prog_12_method_18_code 0 = .ok (.aload_n 0, 1) := by decide +kernel
theorem d_X10_strengthOf_1 : decode prog_12_method_18_code 1 = .ok (.iload_n 1, 1) := by decide +kernel
theorem d_X10_strengthOf_2 : decode prog_12_method_18_code 2 = .ok (.iconst 0, 1) := by decide +kernel
theorem d_X10_strengthOf_3 : decode prog_12_method_18_code 3 = .ok (.invokevirtual 98, 3) := by decide +kernel
theorem d_X10_strengthOf_6 : decode prog_12_method_18_code 6 = .ok (.istore_n 2, 1) := by decide +kernel
theorem d_X10_strengthOf_7 : decode prog_12_method_18_code 7 = .ok (.iconst (-1), 1) := by decide +kernel
theorem d_X10_strengthOf_8 : decode prog_12_method_18_code 8 = .ok (.istore_n 3, 1) := by decide +kernel
theorem d_X10_strengthOf_9 : decode prog_12_method_18_code 9 = .ok (.iconst 0, 1) := by decide +kernel
theorem d_X10_strengthOf_10 : decode prog_12_method_18_code 10 = .ok (.istore 4, 2) := by decide +kernel
theorem d_X10_strengthOf_12 : decode prog_12_method_18_code 12 = .ok (.iconst 0, 1) := by decide +kernel
theorem d_X10_strengthOf_13 : decode prog_12_method_18_code 13 = .ok (.istore 5, 2) := by decide +kernel
theorem d_X10_strengthOf_15 : decode prog_12_method_18_code 15 = .ok (.iload 5, 2) := by decide +kernel
theorem d_X10_strengthOf_17 : decode prog_12_method_18_code 17 = .ok (.aload_n 0, 1) := by decide +kernel
theorem d_X10_strengthOf_18 : decode prog_12_method_18_code 18 = .ok (.getfield 7, 3) := by decide +kernel
theorem d_X10_strengthOf_21 : decode prog_12_method_18_code 21 = .ok (.iconst 1, 1) := by decide +kernel
theorem d_X10_strengthOf_22 : decode prog_12_method_18_code 22 = .ok (.iaload, 1) := by decide +kernel
theorem d_X10_strengthOf_23 : decode prog_12_method_18_code 23 = .ok (.if_icmp .ge 75, 3) := by decide +kernel
theorem d_X10_strengthOf_26 : decode prog_12_method_18_code 26 = .ok (.iload_n 3, 1) := by decide +kernel
theorem d_X10_strengthOf_27 : decode prog_12_method_18_code 27 = .ok (.ifCond .ge 71, 3) := by decide +kernel
theorem d_X10_strengthOf_30 : decode prog_12_method_18_code 30 = .ok (.bipush 65, 2) := by decide +kernel
theorem d_X10_strengthOf_32 : decode prog_12_method_18_code 32 = .ok (.iconst 4, 1) := by decide +kernel
theorem d_X10_strengthOf_33 : decode prog_12_method_18_code 33 = .ok (.iload 5, 2) := by decide +kernel
theorem d_X10_strengthOf_35 : decode prog_12_method_18_code 35 = .ok (.imul, 1) := by decide +kernel
theorem d_X10_strengthOf_36 : decode prog_12_method_18_code 36 = .ok (.iadd, 1) := by decide +kernel
theorem d_X10_strengthOf_37 : decode prog_12_method_18_code 37 = .ok (.istore 6, 2) := by decide +kernel
theorem d_X10_strengthOf_39 : decode prog_12_method_18_code 39 = .ok (.iload_n 2, 1) := by decide +kernel
theorem d_X10_strengthOf_40 : decode prog_12_method_18_code 40 = .ok (.aload_n 0, 1) := by decide +kernel
theorem d_X10_strengthOf_41 : decode prog_12_method_18_code 41 = .ok (.getfield 7, 3) := by decide +kernel
theorem d_X10_strengthOf_44 : decode prog_12_method_18_code 44 = .ok (.iload 6, 2) := by decide +kernel
theorem d_X10_strengthOf_46 : decode prog_12_method_18_code 46 = .ok (.iconst 0, 1) := by decide +kernel
theorem d_X10_strengthOf_47 : decode prog_12_method_18_code 47 = .ok (.iadd, 1) := by decide +kernel
theorem d_X10_strengthOf_48 : decode prog_12_method_18_code 48 = .ok (.iaload, 1) := by decide +kernel
theorem d_X10_strengthOf_49 : decode prog_12_method_18_code 49 = .ok (.invokestatic 108, 3) := by decide +kernel
theorem d_X10_strengthOf_52 : decode prog_12_method_18_code 52 = .ok (.ifCond .eq 27, 3) := by decide +kernel
theorem d_X10_strengthOf_55 : decode prog_12_method_18_code 55 = .ok (.aload_n 0, 1) := by decide +kernel
theorem d_X10_strengthOf_56 : decode prog_12_method_18_code 56 = .ok (.iload 4, 2) := by decide +kernel
theorem d_X10_strengthOf_58 : decode prog_12_method_18_code 58 = .ok (.aload_n 0, 1) := by decide +kernel
theorem d_X10_strengthOf_59 : decode prog_12_method_18_code 59 = .ok (.getfield 7, 3) := by decide +kernel
theorem d_X10_strengthOf_62 : decode prog_12_method_18_code 62 = .ok (.iload 6, 2) := by decide +kernel
theorem d_X10_strengthOf_64 : decode prog_12_method_18_code 64 = .ok (.iconst 3, 1) := by decide +kernel
theorem d_X10_strengthOf_65 : decode prog_12_method_18_code 65 = .ok (.iadd, 1) := by decide +kernel
theorem d_X10_strengthOf_66 : decode prog_12_method_18_code 66 = .ok (.iaload, 1) := by decide +kernel
theorem d_X10_strengthOf_67 : decode prog_12_method_18_code 67 = .ok (.iload_n 1, 1) := by decide +kernel
theorem d_X10_strengthOf_68 : decode prog_12_method_18_code 68 = .ok (.invokevirtual 111, 3) := by decide +kernel
theorem d_X10_strengthOf_71 : decode prog_12_method_18_code 71 = .ok (.ifCond .eq 8, 3) := by decide +kernel
theorem d_X10_strengthOf_74 : decode prog_12_method_18_code 74 = .ok (.iload 6, 2) := by decide +kernel
theorem d_X10_strengthOf_76 : decode prog_12_method_18_code 76 = .ok (.goto 4, 3) := by decide +kernel
theorem d_X10_strengthOf_79 : decode prog_12_method_18_code 79 = .ok (.iconst (-1), 1) := by decide +kernel
theorem d_X10_strengthOf_80 : decode prog_12_method_18_code 80 = .ok (.istore_n 3, 1) := by decide +kernel
theorem d_X10_strengthOf_81 : decode prog_12_method_18_code 81 = .ok (.aload_n 0, 1) := by decide +kernel
theorem d_X10_strengthOf_82 : decode prog_12_method_18_code 82 = .ok (.getfield 7, 3) := by decide +kernel
theorem d_X10_strengthOf_85 : decode prog_12_method_18_code 85 = .ok (.iload 6, 2) := by decide +kernel
theorem d_X10_strengthOf_87 : decode prog_12_method_18_code 87 = .ok (.iconst 3, 1) := by decide +kernel
theorem d_X10_strengthOf_88 : decode prog_12_method_18_code 88 = .ok (.iadd, 1) := by decide +kernel
theorem d_X10_strengthOf_89 : decode prog_12_method_18_code 89 = .ok (.iaload, 1) := by decide +kernel
theorem d_X10_strengthOf_90 : decode prog_12_method_18_code 90 = .ok (.istore 4, 2) := by decide +kernel
theorem d_X10_strengthOf_92 : decode prog_12_method_18_code 92 = .ok (.iinc 5 1, 3) := by decide +kernel
theorem d_X10_strengthOf_95 : decode prog_12_method_18_code 95 = .ok (.goto (-80), 3) := by decide +kernel
theorem d_X10_strengthOf_98 : decode prog_12_method_18_code 98 = .ok (.iload_n 3, 1) := by decide +kernel
theorem d_X10_strengthOf_99 : decode prog_12_method_18_code 99 = .ok (.ifCond .ge 7, 3) := by decide +kernel
theorem d_X10_strengthOf_102 : decode prog_12_method_18_code 102 = .ok (.iconst (-1), 1) := by decide +kernel
theorem d_X10_strengthOf_103 : decode prog_12_method_18_code 103 = .ok (.goto 11, 3) := by decide +kernel
theorem d_X10_strengthOf_106 : decode prog_12_method_18_code 106 = .ok (.aload_n 0, 1) := by decide +kernel
theorem d_X10_strengthOf_107 : decode prog_12_method_18_code 107 = .ok (.getfield 7, 3) := by decide +kernel
theorem d_X10_strengthOf_110 : decode prog_12_method_18_code 110 = .ok (.iload_n 3, 1) := by decide +kernel
theorem d_X10_strengthOf_111 : decode prog_12_method_18_code 111 = .ok (.iconst 1, 1) := by decide +kernel
theorem d_X10_strengthOf_112 : decode prog_12_method_18_code 112 = .ok (.iadd, 1) := by decide +kernel
theorem d_X10_strengthOf_113 : decode prog_12_method_18_code 113 = .ok (.iaload, 1) := by decide +kernel
theorem d_X10_strengthOf_114 : decode prog_12_method_18_code 114 = .ok (.istore 5, 2) := by decide +kernel
theorem d_X10_strengthOf_116 : decode prog_12_method_18_code 116 = .ok (.iload_n 3, 1) := by decide +kernel
theorem d_X10_strengthOf_117 : decode prog_12_method_18_code 117 = .ok (.ifCond .ge 7, 3) := by decide +kernel
theorem d_X10_strengthOf_120 : decode prog_12_method_18_code 120 = .ok (.iconst 0, 1) := by decide +kernel
theorem d_X10_strengthOf_121 : decode prog_12_method_18_code 121 = .ok (.goto 11, 3) := by decide +kernel
theorem d_X10_strengthOf_124 : decode prog_12_method_18_code 124 = .ok (.aload_n 0, 1) := by decide +kernel
theorem d_X10_strengthOf_125 : decode prog_12_method_18_code 125 = .ok (.getfield 7, 3) := by decide +kernel
theorem d_X10_strengthOf_128 : decode prog_12_method_18_code 128 = .ok (.iload_n 3, 1) := by decide +kernel
theorem d_X10_strengthOf_129 : decode prog_12_method_18_code 129 = .ok (.iconst 2, 1) := by decide +kernel
theorem d_X10_strengthOf_130 : decode prog_12_method_18_code 130 = .ok (.iadd, 1) := by decide +kernel
theorem d_X10_strengthOf_131 : decode prog_12_method_18_code 131 = .ok (.iaload, 1) := by decide +kernel
theorem d_X10_strengthOf_132 : decode prog_12_method_18_code 132 = .ok (.istore 6, 2) := by decide +kernel
theorem d_X10_strengthOf_134 : decode prog_12_method_18_code 134 = .ok (.aload_n 0, 1) := by decide +kernel
theorem d_X10_strengthOf_135 : decode prog_12_method_18_code 135 = .ok (.iload_n 1, 1) := by decide +kernel
theorem d_X10_strengthOf_136 : decode prog_12_method_18_code 136 = .ok (.iconst 1, 1) := by decide +kernel
theorem d_X10_strengthOf_137 : decode prog_12_method_18_code 137 = .ok (.invokevirtual 98, 3) := by decide +kernel
theorem d_X10_strengthOf_140 : decode prog_12_method_18_code 140 = .ok (.istore 7, 2) := by decide +kernel
theorem d_X10_strengthOf_142 : decode prog_12_method_18_code 142 = .ok (.iload 5, 2) := by decide +kernel
theorem d_X10_strengthOf_144 : decode prog_12_method_18_code 144 = .ok (.ifCond .ne 11, 3) := by decide +kernel
theorem d_X10_strengthOf_147 : decode prog_12_method_18_code 147 = .ok (.iload 7, 2) := by decide +kernel
theorem d_X10_strengthOf_149 : decode prog_12_method_18_code 149 = .ok (.iload 6, 2) := by decide +kernel
theorem d_X10_strengthOf_151 : decode prog_12_method_18_code 151 = .ok (.iadd, 1) := by decide +kernel
theorem d_X10_strengthOf_152 : decode prog_12_method_18_code 152 = .ok (.goto 29, 3) := by decide +kernel
theorem d_X10_strengthOf_155 : decode prog_12_method_18_code 155 = .ok (.iload 5, 2) := by decide +kernel
theorem d_X10_strengthOf_157 : decode prog_12_method_18_code 157 = .ok (.iconst 1, 1) := by decide +kernel
theorem d_X10_strengthOf_158 : decode prog_12_method_18_code 158 = .ok (.if_icmp .ne 11, 3) := by decide +kernel
theorem d_X10_strengthOf_161 : decode prog_12_method_18_code 161 = .ok (.iload 7, 2) := by decide +kernel
theorem d_X10_strengthOf_163 : decode prog_12_method_18_code 163 = .ok (.iload 6, 2) := by decide +kernel
theorem d_X10_strengthOf_165 : decode prog_12_method_18_code 165 = .ok (.isub, 1) := by decide +kernel
theorem d_X10_strengthOf_166 : decode prog_12_method_18_code 166 = .ok (.goto 15, 3) := by decide +kernel
theorem d_X10_strengthOf_169 : decode prog_12_method_18_code 169 = .ok (.iload 5, 2) := by decide +kernel
theorem d_X10_strengthOf_171 : decode prog_12_method_18_code 171 = .ok (.iconst 2, 1) := by decide +kernel
theorem d_X10_strengthOf_172 : decode prog_12_method_18_code 172 = .ok (.if_icmp .ne 7, 3) := by decide +kernel
theorem d_X10_strengthOf_175 : decode prog_12_method_18_code 175 = .ok (.iconst 0, 1) := by decide +kernel
theorem d_X10_strengthOf_176 : decode prog_12_method_18_code 176 = .ok (.goto 5, 3) := by decide +kernel
theorem d_X10_strengthOf_179 : decode prog_12_method_18_code 179 = .ok (.iload 7, 2) := by decide +kernel
theorem d_X10_strengthOf_181 : decode prog_12_method_18_code 181 = .ok (.istore 7, 2) := by decide +kernel
theorem d_X10_strengthOf_183 : decode prog_12_method_18_code 183 = .ok (.iload_n 2, 1) := by decide +kernel
theorem d_X10_strengthOf_184 : decode prog_12_method_18_code 184 = .ok (.iconst 1, 1) := by decide +kernel
theorem d_X10_strengthOf_185 : decode prog_12_method_18_code 185 = .ok (.if_icmp .ne 10, 3) := by decide +kernel
theorem d_X10_strengthOf_188 : decode prog_12_method_18_code 188 = .ok (.iload 7, 2) := by decide +kernel
theorem d_X10_strengthOf_190 : decode prog_12_method_18_code 190 = .ok (.iconst 2, 1) := by decide +kernel
theorem d_X10_strengthOf_191 : decode prog_12_method_18_code 191 = .ok (.idiv, 1) := by decide +kernel
theorem d_X10_strengthOf_192 : decode prog_12_method_18_code 192 = .ok (.goto 56, 3) := by decide +kernel
theorem d_X10_strengthOf_195 : decode prog_12_method_18_code 195 = .ok (.iload_n 2, 1) := by decide +kernel
theorem d_X10_strengthOf_196 : decode prog_12_method_18_code 196 = .ok (.iconst 2, 1) := by decide +kernel
theorem d_X10_strengthOf_197 : decode prog_12_method_18_code 197 = .ok (.if_icmp .ne 15, 3) := by decide +kernel
theorem d_X10_strengthOf_200 : decode prog_12_method_18_code 200 = .ok (.iload 7, 2) := by decide +kernel
theorem d_X10_strengthOf_202 : decode prog_12_method_18_code 202 = .ok (.aload_n 0, 1) := by decide +kernel
theorem d_X10_strengthOf_203 : decode prog_12_method_18_code 203 = .ok (.getfield 7, 3) := by decide +kernel
theorem d_X10_strengthOf_206 : decode prog_12_method_18_code 206 = .ok (.iconst 4, 1) := by decide +kernel
theorem d_X10_strengthOf_207 : decode prog_12_method_18_code 207 = .ok (.iaload, 1) := by decide +kernel
theorem d_X10_strengthOf_208 : decode prog_12_method_18_code 208 = .ok (.iadd, 1) := by decide +kernel
theorem d_X10_strengthOf_209 : decode prog_12_method_18_code 209 = .ok (.goto 39, 3) := by decide +kernel
theorem d_X10_strengthOf_212 : decode prog_12_method_18_code 212 = .ok (.iload_n 2, 1) := by decide +kernel
theorem d_X10_strengthOf_213 : decode prog_12_method_18_code 213 = .ok (.iconst 3, 1) := by decide +kernel
theorem d_X10_strengthOf_214 : decode prog_12_method_18_code 214 = .ok (.if_icmp .ne 17, 3) := by decide +kernel
theorem d_X10_strengthOf_217 : decode prog_12_method_18_code 217 = .ok (.iload 7, 2) := by decide +kernel
theorem d_X10_strengthOf_219 : decode prog_12_method_18_code 219 = .ok (.aload_n 0, 1) := by decide +kernel
theorem d_X10_strengthOf_220 : decode prog_12_method_18_code 220 = .ok (.getfield 7, 3) := by decide +kernel
theorem d_X10_strengthOf_223 : decode prog_12_method_18_code 223 = .ok (.iconst 4, 1) := by decide +kernel
theorem d_X10_strengthOf_224 : decode prog_12_method_18_code 224 = .ok (.iaload, 1) := by decide +kernel
theorem d_X10_strengthOf_225 : decode prog_12_method_18_code 225 = .ok (.iadd, 1) := by decide +kernel
theorem d_X10_strengthOf_226 : decode prog_12_method_18_code 226 = .ok (.iconst 1, 1) := by decide +kernel
theorem d_X10_strengthOf_227 : decode prog_12_method_18_code 227 = .ok (.isub, 1) := by decide +kernel
theorem d_X10_strengthOf_228 : decode prog_12_method_18_code 228 = .ok (.goto 20, 3) := by decide +kernel
theorem d_X10_strengthOf_231 : decode prog_12_method_18_code 231 = .ok (.iload_n 2, 1) := by decide +kernel
theorem d_X10_strengthOf_232 : decode prog_12_method_18_code 232 = .ok (.iconst 4, 1) := by decide +kernel
theorem d_X10_strengthOf_233 : decode prog_12_method_18_code 233 = .ok (.if_icmp .ne 10, 3) := by decide +kernel
theorem d_X10_strengthOf_236 : decode prog_12_method_18_code 236 = .ok (.iconst 2, 1) := by decide +kernel
theorem d_X10_strengthOf_237 : decode prog_12_method_18_code 237 = .ok (.iload 7, 2) := by decide +kernel
theorem d_X10_strengthOf_239 : decode prog_12_method_18_code 239 = .ok (.imul, 1) := by decide +kernel
theorem d_X10_strengthOf_240 : decode prog_12_method_18_code 240 = .ok (.goto 8, 3) := by decide +kernel
theorem d_X10_strengthOf_243 : decode prog_12_method_18_code 243 = .ok (.bipush (-2), 2) := by decide +kernel
theorem d_X10_strengthOf_245 : decode prog_12_method_18_code 245 = .ok (.iload 7, 2) := by decide +kernel
theorem d_X10_strengthOf_247 : decode prog_12_method_18_code 247 = .ok (.imul, 1) := by decide +kernel
theorem d_X10_strengthOf_248 : decode prog_12_method_18_code 248 = .ok (.istore 8, 2) := by decide +kernel
theorem d_X10_strengthOf_250 : decode prog_12_method_18_code 250 = .ok (.iload 8, 2) := by decide +kernel
theorem d_X10_strengthOf_252 : decode prog_12_method_18_code 252 = .ok (.bipush (-9), 2) := by decide +kernel
theorem d_X10_strengthOf_254 : decode prog_12_method_18_code 254 = .ok (.if_icmp .ge 8, 3) := by decide +kernel
theorem d_X10_strengthOf_257 : decode prog_12_method_18_code 257 = .ok (.bipush (-9), 2) := by decide +kernel
theorem d_X10_strengthOf_259 : decode prog_12_method_18_code 259 = .ok (.goto 17, 3) := by decide +kernel
theorem d_X10_strengthOf_262 : decode prog_12_method_18_code 262 = .ok (.iload 8, 2) := by decide +kernel
theorem d_X10_strengthOf_264 : decode prog_12_method_18_code 264 = .ok (.bipush 9, 2) := by decide +kernel
theorem d_X10_strengthOf_266 : decode prog_12_method_18_code 266 = .ok (.if_icmp .le 8, 3) := by decide +kernel
theorem d_X10_strengthOf_269 : decode prog_12_method_18_code 269 = .ok (.bipush 9, 2) := by decide +kernel
theorem d_X10_strengthOf_271 : decode prog_12_method_18_code 271 = .ok (.goto 5, 3) := by decide +kernel
theorem d_X10_strengthOf_274 : decode prog_12_method_18_code 274 = .ok (.iload 8, 2) := by decide +kernel
theorem d_X10_strengthOf_276 : decode prog_12_method_18_code 276 = .ok (.ireturn, 1) := by decide +kernel
theorem d_X10_placeOf_0 : decode prog_12_method_19_code 0 = .ok (.iconst 0, 1) := by decide +kernel
theorem d_X10_placeOf_1 : decode prog_12_method_19_code 1 = .ok (.istore_n 2, 1) := by decide +kernel
theorem d_X10_placeOf_2 : decode prog_12_method_19_code 2 = .ok (.iload_n 2, 1) := by decide +kernel
theorem d_X10_placeOf_3 : decode prog_12_method_19_code 3 = .ok (.aload_n 0, 1) := by decide +kernel
theorem d_X10_placeOf_4 : decode prog_12_method_19_code 4 = .ok (.getfield 7, 3) := by decide +kernel
theorem d_X10_placeOf_7 : decode prog_12_method_19_code 7 = .ok (.iconst 2, 1) := by decide +kernel
theorem d_X10_placeOf_8 : decode prog_12_method_19_code 8 = .ok (.iaload, 1) := by decide +kernel
theorem d_X10_placeOf_9 : decode prog_12_method_19_code 9 = .ok (.if_icmp .ge 26, 3) := by decide +kernel
theorem d_X10_placeOf_12 : decode prog_12_method_19_code 12 = .ok (.aload_n 0, 1) := by decide +kernel
theorem d_X10_placeOf_13 : decode prog_12_method_19_code 13 = .ok (.getfield 7, 3) := by decide +kernel
theorem d_X10_placeOf_16 : decode prog_12_method_19_code 16 = .ok (.bipush 45, 2) := by decide +kernel
theorem d_X10_placeOf_18 : decode prog_12_method_19_code 18 = .ok (.iconst 2, 1) := by decide +kernel
theorem d_X10_placeOf_19 : decode prog_12_method_19_code 19 = .ok (.iload_n 2, 1) := by decide +kernel
theorem d_X10_placeOf_20 : decode prog_12_method_19_code 20 = .ok (.imul, 1) := by decide +kernel
theorem d_X10_placeOf_21 : decode prog_12_method_19_code 21 = .ok (.iadd, 1) := by decide +kernel
theorem d_X10_placeOf_22 : decode prog_12_method_19_code 22 = .ok (.iaload, 1) := by decide +kernel
theorem d_X10_placeOf_23 : decode prog_12_method_19_code 23 = .ok (.iload_n 1, 1) := by decide +kernel
theorem d_X10_placeOf_24 : decode prog_12_method_19_code 24 = .ok (.if_icmp .ne 5, 3) := by decide +kernel
theorem d_X10_placeOf_27 : decode prog_12_method_19_code 27 = .ok (.iload_n 2, 1) := by decide +kernel
theorem d_X10_placeOf_28 : decode prog_12_method_19_code 28 = .ok (.ireturn, 1) := by decide +kernel
theorem d_X10_placeOf_29 : decode prog_12_method_19_code 29 = .ok (.iinc 2 1, 3) := by decide +kernel
theorem d_X10_placeOf_32 : decode prog_12_method_19_code 32 = .ok (.goto (-30), 3) := by decide +kernel
theorem d_X10_placeOf_35 : decode prog_12_method_19_code 35 = .ok (.bipush (-9), 2) := by decide +kernel
theorem d_X10_placeOf_37 : decode prog_12_method_19_code 37 = .ok (.ireturn, 1) := by decide +kernel
theorem d_X10_lensOf_0 : decode prog_12_method_20_code 0 = .ok (.aload_n 0, 1) := by decide +kernel
theorem d_X10_lensOf_1 : decode prog_12_method_20_code 1 = .ok (.iload_n 1, 1) := by decide +kernel
theorem d_X10_lensOf_2 : decode prog_12_method_20_code 2 = .ok (.invokevirtual 114, 3) := by decide +kernel
theorem d_X10_lensOf_5 : decode prog_12_method_20_code 5 = .ok (.ifCond .eq 15, 3) := by decide +kernel
theorem d_X10_lensOf_8 : decode prog_12_method_20_code 8 = .ok (.iload_n 2, 1) := by decide +kernel
theorem d_X10_lensOf_9 : decode prog_12_method_20_code 9 = .ok (.i2l, 1) := by decide +kernel
theorem d_X10_lensOf_10 : decode prog_12_method_20_code 10 = .ok (.lconst 0, 1) := by decide +kernel
theorem d_X10_lensOf_11 : decode prog_12_method_20_code 11 = .ok (.ldc2_w 82, 3) := by decide +kernel
theorem d_X10_lensOf_14 : decode prog_12_method_20_code 14 = .ok (.invokestatic 74, 3) := by decide +kernel
theorem d_X10_lensOf_17 : decode prog_12_method_20_code 17 = .ok (.ifCond .ne 5, 3) := by decide +kernel
theorem d_X10_lensOf_20 : decode prog_12_method_20_code 20 = .ok (.iconst (-1), 1) := by decide +kernel
theorem d_X10_lensOf_21 : decode prog_12_method_20_code 21 = .ok (.ireturn, 1) := by decide +kernel
theorem d_X10_lensOf_22 : decode prog_12_method_20_code 22 = .ok (.iload_n 2, 1) := by decide +kernel
theorem d_X10_lensOf_23 : decode prog_12_method_20_code 23 = .ok (.iconst 4, 1) := by decide +kernel
theorem d_X10_lensOf_24 : decode prog_12_method_20_code 24 = .ok (.if_icmp .ne 11, 3) := by decide +kernel
theorem d_X10_lensOf_27 : decode prog_12_method_20_code 27 = .ok (.aload_n 0, 1) := by decide +kernel
theorem d_X10_lensOf_28 : decode prog_12_method_20_code 28 = .ok (.iload_n 1, 1) := by decide +kernel
theorem d_X10_lensOf_29 : decode prog_12_method_20_code 29 = .ok (.invokevirtual 117, 3) := by decide +kernel
theorem d_X10_lensOf_32 : decode prog_12_method_20_code 32 = .ok (.goto 22, 3) := by decide +kernel
theorem d_X10_lensOf_35 : decode prog_12_method_20_code 35 = .ok (.iload_n 2, 1) := by decide +kernel
theorem d_X10_lensOf_36 : decode prog_12_method_20_code 36 = .ok (.iconst 5, 1) := by decide +kernel
theorem d_X10_lensOf_37 : decode prog_12_method_20_code 37 = .ok (.if_icmp .ne 11, 3) := by decide +kernel
theorem d_X10_lensOf_40 : decode prog_12_method_20_code 40 = .ok (.aload_n 0, 1) := by decide +kernel
theorem d_X10_lensOf_41 : decode prog_12_method_20_code 41 = .ok (.iload_n 1, 1) := by decide +kernel
theorem d_X10_lensOf_42 : decode prog_12_method_20_code 42 = .ok (.invokevirtual 121, 3) := by decide +kernel
theorem d_X10_lensOf_45 : decode prog_12_method_20_code 45 = .ok (.goto 9, 3) := by decide +kernel
theorem d_X10_lensOf_48 : decode prog_12_method_20_code 48 = .ok (.aload_n 0, 1) := by decide +kernel
theorem d_X10_lensOf_49 : decode prog_12_method_20_code 49 = .ok (.iload_n 1, 1) := by decide +kernel
theorem d_X10_lensOf_50 : decode prog_12_method_20_code 50 = .ok (.iload_n 2, 1) := by decide +kernel
theorem d_X10_lensOf_51 : decode prog_12_method_20_code 51 = .ok (.invokevirtual 98, 3) := by decide +kernel
theorem d_X10_lensOf_54 : decode prog_12_method_20_code 54 = .ok (.ireturn, 1) := by decide +kernel
theorem d_X10_grind_0 : decode prog_12_method_21_code 0 = .ok (.aload_n 0, 1) := by decide +kernel
theorem d_X10_grind_1 : decode prog_12_method_21_code 1 = .ok (.iload_n 1, 1) := by decide +kernel
theorem d_X10_grind_2 : decode prog_12_method_21_code 2 = .ok (.invokevirtual 114, 3) := by decide +kernel
theorem d_X10_grind_5 : decode prog_12_method_21_code 5 = .ok (.ifCond .eq 24, 3) := by decide +kernel
theorem d_X10_grind_8 : decode prog_12_method_21_code 8 = .ok (.iload_n 2, 1) := by decide +kernel
theorem d_X10_grind_9 : decode prog_12_method_21_code 9 = .ok (.iload_n 3, 1) := by decide +kernel
theorem d_X10_grind_10 : decode prog_12_method_21_code 10 = .ok (.invokestatic 94, 3) := by decide +kernel
theorem d_X10_grind_13 : decode prog_12_method_21_code 13 = .ok (.ifCond .eq 16, 3) := by decide +kernel
theorem d_X10_grind_16 : decode prog_12_method_21_code 16 = .ok (.aload_n 0, 1) := by decide +kernel
theorem d_X10_grind_17 : decode prog_12_method_21_code 17 = .ok (.iload_n 1, 1) := by decide +kernel
theorem d_X10_grind_18 : decode prog_12_method_21_code 18 = .ok (.iload_n 2, 1) := by decide +kernel
theorem d_X10_grind_19 : decode prog_12_method_21_code 19 = .ok (.invokestatic 78, 3) := by decide +kernel
theorem d_X10_grind_22 : decode prog_12_method_21_code 22 = .ok (.iload_n 3, 1) := by decide +kernel
theorem d_X10_grind_23 : decode prog_12_method_21_code 23 = .ok (.invokevirtual 124, 3) := by decide +kernel
theorem d_X10_grind_26 : decode prog_12_method_21_code 26 = .ok (.goto 4, 3) := by decide +kernel
theorem d_X10_grind_29 : decode prog_12_method_21_code 29 = .ok (.iconst (-1), 1) := by decide +kernel
theorem d_X10_grind_30 : decode prog_12_method_21_code 30 = .ok (.ireturn, 1) := by decide +kernel
theorem d_X10_remake_0 : decode prog_12_method_22_code 0 = .ok (.aload_n 0, 1) := by decide +kernel
theorem d_X10_remake_1 : decode prog_12_method_22_code 1 = .ok (.iload_n 1, 1) := by decide +kernel
theorem d_X10_remake_2 : decode prog_12_method_22_code 2 = .ok (.invokevirtual 114, 3) := by decide +kernel
theorem d_X10_remake_5 : decode prog_12_method_22_code 5 = .ok (.ifCond .eq 10, 3) := by decide +kernel
theorem d_X10_remake_8 : decode prog_12_method_22_code 8 = .ok (.iload_n 2, 1) := by decide +kernel
theorem d_X10_remake_9 : decode prog_12_method_22_code 9 = .ok (.invokestatic 90, 3) := by decide +kernel
theorem d_X10_remake_12 : decode prog_12_method_22_code 12 = .ok (.ifCond .ne 5, 3) := by decide +kernel
theorem d_X10_remake_15 : decode prog_12_method_22_code 15 = .ok (.iconst (-1), 1) := by decide +kernel
theorem d_X10_remake_16 : decode prog_12_method_22_code 16 = .ok (.ireturn, 1) := by decide +kernel
theorem d_X10_remake_17 : decode prog_12_method_22_code 17 = .ok (.aload_n 0, 1) := by decide +kernel
theorem d_X10_remake_18 : decode prog_12_method_22_code 18 = .ok (.iload_n 1, 1) := by decide +kernel
theorem d_X10_remake_19 : decode prog_12_method_22_code 19 = .ok (.iconst 0, 1) := by decide +kernel
theorem d_X10_remake_20 : decode prog_12_method_22_code 20 = .ok (.invokevirtual 98, 3) := by decide +kernel
theorem d_X10_remake_23 : decode prog_12_method_22_code 23 = .ok (.istore_n 3, 1) := by decide +kernel
theorem d_X10_remake_24 : decode prog_12_method_22_code 24 = .ok (.aload_n 0, 1) := by decide +kernel
theorem d_X10_remake_25 : decode prog_12_method_22_code 25 = .ok (.getfield 7, 3) := by decide +kernel
theorem d_X10_remake_28 : decode prog_12_method_22_code 28 = .ok (.iload_n 1, 1) := by decide +kernel
theorem d_X10_remake_29 : decode prog_12_method_22_code 29 = .ok (.iconst 0, 1) := by decide +kernel
theorem d_X10_remake_30 : decode prog_12_method_22_code 30 = .ok (.invokestatic 78, 3) := by decide +kernel
theorem d_X10_remake_33 : decode prog_12_method_22_code 33 = .ok (.iload_n 2, 1) := by decide +kernel
theorem d_X10_remake_34 : decode prog_12_method_22_code 34 = .ok (.iastore, 1) := by decide +kernel
theorem d_X10_remake_35 : decode prog_12_method_22_code 35 = .ok (.iload_n 3, 1) := by decide +kernel
theorem d_X10_remake_36 : decode prog_12_method_22_code 36 = .ok (.ireturn, 1) := by decide +kernel
theorem d_X10_setting_0 : decode prog_12_method_23_code 0 = .ok (.iload_n 1, 1) := by decide +kernel
theorem d_X10_setting_1 : decode prog_12_method_23_code 1 = .ok (.i2l, 1) := by decide +kernel
theorem d_X10_setting_2 : decode prog_12_method_23_code 2 = .ok (.lconst 0, 1) := by decide +kernel
theorem d_X10_setting_3 : decode prog_12_method_23_code 3 = .ok (.ldc2_w 127, 3) := by decide +kernel
theorem d_X10_setting_6 : decode prog_12_method_23_code 6 = .ok (.invokestatic 74, 3) := by decide +kernel
theorem d_X10_setting_9 : decode prog_12_method_23_code 9 = .ok (.ifCond .eq 14, 3) := by decide +kernel
theorem d_X10_setting_12 : decode prog_12_method_23_code 12 = .ok (.aload_n 0, 1) := by decide +kernel
theorem d_X10_setting_13 : decode prog_12_method_23_code 13 = .ok (.getfield 7, 3) := by decide +kernel
theorem d_X10_setting_16 : decode prog_12_method_23_code 16 = .ok (.iconst 4, 1) := by decide +kernel
theorem d_X10_setting_17 : decode prog_12_method_23_code 17 = .ok (.iload_n 1, 1) := by decide +kernel
theorem d_X10_setting_18 : decode prog_12_method_23_code 18 = .ok (.iadd, 1) := by decide +kernel
theorem d_X10_setting_19 : decode prog_12_method_23_code 19 = .ok (.iaload, 1) := by decide +kernel
theorem d_X10_setting_20 : decode prog_12_method_23_code 20 = .ok (.goto 4, 3) := by decide +kernel
theorem d_X10_setting_23 : decode prog_12_method_23_code 23 = .ok (.iconst (-1), 1) := by decide +kernel
theorem d_X10_setting_24 : decode prog_12_method_23_code 24 = .ok (.ireturn, 1) := by decide +kernel
theorem d_X10_let_0 : decode prog_12_method_24_code 0 = .ok (.iload_n 1, 1) := by decide +kernel
theorem d_X10_let_1 : decode prog_12_method_24_code 1 = .ok (.ifCond .ne 15, 3) := by decide +kernel
theorem d_X10_let_4 : decode prog_12_method_24_code 4 = .ok (.iload_n 2, 1) := by decide +kernel
theorem d_X10_let_5 : decode prog_12_method_24_code 5 = .ok (.i2l, 1) := by decide +kernel
theorem d_X10_let_6 : decode prog_12_method_24_code 6 = .ok (.lconst 0, 1) := by decide +kernel
theorem d_X10_let_7 : decode prog_12_method_24_code 7 = .ok (.ldc2_w 86, 3) := by decide +kernel
theorem d_X10_let_10 : decode prog_12_method_24_code 10 = .ok (.invokestatic 74, 3) := by decide +kernel
theorem d_X10_let_13 : decode prog_12_method_24_code 13 = .ok (.ifCond .ne 56, 3) := by decide +kernel
theorem d_X10_let_16 : decode prog_12_method_24_code 16 = .ok (.iload_n 1, 1) := by decide +kernel
theorem d_X10_let_17 : decode prog_12_method_24_code 17 = .ok (.iconst 1, 1) := by decide +kernel
theorem d_X10_let_18 : decode prog_12_method_24_code 18 = .ok (.if_icmp .ne 15, 3) := by decide +kernel
theorem d_X10_let_21 : decode prog_12_method_24_code 21 = .ok (.iload_n 2, 1) := by decide +kernel
theorem d_X10_let_22 : decode prog_12_method_24_code 22 = .ok (.i2l, 1) := by decide +kernel
theorem d_X10_let_23 : decode prog_12_method_24_code 23 = .ok (.lconst 1, 1) := by decide +kernel
theorem d_X10_let_24 : decode prog_12_method_24_code 24 = .ok (.ldc2_w 127, 3) := by decide +kernel
theorem d_X10_let_27 : decode prog_12_method_24_code 27 = .ok (.invokestatic 74, 3) := by decide +kernel
theorem d_X10_let_30 : decode prog_12_method_24_code 30 = .ok (.ifCond .ne 39, 3) := by decide +kernel
theorem d_X10_let_33 : decode prog_12_method_24_code 33 = .ok (.iload_n 1, 1) := by decide +kernel
theorem d_X10_let_34 : decode prog_12_method_24_code 34 = .ok (.iconst 2, 1) := by decide +kernel
theorem d_X10_let_35 : decode prog_12_method_24_code 35 = .ok (.if_icmp .ne 17, 3) := by decide +kernel
theorem d_X10_let_38 : decode prog_12_method_24_code 38 = .ok (.iload_n 2, 1) := by decide +kernel
theorem d_X10_let_39 : decode prog_12_method_24_code 39 = .ok (.i2l, 1) := by decide +kernel
theorem d_X10_let_40 : decode prog_12_method_24_code 40 = .ok (.ldc2_w 84, 3) := by decide +kernel
theorem d_X10_let_43 : decode prog_12_method_24_code 43 = .ok (.ldc2_w 86, 3) := by decide +kernel
theorem d_X10_let_46 : decode prog_12_method_24_code 46 = .ok (.invokestatic 74, 3) := by decide +kernel
theorem d_X10_let_49 : decode prog_12_method_24_code 49 = .ok (.ifCond .ne 20, 3) := by decide +kernel
theorem d_X10_let_52 : decode prog_12_method_24_code 52 = .ok (.iload_n 1, 1) := by decide +kernel
theorem d_X10_let_53 : decode prog_12_method_24_code 53 = .ok (.iconst 3, 1) := by decide +kernel
theorem d_X10_let_54 : decode prog_12_method_24_code 54 = .ok (.if_icmp .ne 19, 3) := by decide +kernel
theorem d_X10_let_57 : decode prog_12_method_24_code 57 = .ok (.iload_n 2, 1) := by decide +kernel
theorem d_X10_let_58 : decode prog_12_method_24_code 58 = .ok (.i2l, 1) := by decide +kernel
theorem d_X10_let_59 : decode prog_12_method_24_code 59 = .ok (.lconst 0, 1) := by decide +kernel
theorem d_X10_let_60 : decode prog_12_method_24_code 60 = .ok (.ldc2_w 88, 3) := by decide +kernel
theorem d_X10_let_63 : decode prog_12_method_24_code 63 = .ok (.invokestatic 74, 3) := by decide +kernel
theorem d_X10_let_66 : decode prog_12_method_24_code 66 = .ok (.ifCond .eq 7, 3) := by decide +kernel
theorem d_X10_let_69 : decode prog_12_method_24_code 69 = .ok (.iconst 1, 1) := by decide +kernel
theorem d_X10_let_70 : decode prog_12_method_24_code 70 = .ok (.goto 4, 3) := by decide +kernel
theorem d_X10_let_73 : decode prog_12_method_24_code 73 = .ok (.iconst 0, 1) := by decide +kernel
theorem d_X10_let_74 : decode prog_12_method_24_code 74 = .ok (.istore_n 3, 1) := by decide +kernel
theorem d_X10_let_75 : decode prog_12_method_24_code 75 = .ok (.iload_n 3, 1) := by decide +kernel
theorem d_X10_let_76 : decode prog_12_method_24_code 76 = .ok (.ifCond .eq 14, 3) := by decide +kernel
theorem d_X10_let_79 : decode prog_12_method_24_code 79 = .ok (.aload_n 0, 1) := by decide +kernel
theorem d_X10_let_80 : decode prog_12_method_24_code 80 = .ok (.iconst 4, 1) := by decide +kernel
theorem d_X10_let_81 : decode prog_12_method_24_code 81 = .ok (.iload_n 1, 1) := by decide +kernel
theorem d_X10_let_82 : decode prog_12_method_24_code 82 = .ok (.iadd, 1) := by decide +kernel
theorem d_X10_let_83 : decode prog_12_method_24_code 83 = .ok (.iload_n 2, 1) := by decide +kernel
theorem d_X10_let_84 : decode prog_12_method_24_code 84 = .ok (.invokevirtual 124, 3) := by decide +kernel
theorem d_X10_let_87 : decode prog_12_method_24_code 87 = .ok (.goto 4, 3) := by decide +kernel
theorem d_X10_let_90 : decode prog_12_method_24_code 90 = .ok (.iconst (-1), 1) := by decide +kernel
theorem d_X10_let_91 : decode prog_12_method_24_code 91 = .ok (.ireturn, 1) := by decide +kernel
theorem d_X10_findStrengths_0 : decode prog_12_method_25_code 0 = .ok (.iconst 0, 1) := by decide +kernel
theorem d_X10_findStrengths_1 : decode prog_12_method_25_code 1 = .ok (.istore_n 1, 1) := by decide +kernel
theorem d_X10_findStrengths_2 : decode prog_12_method_25_code 2 = .ok (.iload_n 1, 1) := by decide +kernel
theorem d_X10_findStrengths_3 : decode prog_12_method_25_code 3 = .ok (.aload_n 0, 1) := by decide +kernel
theorem d_X10_findStrengths_4 : decode prog_12_method_25_code 4 = .ok (.getfield 7, 3) := by decide +kernel
theorem d_X10_findStrengths_7 : decode prog_12_method_25_code 7 = .ok (.iconst 0, 1) := by decide +kernel
theorem d_X10_findStrengths_8 : decode prog_12_method_25_code 8 = .ok (.iaload, 1) := by decide +kernel
theorem d_X10_findStrengths_9 : decode prog_12_method_25_code 9 = .ok (.if_icmp .ge 20, 3) := by decide +kernel
theorem d_X10_findStrengths_12 : decode prog_12_method_25_code 12 = .ok (.aload_n 0, 1) := by decide +kernel
theorem d_X10_findStrengths_13 : decode prog_12_method_25_code 13 = .ok (.getfield 22, 3) := by decide +kernel
theorem d_X10_findStrengths_16 : decode prog_12_method_25_code 16 = .ok (.iload_n 1, 1) := by decide +kernel
theorem d_X10_findStrengths_17 : decode prog_12_method_25_code 17 = .ok (.aload_n 0, 1) := by decide +kernel
theorem d_X10_findStrengths_18 : decode prog_12_method_25_code 18 = .ok (.iload_n 1, 1) := by decide +kernel
theorem d_X10_findStrengths_19 : decode prog_12_method_25_code 19 = .ok (.invokevirtual 117, 3) := by decide +kernel
theorem d_X10_findStrengths_22 : decode prog_12_method_25_code 22 = .ok (.iastore, 1) := by decide +kernel
theorem d_X10_findStrengths_23 : decode prog_12_method_25_code 23 = .ok (.iinc 1 1, 3) := by decide +kernel
theorem d_X10_findStrengths_26 : decode prog_12_method_25_code 26 = .ok (.goto (-24), 3) := by decide +kernel
theorem d_X10_findStrengths_29 : decode prog_12_method_25_code 29 = .ok (.return_, 1) := by decide +kernel
theorem d_X10_thinks_0 : decode prog_12_method_26_code 0 = .ok (.aload_n 0, 1) := by decide +kernel
theorem d_X10_thinks_1 : decode prog_12_method_26_code 1 = .ok (.getfield 25, 3) := by decide +kernel
theorem d_X10_thinks_4 : decode prog_12_method_26_code 4 = .ok (.iload_n 1, 1) := by decide +kernel
theorem d_X10_thinks_5 : decode prog_12_method_26_code 5 = .ok (.aload_n 0, 1) := by decide +kernel
theorem d_X10_thinks_6 : decode prog_12_method_26_code 6 = .ok (.getfield 22, 3) := by decide +kernel
theorem d_X10_thinks_9 : decode prog_12_method_26_code 9 = .ok (.iload_n 2, 1) := by decide +kernel
theorem d_X10_thinks_10 : decode prog_12_method_26_code 10 = .ok (.iaload, 1) := by decide +kernel
theorem d_X10_thinks_11 : decode prog_12_method_26_code 11 = .ok (.iastore, 1) := by decide +kernel
theorem d_X10_thinks_12 : decode prog_12_method_26_code 12 = .ok (.aload_n 0, 1) := by decide +kernel
theorem d_X10_thinks_13 : decode prog_12_method_26_code 13 = .ok (.getfield 28, 3) := by decide +kernel
theorem d_X10_thinks_16 : decode prog_12_method_26_code 16 = .ok (.iload_n 1, 1) := by decide +kernel
theorem d_X10_thinks_17 : decode prog_12_method_26_code 17 = .ok (.iload_n 3, 1) := by decide +kernel
theorem d_X10_thinks_18 : decode prog_12_method_26_code 18 = .ok (.ifCond .ne 12, 3) := by decide +kernel
theorem d_X10_thinks_21 : decode prog_12_method_26_code 21 = .ok (.aload_n 0, 1) := by decide +kernel
theorem d_X10_thinks_22 : decode prog_12_method_26_code 22 = .ok (.iload_n 2, 1) := by decide +kernel
theorem d_X10_thinks_23 : decode prog_12_method_26_code 23 = .ok (.iconst 2, 1) := by decide +kernel
theorem d_X10_thinks_24 : decode prog_12_method_26_code 24 = .ok (.invokevirtual 98, 3) := by decide +kernel
theorem d_X10_thinks_27 : decode prog_12_method_26_code 27 = .ok (.goto 19, 3) := by decide +kernel
theorem d_X10_thinks_30 : decode prog_12_method_26_code 30 = .ok (.iload_n 3, 1) := by decide +kernel
theorem d_X10_thinks_31 : decode prog_12_method_26_code 31 = .ok (.iconst 2, 1) := by decide +kernel
theorem d_X10_thinks_32 : decode prog_12_method_26_code 32 = .ok (.if_icmp .ne 13, 3) := by decide +kernel
theorem d_X10_thinks_35 : decode prog_12_method_26_code 35 = .ok (.aload_n 0, 1) := by decide +kernel
theorem d_X10_thinks_36 : decode prog_12_method_26_code 36 = .ok (.iload_n 2, 1) := by decide +kernel
theorem d_X10_thinks_37 : decode prog_12_method_26_code 37 = .ok (.iconst 2, 1) := by decide +kernel
theorem d_X10_thinks_38 : decode prog_12_method_26_code 38 = .ok (.invokevirtual 98, 3) := by decide +kernel
theorem d_X10_thinks_41 : decode prog_12_method_26_code 41 = .ok (.ineg, 1) := by decide +kernel
theorem d_X10_thinks_42 : decode prog_12_method_26_code 42 = .ok (.goto 4, 3) := by decide +kernel
theorem d_X10_thinks_45 : decode prog_12_method_26_code 45 = .ok (.iconst 0, 1) := by decide +kernel
theorem d_X10_thinks_46 : decode prog_12_method_26_code 46 = .ok (.iastore, 1) := by decide +kernel
theorem d_X10_thinks_47 : decode prog_12_method_26_code 47 = .ok (.return_, 1) := by decide +kernel
theorem d_X10_layTube_0 : decode prog_12_method_27_code 0 = .ok (.aload_n 0, 1) := by decide +kernel
theorem d_X10_layTube_1 : decode prog_12_method_27_code 1 = .ok (.invokevirtual 129, 3) := by decide +kernel
theorem d_X10_layTube_4 : decode prog_12_method_27_code 4 = .ok (.aload_n 0, 1) := by decide +kernel
theorem d_X10_layTube_5 : decode prog_12_method_27_code 5 = .ok (.invokevirtual 132, 3) := by decide +kernel
theorem d_X10_layTube_8 : decode prog_12_method_27_code 8 = .ok (.return_, 1) := by decide +kernel
theorem d_X10_layPlaces_0 : decode prog_12_method_28_code 0 = .ok (.aload_n 0, 1) := by decide +kernel
theorem d_X10_layPlaces_1 : decode prog_12_method_28_code 1 = .ok (.aload_n 0, 1) := by decide +kernel
theorem d_X10_layPlaces_2 : decode prog_12_method_28_code 2 = .ok (.getfield 7, 3) := by decide +kernel
theorem d_X10_layPlaces_5 : decode prog_12_method_28_code 5 = .ok (.iconst 2, 1) := by decide +kernel
theorem d_X10_layPlaces_6 : decode prog_12_method_28_code 6 = .ok (.iaload, 1) := by decide +kernel
theorem d_X10_layPlaces_7 : decode prog_12_method_28_code 7 = .ok (.putfield 135, 3) := by decide +kernel
theorem d_X10_layPlaces_10 : decode prog_12_method_28_code 10 = .ok (.iconst 0, 1) := by decide +kernel
theorem d_X10_layPlaces_11 : decode prog_12_method_28_code 11 = .ok (.istore_n 1, 1) := by decide +kernel
theorem d_X10_layPlaces_12 : decode prog_12_method_28_code 12 = .ok (.iload_n 1, 1) := by decide +kernel
theorem d_X10_layPlaces_13 : decode prog_12_method_28_code 13 = .ok (.aload_n 0, 1) := by decide +kernel
theorem d_X10_layPlaces_14 : decode prog_12_method_28_code 14 = .ok (.getfield 135, 3) := by decide +kernel
theorem d_X10_layPlaces_17 : decode prog_12_method_28_code 17 = .ok (.if_icmp .ge 38, 3) := by decide +kernel
theorem d_X10_layPlaces_20 : decode prog_12_method_28_code 20 = .ok (.aload_n 0, 1) := by decide +kernel
theorem d_X10_layPlaces_21 : decode prog_12_method_28_code 21 = .ok (.iload_n 1, 1) := by decide +kernel
theorem d_X10_layPlaces_22 : decode prog_12_method_28_code 22 = .ok (.aload_n 0, 1) := by decide +kernel
theorem d_X10_layPlaces_23 : decode prog_12_method_28_code 23 = .ok (.getfield 7, 3) := by decide +kernel
theorem d_X10_layPlaces_26 : decode prog_12_method_28_code 26 = .ok (.bipush 45, 2) := by decide +kernel
theorem d_X10_layPlaces_28 : decode prog_12_method_28_code 28 = .ok (.iconst 2, 1) := by decide +kernel
theorem d_X10_layPlaces_29 : decode prog_12_method_28_code 29 = .ok (.iload_n 1, 1) := by decide +kernel
theorem d_X10_layPlaces_30 : decode prog_12_method_28_code 30 = .ok (.imul, 1) := by decide +kernel
theorem d_X10_layPlaces_31 : decode prog_12_method_28_code 31 = .ok (.iadd, 1) := by decide +kernel
theorem d_X10_layPlaces_32 : decode prog_12_method_28_code 32 = .ok (.iaload, 1) := by decide +kernel
theorem d_X10_layPlaces_33 : decode prog_12_method_28_code 33 = .ok (.aload_n 0, 1) := by decide +kernel
theorem d_X10_layPlaces_34 : decode prog_12_method_28_code 34 = .ok (.getfield 7, 3) := by decide +kernel
theorem d_X10_layPlaces_37 : decode prog_12_method_28_code 37 = .ok (.bipush 45, 2) := by decide +kernel
theorem d_X10_layPlaces_39 : decode prog_12_method_28_code 39 = .ok (.iconst 2, 1) := by decide +kernel
theorem d_X10_layPlaces_40 : decode prog_12_method_28_code 40 = .ok (.iload_n 1, 1) := by decide +kernel
theorem d_X10_layPlaces_41 : decode prog_12_method_28_code 41 = .ok (.imul, 1) := by decide +kernel
theorem d_X10_layPlaces_42 : decode prog_12_method_28_code 42 = .ok (.iadd, 1) := by decide +kernel
theorem d_X10_layPlaces_43 : decode prog_12_method_28_code 43 = .ok (.iconst 1, 1) := by decide +kernel
theorem d_X10_layPlaces_44 : decode prog_12_method_28_code 44 = .ok (.iadd, 1) := by decide +kernel
theorem d_X10_layPlaces_45 : decode prog_12_method_28_code 45 = .ok (.iaload, 1) := by decide +kernel
theorem d_X10_layPlaces_46 : decode prog_12_method_28_code 46 = .ok (.invokevirtual 139, 3) := by decide +kernel
theorem d_X10_layPlaces_49 : decode prog_12_method_28_code 49 = .ok (.iinc 1 1, 3) := by decide +kernel
theorem d_X10_layPlaces_52 : decode prog_12_method_28_code 52 = .ok (.goto (-40), 3) := by decide +kernel
theorem d_X10_layPlaces_55 : decode prog_12_method_28_code 55 = .ok (.return_, 1) := by decide +kernel
theorem d_X10_through_0 : decode prog_12_method_29_code 0 = .ok (.aload_n 0, 1) := by decide +kernel
theorem d_X10_through_1 : decode prog_12_method_29_code 1 = .ok (.dup, 1) := by decide +kernel
theorem d_X10_through_2 : decode prog_12_method_29_code 2 = .ok (.getfield 143, 3) := by decide +kernel
theorem d_X10_through_5 : decode prog_12_method_29_code 5 = .ok (.iload_n 2, 1) := by decide +kernel
theorem d_X10_through_6 : decode prog_12_method_29_code 6 = .ok (.iload_n 1, 1) := by decide +kernel
theorem d_X10_through_7 : decode prog_12_method_29_code 7 = .ok (.aload_n 0, 1) := by decide +kernel
theorem d_X10_through_8 : decode prog_12_method_29_code 8 = .ok (.getfield 146, 3) := by decide +kernel
theorem d_X10_through_11 : decode prog_12_method_29_code 11 = .ok (.imul, 1) := by decide +kernel
theorem d_X10_through_12 : decode prog_12_method_29_code 12 = .ok (.isub, 1) := by decide +kernel
theorem d_X10_through_13 : decode prog_12_method_29_code 13 = .ok (.iadd, 1) := by decide +kernel
theorem d_X10_through_14 : decode prog_12_method_29_code 14 = .ok (.putfield 143, 3) := by decide +kernel
theorem d_X10_through_17 : decode prog_12_method_29_code 17 = .ok (.aload_n 0, 1) := by decide +kernel
theorem d_X10_through_18 : decode prog_12_method_29_code 18 = .ok (.dup, 1) := by decide +kernel
theorem d_X10_through_19 : decode prog_12_method_29_code 19 = .ok (.getfield 146, 3) := by decide +kernel
theorem d_X10_through_22 : decode prog_12_method_29_code 22 = .ok (.aload_n 0, 1) := by decide +kernel
theorem d_X10_through_23 : decode prog_12_method_29_code 23 = .ok (.getfield 7, 3) := by decide +kernel
theorem d_X10_through_26 : decode prog_12_method_29_code 26 = .ok (.iconst 5, 1) := by decide +kernel
theorem d_X10_through_27 : decode prog_12_method_29_code 27 = .ok (.iaload, 1) := by decide +kernel
theorem d_X10_through_28 : decode prog_12_method_29_code 28 = .ok (.aload_n 0, 1) := by decide +kernel
theorem d_X10_through_29 : decode prog_12_method_29_code 29 = .ok (.getfield 143, 3) := by decide +kernel
theorem d_X10_through_32 : decode prog_12_method_29_code 32 = .ok (.imul, 1) := by decide +kernel
theorem d_X10_through_33 : decode prog_12_method_29_code 33 = .ok (.iadd, 1) := by decide +kernel
theorem d_X10_through_34 : decode prog_12_method_29_code 34 = .ok (.putfield 146, 3) := by decide +kernel
theorem d_X10_through_37 : decode prog_12_method_29_code 37 = .ok (.return_, 1) := by decide +kernel
theorem d_X10_seenBy_0 : decode prog_12_method_30_code 0 = .ok (.aload_n 0, 1) := by decide +kernel
theorem d_X10_seenBy_1 : decode prog_12_method_30_code 1 = .ok (.iload_n 1, 1) := by decide +kernel
theorem d_X10_seenBy_2 : decode prog_12_method_30_code 2 = .ok (.putfield 146, 3) := by decide +kernel
theorem d_X10_seenBy_5 : decode prog_12_method_30_code 5 = .ok (.aload_n 0, 1) := by decide +kernel
theorem d_X10_seenBy_6 : decode prog_12_method_30_code 6 = .ok (.iconst 0, 1) := by decide +kernel
theorem d_X10_seenBy_7 : decode prog_12_method_30_code 7 = .ok (.putfield 143, 3) := by decide +kernel
theorem d_X10_seenBy_10 : decode prog_12_method_30_code 10 = .ok (.iconst 0, 1) := by decide +kernel
theorem d_X10_seenBy_11 : decode prog_12_method_30_code 11 = .ok (.istore_n 2, 1) := by decide +kernel
theorem d_X10_seenBy_12 : decode prog_12_method_30_code 12 = .ok (.iload_n 2, 1) := by decide +kernel
theorem d_X10_seenBy_13 : decode prog_12_method_30_code 13 = .ok (.aload_n 0, 1) := by decide +kernel
theorem d_X10_seenBy_14 : decode prog_12_method_30_code 14 = .ok (.getfield 135, 3) := by decide +kernel
theorem d_X10_seenBy_17 : decode prog_12_method_30_code 17 = .ok (.if_icmp .ge 25, 3) := by decide +kernel
theorem d_X10_seenBy_20 : decode prog_12_method_30_code 20 = .ok (.aload_n 0, 1) := by decide +kernel
theorem d_X10_seenBy_21 : decode prog_12_method_30_code 21 = .ok (.aload_n 0, 1) := by decide +kernel
theorem d_X10_seenBy_22 : decode prog_12_method_30_code 22 = .ok (.getfield 25, 3) := by decide +kernel
theorem d_X10_seenBy_25 : decode prog_12_method_30_code 25 = .ok (.iload_n 2, 1) := by decide +kernel
theorem d_X10_seenBy_26 : decode prog_12_method_30_code 26 = .ok (.iaload, 1) := by decide +kernel
theorem d_X10_seenBy_27 : decode prog_12_method_30_code 27 = .ok (.aload_n 0, 1) := by decide +kernel
theorem d_X10_seenBy_28 : decode prog_12_method_30_code 28 = .ok (.getfield 28, 3) := by decide +kernel
theorem d_X10_seenBy_31 : decode prog_12_method_30_code 31 = .ok (.iload_n 2, 1) := by decide +kernel
theorem d_X10_seenBy_32 : decode prog_12_method_30_code 32 = .ok (.iaload, 1) := by decide +kernel
theorem d_X10_seenBy_33 : decode prog_12_method_30_code 33 = .ok (.invokevirtual 149, 3) := by decide +kernel
theorem d_X10_seenBy_36 : decode prog_12_method_30_code 36 = .ok (.iinc 2 1, 3) := by decide +kernel
theorem d_X10_seenBy_39 : decode prog_12_method_30_code 39 = .ok (.goto (-27), 3) := by decide +kernel
theorem d_X10_seenBy_42 : decode prog_12_method_30_code 42 = .ok (.aload_n 0, 1) := by decide +kernel
theorem d_X10_seenBy_43 : decode prog_12_method_30_code 43 = .ok (.aload_n 0, 1) := by decide +kernel
theorem d_X10_seenBy_44 : decode prog_12_method_30_code 44 = .ok (.getfield 7, 3) := by decide +kernel
theorem d_X10_seenBy_47 : decode prog_12_method_30_code 47 = .ok (.bipush 6, 2) := by decide +kernel
theorem d_X10_seenBy_49 : decode prog_12_method_30_code 49 = .ok (.iaload, 1) := by decide +kernel
theorem d_X10_seenBy_50 : decode prog_12_method_30_code 50 = .ok (.iconst 0, 1) := by decide +kernel
theorem d_X10_seenBy_51 : decode prog_12_method_30_code 51 = .ok (.invokevirtual 149, 3) := by decide +kernel
theorem d_X10_seenBy_54 : decode prog_12_method_30_code 54 = .ok (.aload_n 0, 1) := by decide +kernel
theorem d_X10_seenBy_55 : decode prog_12_method_30_code 55 = .ok (.getfield 146, 3) := by decide +kernel
theorem d_X10_seenBy_58 : decode prog_12_method_30_code 58 = .ok (.ireturn, 1) := by decide +kernel
theorem d_X10_wrongOf_0 : decode prog_12_method_31_code 0 = .ok (.aload_n 0, 1) := by decide +kernel
theorem d_X10_wrongOf_1 : decode prog_12_method_31_code 1 = .ok (.iconst 0, 1) := by decide +kernel
theorem d_X10_wrongOf_2 : decode prog_12_method_31_code 2 = .ok (.invokevirtual 153, 3) := by decide +kernel
theorem d_X10_wrongOf_5 : decode prog_12_method_31_code 5 = .ok (.istore_n 1, 1) := by decide +kernel
theorem d_X10_wrongOf_6 : decode prog_12_method_31_code 6 = .ok (.iload_n 1, 1) := by decide +kernel
theorem d_X10_wrongOf_7 : decode prog_12_method_31_code 7 = .ok (.invokestatic 156, 3) := by decide +kernel
theorem d_X10_wrongOf_10 : decode prog_12_method_31_code 10 = .ok (.aload_n 0, 1) := by decide +kernel
theorem d_X10_wrongOf_11 : decode prog_12_method_31_code 11 = .ok (.iconst 1, 1) := by decide +kernel
theorem d_X10_wrongOf_12 : decode prog_12_method_31_code 12 = .ok (.invokevirtual 153, 3) := by decide +kernel
theorem d_X10_wrongOf_15 : decode prog_12_method_31_code 15 = .ok (.iload_n 1, 1) := by decide +kernel
theorem d_X10_wrongOf_16 : decode prog_12_method_31_code 16 = .ok (.isub, 1) := by decide +kernel
theorem d_X10_wrongOf_17 : decode prog_12_method_31_code 17 = .ok (.invokestatic 156, 3) := by decide +kernel
theorem d_X10_wrongOf_20 : decode prog_12_method_31_code 20 = .ok (.iadd, 1) := by decide +kernel
theorem d_X10_wrongOf_21 : decode prog_12_method_31_code 21 = .ok (.ireturn, 1) := by decide +kernel
theorem d_X10_isMended_0 : decode prog_12_method_32_code 0 = .ok (.aload_n 0, 1) := by decide +kernel
theorem d_X10_isMended_1 : decode prog_12_method_32_code 1 = .ok (.invokevirtual 159, 3) := by decide +kernel
theorem d_X10_isMended_4 : decode prog_12_method_32_code 4 = .ok (.aload_n 0, 1) := by decide +kernel
theorem d_X10_isMended_5 : decode prog_12_method_32_code 5 = .ok (.getfield 7, 3) := by decide +kernel
theorem d_X10_isMended_8 : decode prog_12_method_32_code 8 = .ok (.bipush 7, 2) := by decide +kernel
theorem d_X10_isMended_10 : decode prog_12_method_32_code 10 = .ok (.iaload, 1) := by decide +kernel
theorem d_X10_isMended_11 : decode prog_12_method_32_code 11 = .ok (.if_icmp .gt 7, 3) := by decide +kernel
theorem d_X10_isMended_14 : decode prog_12_method_32_code 14 = .ok (.iconst 1, 1) := by decide +kernel
theorem d_X10_isMended_15 : decode prog_12_method_32_code 15 = .ok (.goto 4, 3) := by decide +kernel
theorem d_X10_isMended_18 : decode prog_12_method_32_code 18 = .ok (.iconst 0, 1) := by decide +kernel
theorem d_X10_isMended_19 : decode prog_12_method_32_code 19 = .ok (.ireturn, 1) := by decide +kernel
theorem d_X10_isHeight_0 : decode prog_12_method_33_code 0 = .ok (.iload_n 0, 1) := by decide +kernel
theorem d_X10_isHeight_1 : decode prog_12_method_33_code 1 = .ok (.i2l, 1) := by decide +kernel
theorem d_X10_isHeight_2 : decode prog_12_method_33_code 2 = .ok (.ldc2_w 84, 3) := by decide +kernel
theorem d_X10_isHeight_5 : decode prog_12_method_33_code 5 = .ok (.ldc2_w 86, 3) := by decide +kernel
theorem d_X10_isHeight_8 : decode prog_12_method_33_code 8 = .ok (.invokestatic 74, 3) := by decide +kernel
theorem d_X10_isHeight_11 : decode prog_12_method_33_code 11 = .ok (.ireturn, 1) := by decide +kernel
theorem d_X10_seen_0 : decode prog_12_method_34_code 0 = .ok (.iload_n 1, 1) := by decide +kernel
theorem d_X10_seen_1 : decode prog_12_method_34_code 1 = .ok (.invokestatic 163, 3) := by decide +kernel
theorem d_X10_seen_4 : decode prog_12_method_34_code 4 = .ok (.ifCond .ne 5, 3) := by decide +kernel
theorem d_X10_seen_7 : decode prog_12_method_34_code 7 = .ok (.iconst (-1), 1) := by decide +kernel
theorem d_X10_seen_8 : decode prog_12_method_34_code 8 = .ok (.ireturn, 1) := by decide +kernel
theorem d_X10_seen_9 : decode prog_12_method_34_code 9 = .ok (.aload_n 0, 1) := by decide +kernel
theorem d_X10_seen_10 : decode prog_12_method_34_code 10 = .ok (.invokevirtual 166, 3) := by decide +kernel
theorem d_X10_seen_13 : decode prog_12_method_34_code 13 = .ok (.aload_n 0, 1) := by decide +kernel
theorem d_X10_seen_14 : decode prog_12_method_34_code 14 = .ok (.iload_n 1, 1) := by decide +kernel
theorem d_X10_seen_15 : decode prog_12_method_34_code 15 = .ok (.invokevirtual 153, 3) := by decide +kernel
theorem d_X10_seen_18 : decode prog_12_method_34_code 18 = .ok (.ireturn, 1) := by decide +kernel
theorem d_X10_shift_0 : decode prog_12_method_35_code 0 = .ok (.aload_n 0, 1) := by decide +kernel
theorem d_X10_shift_1 : decode prog_12_method_35_code 1 = .ok (.invokevirtual 166, 3) := by decide +kernel
theorem d_X10_shift_4 : decode prog_12_method_35_code 4 = .ok (.aload_n 0, 1) := by decide +kernel
theorem d_X10_shift_5 : decode prog_12_method_35_code 5 = .ok (.iconst 0, 1) := by decide +kernel
theorem d_X10_shift_6 : decode prog_12_method_35_code 6 = .ok (.invokevirtual 153, 3) := by decide +kernel
theorem d_X10_shift_9 : decode prog_12_method_35_code 9 = .ok (.invokestatic 156, 3) := by decide +kernel
theorem d_X10_shift_12 : decode prog_12_method_35_code 12 = .ok (.ireturn, 1) := by decide +kernel
theorem d_X10_blur_0 : decode prog_12_method_36_code 0 = .ok (.aload_n 0, 1) := by decide +kernel
theorem d_X10_blur_1 : decode prog_12_method_36_code 1 = .ok (.invokevirtual 166, 3) := by decide +kernel
theorem d_X10_blur_4 : decode prog_12_method_36_code 4 = .ok (.aload_n 0, 1) := by decide +kernel
theorem d_X10_blur_5 : decode prog_12_method_36_code 5 = .ok (.iconst 0, 1) := by decide +kernel
theorem d_X10_blur_6 : decode prog_12_method_36_code 6 = .ok (.invokevirtual 153, 3) := by decide +kernel
theorem d_X10_blur_9 : decode prog_12_method_36_code 9 = .ok (.istore_n 1, 1) := by decide +kernel
theorem d_X10_blur_10 : decode prog_12_method_36_code 10 = .ok (.aload_n 0, 1) := by decide +kernel
theorem d_X10_blur_11 : decode prog_12_method_36_code 11 = .ok (.iconst 1, 1) := by decide +kernel
theorem d_X10_blur_12 : decode prog_12_method_36_code 12 = .ok (.invokevirtual 153, 3) := by decide +kernel
theorem d_X10_blur_15 : decode prog_12_method_36_code 15 = .ok (.iload_n 1, 1) := by decide +kernel
theorem d_X10_blur_16 : decode prog_12_method_36_code 16 = .ok (.isub, 1) := by decide +kernel
theorem d_X10_blur_17 : decode prog_12_method_36_code 17 = .ok (.invokestatic 156, 3) := by decide +kernel
theorem d_X10_blur_20 : decode prog_12_method_36_code 20 = .ok (.ireturn, 1) := by decide +kernel
theorem d_X10_wrong_0 : decode prog_12_method_37_code 0 = .ok (.aload_n 0, 1) := by decide +kernel
theorem d_X10_wrong_1 : decode prog_12_method_37_code 1 = .ok (.invokevirtual 166, 3) := by decide +kernel
theorem d_X10_wrong_4 : decode prog_12_method_37_code 4 = .ok (.aload_n 0, 1) := by decide +kernel
theorem d_X10_wrong_5 : decode prog_12_method_37_code 5 = .ok (.invokevirtual 159, 3) := by decide +kernel
theorem d_X10_wrong_8 : decode prog_12_method_37_code 8 = .ok (.ireturn, 1) := by decide +kernel
theorem d_X10_mended_0 : decode prog_12_method_38_code 0 = .ok (.aload_n 0, 1) := by decide +kernel
theorem d_X10_mended_1 : decode prog_12_method_38_code 1 = .ok (.invokevirtual 166, 3) := by decide +kernel
theorem d_X10_mended_4 : decode prog_12_method_38_code 4 = .ok (.aload_n 0, 1) := by decide +kernel
theorem d_X10_mended_5 : decode prog_12_method_38_code 5 = .ok (.invokevirtual 169, 3) := by decide +kernel
theorem d_X10_mended_8 : decode prog_12_method_38_code 8 = .ok (.ifCond .eq 7, 3) := by decide +kernel
theorem d_X10_mended_11 : decode prog_12_method_38_code 11 = .ok (.iconst 1, 1) := by decide +kernel
theorem d_X10_mended_12 : decode prog_12_method_38_code 12 = .ok (.goto 4, 3) := by decide +kernel
theorem d_X10_mended_15 : decode prog_12_method_38_code 15 = .ok (.iconst 0, 1) := by decide +kernel
theorem d_X10_mended_16 : decode prog_12_method_38_code 16 = .ok (.ireturn, 1) := by decide +kernel
theorem d_X10_isTurn_0 : decode prog_12_method_39_code 0 = .ok (.iload_n 0, 1) := by decide +kernel
theorem d_X10_isTurn_1 : decode prog_12_method_39_code 1 = .ok (.i2l, 1) := by decide +kernel
theorem d_X10_isTurn_2 : decode prog_12_method_39_code 2 = .ok (.lconst 0, 1) := by decide +kernel
theorem d_X10_isTurn_3 : decode prog_12_method_39_code 3 = .ok (.ldc2_w 127, 3) := by decide +kernel
theorem d_X10_isTurn_6 : decode prog_12_method_39_code 6 = .ok (.invokestatic 74, 3) := by decide +kernel
theorem d_X10_isTurn_9 : decode prog_12_method_39_code 9 = .ok (.ireturn, 1) := by decide +kernel
theorem d_X10_comes_0 : decode prog_12_method_40_code 0 = .ok (.aload_n 0, 1) := by decide +kernel
theorem d_X10_comes_1 : decode prog_12_method_40_code 1 = .ok (.getfield 7, 3) := by decide +kernel
theorem d_X10_comes_4 : decode prog_12_method_40_code 4 = .ok (.bipush 45, 2) := by decide +kernel
theorem d_X10_comes_6 : decode prog_12_method_40_code 6 = .ok (.iconst 2, 1) := by decide +kernel
theorem d_X10_comes_7 : decode prog_12_method_40_code 7 = .ok (.aload_n 0, 1) := by decide +kernel
theorem d_X10_comes_8 : decode prog_12_method_40_code 8 = .ok (.getfield 7, 3) := by decide +kernel
theorem d_X10_comes_11 : decode prog_12_method_40_code 11 = .ok (.iconst 2, 1) := by decide +kernel
theorem d_X10_comes_12 : decode prog_12_method_40_code 12 = .ok (.iaload, 1) := by decide +kernel
theorem d_X10_comes_13 : decode prog_12_method_40_code 13 = .ok (.imul, 1) := by decide +kernel
theorem d_X10_comes_14 : decode prog_12_method_40_code 14 = .ok (.iadd, 1) := by decide +kernel
theorem d_X10_comes_15 : decode prog_12_method_40_code 15 = .ok (.iload_n 1, 1) := by decide +kernel
theorem d_X10_comes_16 : decode prog_12_method_40_code 16 = .ok (.iastore, 1) := by decide +kernel
theorem d_X10_comes_17 : decode prog_12_method_40_code 17 = .ok (.aload_n 0, 1) := by decide +kernel
theorem d_X10_comes_18 : decode prog_12_method_40_code 18 = .ok (.getfield 7, 3) := by decide +kernel
theorem d_X10_comes_21 : decode prog_12_method_40_code 21 = .ok (.bipush 45, 2) := by decide +kernel
theorem d_X10_comes_23 : decode prog_12_method_40_code 23 = .ok (.iconst 2, 1) := by decide +kernel
theorem d_X10_comes_24 : decode prog_12_method_40_code 24 = .ok (.aload_n 0, 1) := by decide +kernel
theorem d_X10_comes_25 : decode prog_12_method_40_code 25 = .ok (.getfield 7, 3) := by decide +kernel
theorem d_X10_comes_28 : decode prog_12_method_40_code 28 = .ok (.iconst 2, 1) := by decide +kernel
theorem d_X10_comes_29 : decode prog_12_method_40_code 29 = .ok (.iaload, 1) := by decide +kernel
theorem d_X10_comes_30 : decode prog_12_method_40_code 30 = .ok (.imul, 1) := by decide +kernel
theorem d_X10_comes_31 : decode prog_12_method_40_code 31 = .ok (.iadd, 1) := by decide +kernel
theorem d_X10_comes_32 : decode prog_12_method_40_code 32 = .ok (.iconst 1, 1) := by decide +kernel
theorem d_X10_comes_33 : decode prog_12_method_40_code 33 = .ok (.iadd, 1) := by decide +kernel
theorem d_X10_comes_34 : decode prog_12_method_40_code 34 = .ok (.iload_n 2, 1) := by decide +kernel
theorem d_X10_comes_35 : decode prog_12_method_40_code 35 = .ok (.iastore, 1) := by decide +kernel
theorem d_X10_comes_36 : decode prog_12_method_40_code 36 = .ok (.aload_n 0, 1) := by decide +kernel
theorem d_X10_comes_37 : decode prog_12_method_40_code 37 = .ok (.getfield 7, 3) := by decide +kernel
theorem d_X10_comes_40 : decode prog_12_method_40_code 40 = .ok (.iconst 2, 1) := by decide +kernel
theorem d_X10_comes_41 : decode prog_12_method_40_code 41 = .ok (.dup2, 1) := by decide +kernel
theorem d_X10_comes_42 : decode prog_12_method_40_code 42 = .ok (.iaload, 1) := by decide +kernel
theorem d_X10_comes_43 : decode prog_12_method_40_code 43 = .ok (.iconst 1, 1) := by decide +kernel
theorem d_X10_comes_44 : decode prog_12_method_40_code 44 = .ok (.iadd, 1) := by decide +kernel
theorem d_X10_comes_45 : decode prog_12_method_40_code 45 = .ok (.iastore, 1) := by decide +kernel
theorem d_X10_comes_46 : decode prog_12_method_40_code 46 = .ok (.return_, 1) := by decide +kernel
theorem d_X10_fit_0 : decode prog_12_method_41_code 0 = .ok (.aload_n 0, 1) := by decide +kernel
theorem d_X10_fit_1 : decode prog_12_method_41_code 1 = .ok (.iload_n 1, 1) := by decide +kernel
theorem d_X10_fit_2 : decode prog_12_method_41_code 2 = .ok (.invokevirtual 114, 3) := by decide +kernel
theorem d_X10_fit_5 : decode prog_12_method_41_code 5 = .ok (.ifCond .eq 10, 3) := by decide +kernel
theorem d_X10_fit_8 : decode prog_12_method_41_code 8 = .ok (.iload_n 2, 1) := by decide +kernel
theorem d_X10_fit_9 : decode prog_12_method_41_code 9 = .ok (.invokestatic 173, 3) := by decide +kernel
theorem d_X10_fit_12 : decode prog_12_method_41_code 12 = .ok (.ifCond .ne 5, 3) := by decide +kernel
theorem d_X10_fit_15 : decode prog_12_method_41_code 15 = .ok (.iconst (-1), 1) := by decide +kernel
theorem d_X10_fit_16 : decode prog_12_method_41_code 16 = .ok (.ireturn, 1) := by decide +kernel
theorem d_X10_fit_17 : decode prog_12_method_41_code 17 = .ok (.aload_n 0, 1) := by decide +kernel
theorem d_X10_fit_18 : decode prog_12_method_41_code 18 = .ok (.getfield 7, 3) := by decide +kernel
theorem d_X10_fit_21 : decode prog_12_method_41_code 21 = .ok (.iconst 2, 1) := by decide +kernel
theorem d_X10_fit_22 : decode prog_12_method_41_code 22 = .ok (.iaload, 1) := by decide +kernel
theorem d_X10_fit_23 : decode prog_12_method_41_code 23 = .ok (.iconst 4, 1) := by decide +kernel
theorem d_X10_fit_24 : decode prog_12_method_41_code 24 = .ok (.if_icmp .ne 6, 3) := by decide +kernel
theorem d_X10_fit_27 : decode prog_12_method_41_code 27 = .ok (.bipush (-2), 2) := by decide +kernel
theorem d_X10_fit_29 : decode prog_12_method_41_code 29 = .ok (.ireturn, 1) := by decide +kernel
theorem d_X10_fit_30 : decode prog_12_method_41_code 30 = .ok (.aload_n 0, 1) := by decide +kernel
theorem d_X10_fit_31 : decode prog_12_method_41_code 31 = .ok (.iload_n 1, 1) := by decide +kernel
theorem d_X10_fit_32 : decode prog_12_method_41_code 32 = .ok (.invokevirtual 121, 3) := by decide +kernel
theorem d_X10_fit_35 : decode prog_12_method_41_code 35 = .ok (.ifCond .lt 6, 3) := by decide +kernel
theorem d_X10_fit_38 : decode prog_12_method_41_code 38 = .ok (.bipush (-4), 2) := by decide +kernel
theorem d_X10_fit_40 : decode prog_12_method_41_code 40 = .ok (.ireturn, 1) := by decide +kernel
theorem d_X10_fit_41 : decode prog_12_method_41_code 41 = .ok (.aload_n 0, 1) := by decide +kernel
theorem d_X10_fit_42 : decode prog_12_method_41_code 42 = .ok (.iload_n 1, 1) := by decide +kernel
theorem d_X10_fit_43 : decode prog_12_method_41_code 43 = .ok (.iload_n 2, 1) := by decide +kernel
theorem d_X10_fit_44 : decode prog_12_method_41_code 44 = .ok (.invokevirtual 176, 3) := by decide +kernel
theorem d_X10_fit_47 : decode prog_12_method_41_code 47 = .ok (.aload_n 0, 1) := by decide +kernel
theorem d_X10_fit_48 : decode prog_12_method_41_code 48 = .ok (.getfield 7, 3) := by decide +kernel
theorem d_X10_fit_51 : decode prog_12_method_41_code 51 = .ok (.iconst 2, 1) := by decide +kernel
theorem d_X10_fit_52 : decode prog_12_method_41_code 52 = .ok (.iaload, 1) := by decide +kernel
theorem d_X10_fit_53 : decode prog_12_method_41_code 53 = .ok (.iconst 1, 1) := by decide +kernel
theorem d_X10_fit_54 : decode prog_12_method_41_code 54 = .ok (.isub, 1) := by decide +kernel
theorem d_X10_fit_55 : decode prog_12_method_41_code 55 = .ok (.ireturn, 1) := by decide +kernel
theorem d_X10_take_0 : decode prog_12_method_42_code 0 = .ok (.aload_n 0, 1) := by decide +kernel
theorem d_X10_take_1 : decode prog_12_method_42_code 1 = .ok (.iload_n 1, 1) := by decide +kernel
theorem d_X10_take_2 : decode prog_12_method_42_code 2 = .ok (.invokevirtual 179, 3) := by decide +kernel
theorem d_X10_take_5 : decode prog_12_method_42_code 5 = .ok (.ifCond .ne 5, 3) := by decide +kernel
theorem d_X10_take_8 : decode prog_12_method_42_code 8 = .ok (.iconst (-1), 1) := by decide +kernel
theorem d_X10_take_9 : decode prog_12_method_42_code 9 = .ok (.ireturn, 1) := by decide +kernel
theorem d_X10_take_10 : decode prog_12_method_42_code 10 = .ok (.aload_n 0, 1) := by decide +kernel
theorem d_X10_take_11 : decode prog_12_method_42_code 11 = .ok (.getfield 7, 3) := by decide +kernel
theorem d_X10_take_14 : decode prog_12_method_42_code 14 = .ok (.bipush 45, 2) := by decide +kernel
theorem d_X10_take_16 : decode prog_12_method_42_code 16 = .ok (.iconst 2, 1) := by decide +kernel
theorem d_X10_take_17 : decode prog_12_method_42_code 17 = .ok (.iload_n 1, 1) := by decide +kernel
theorem d_X10_take_18 : decode prog_12_method_42_code 18 = .ok (.imul, 1) := by decide +kernel
theorem d_X10_take_19 : decode prog_12_method_42_code 19 = .ok (.iadd, 1) := by decide +kernel
theorem d_X10_take_20 : decode prog_12_method_42_code 20 = .ok (.iaload, 1) := by decide +kernel
theorem d_X10_take_21 : decode prog_12_method_42_code 21 = .ok (.istore_n 2, 1) := by decide +kernel
theorem d_X10_take_22 : decode prog_12_method_42_code 22 = .ok (.aload_n 0, 1) := by decide +kernel
theorem d_X10_take_23 : decode prog_12_method_42_code 23 = .ok (.getfield 7, 3) := by decide +kernel
theorem d_X10_take_26 : decode prog_12_method_42_code 26 = .ok (.iconst 2, 1) := by decide +kernel
theorem d_X10_take_27 : decode prog_12_method_42_code 27 = .ok (.dup2, 1) := by decide +kernel
theorem d_X10_take_28 : decode prog_12_method_42_code 28 = .ok (.iaload, 1) := by decide +kernel
theorem d_X10_take_29 : decode prog_12_method_42_code 29 = .ok (.iconst 1, 1) := by decide +kernel
theorem d_X10_take_30 : decode prog_12_method_42_code 30 = .ok (.isub, 1) := by decide +kernel
theorem d_X10_take_31 : decode prog_12_method_42_code 31 = .ok (.iastore, 1) := by decide +kernel
theorem d_X10_take_32 : decode prog_12_method_42_code 32 = .ok (.bipush 45, 2) := by decide +kernel
theorem d_X10_take_34 : decode prog_12_method_42_code 34 = .ok (.iconst 2, 1) := by decide +kernel
theorem d_X10_take_35 : decode prog_12_method_42_code 35 = .ok (.iload_n 1, 1) := by decide +kernel
theorem d_X10_take_36 : decode prog_12_method_42_code 36 = .ok (.imul, 1) := by decide +kernel
theorem d_X10_take_37 : decode prog_12_method_42_code 37 = .ok (.iadd, 1) := by decide +kernel
theorem d_X10_take_38 : decode prog_12_method_42_code 38 = .ok (.istore_n 3, 1) := by decide +kernel
theorem d_X10_take_39 : decode prog_12_method_42_code 39 = .ok (.iload_n 3, 1) := by decide +kernel
theorem d_X10_take_40 : decode prog_12_method_42_code 40 = .ok (.bipush 45, 2) := by decide +kernel
theorem d_X10_take_42 : decode prog_12_method_42_code 42 = .ok (.iconst 2, 1) := by decide +kernel
theorem d_X10_take_43 : decode prog_12_method_42_code 43 = .ok (.aload_n 0, 1) := by decide +kernel
theorem d_X10_take_44 : decode prog_12_method_42_code 44 = .ok (.getfield 7, 3) := by decide +kernel
theorem d_X10_take_47 : decode prog_12_method_42_code 47 = .ok (.iconst 2, 1) := by decide +kernel
theorem d_X10_take_48 : decode prog_12_method_42_code 48 = .ok (.iaload, 1) := by decide +kernel
theorem d_X10_take_49 : decode prog_12_method_42_code 49 = .ok (.imul, 1) := by decide +kernel
theorem d_X10_take_50 : decode prog_12_method_42_code 50 = .ok (.iadd, 1) := by decide +kernel
theorem d_X10_take_51 : decode prog_12_method_42_code 51 = .ok (.if_icmp .ge 23, 3) := by decide +kernel
theorem d_X10_take_54 : decode prog_12_method_42_code 54 = .ok (.aload_n 0, 1) := by decide +kernel
theorem d_X10_take_55 : decode prog_12_method_42_code 55 = .ok (.getfield 7, 3) := by decide +kernel
theorem d_X10_take_58 : decode prog_12_method_42_code 58 = .ok (.iload_n 3, 1) := by decide +kernel
theorem d_X10_take_59 : decode prog_12_method_42_code 59 = .ok (.aload_n 0, 1) := by decide +kernel
theorem d_X10_take_60 : decode prog_12_method_42_code 60 = .ok (.getfield 7, 3) := by decide +kernel
theorem d_X10_take_63 : decode prog_12_method_42_code 63 = .ok (.iload_n 3, 1) := by decide +kernel
theorem d_X10_take_64 : decode prog_12_method_42_code 64 = .ok (.iconst 2, 1) := by decide +kernel
theorem d_X10_take_65 : decode prog_12_method_42_code 65 = .ok (.iadd, 1) := by decide +kernel
theorem d_X10_take_66 : decode prog_12_method_42_code 66 = .ok (.iaload, 1) := by decide +kernel
theorem d_X10_take_67 : decode prog_12_method_42_code 67 = .ok (.iastore, 1) := by decide +kernel
theorem d_X10_take_68 : decode prog_12_method_42_code 68 = .ok (.iinc 3 1, 3) := by decide +kernel
theorem d_X10_take_71 : decode prog_12_method_42_code 71 = .ok (.goto (-32), 3) := by decide +kernel
theorem d_X10_take_74 : decode prog_12_method_42_code 74 = .ok (.iload_n 2, 1) := by decide +kernel
theorem d_X10_take_75 : decode prog_12_method_42_code 75 = .ok (.ireturn, 1) := by decide +kernel
theorem d_X10_place_0 : decode prog_12_method_43_code 0 = .ok (.aload_n 0, 1) := by decide +kernel
theorem d_X10_place_1 : decode prog_12_method_43_code 1 = .ok (.iload_n 1, 1) := by decide +kernel
theorem d_X10_place_2 : decode prog_12_method_43_code 2 = .ok (.invokevirtual 179, 3) := by decide +kernel
theorem d_X10_place_5 : decode prog_12_method_43_code 5 = .ok (.ifCond .eq 29, 3) := by decide +kernel
theorem d_X10_place_8 : decode prog_12_method_43_code 8 = .ok (.iload_n 2, 1) := by decide +kernel
theorem d_X10_place_9 : decode prog_12_method_43_code 9 = .ok (.i2l, 1) := by decide +kernel
theorem d_X10_place_10 : decode prog_12_method_43_code 10 = .ok (.lconst 0, 1) := by decide +kernel
theorem d_X10_place_11 : decode prog_12_method_43_code 11 = .ok (.lconst 1, 1) := by decide +kernel
theorem d_X10_place_12 : decode prog_12_method_43_code 12 = .ok (.invokestatic 74, 3) := by decide +kernel
theorem d_X10_place_15 : decode prog_12_method_43_code 15 = .ok (.ifCond .eq 19, 3) := by decide +kernel
theorem d_X10_place_18 : decode prog_12_method_43_code 18 = .ok (.aload_n 0, 1) := by decide +kernel
theorem d_X10_place_19 : decode prog_12_method_43_code 19 = .ok (.getfield 7, 3) := by decide +kernel
theorem d_X10_place_22 : decode prog_12_method_43_code 22 = .ok (.bipush 45, 2) := by decide +kernel
theorem d_X10_place_24 : decode prog_12_method_43_code 24 = .ok (.iconst 2, 1) := by decide +kernel
theorem d_X10_place_25 : decode prog_12_method_43_code 25 = .ok (.iload_n 1, 1) := by decide +kernel
theorem d_X10_place_26 : decode prog_12_method_43_code 26 = .ok (.imul, 1) := by decide +kernel
theorem d_X10_place_27 : decode prog_12_method_43_code 27 = .ok (.iadd, 1) := by decide +kernel
theorem d_X10_place_28 : decode prog_12_method_43_code 28 = .ok (.iload_n 2, 1) := by decide +kernel
theorem d_X10_place_29 : decode prog_12_method_43_code 29 = .ok (.iadd, 1) := by decide +kernel
theorem d_X10_place_30 : decode prog_12_method_43_code 30 = .ok (.iaload, 1) := by decide +kernel
theorem d_X10_place_31 : decode prog_12_method_43_code 31 = .ok (.goto 4, 3) := by decide +kernel
theorem d_X10_place_34 : decode prog_12_method_43_code 34 = .ok (.iconst (-1), 1) := by decide +kernel
theorem d_X10_place_35 : decode prog_12_method_43_code 35 = .ok (.ireturn, 1) := by decide +kernel
theorem d_X10_turn_0 : decode prog_12_method_44_code 0 = .ok (.aload_n 0, 1) := by decide +kernel
theorem d_X10_turn_1 : decode prog_12_method_44_code 1 = .ok (.iload_n 1, 1) := by decide +kernel
theorem d_X10_turn_2 : decode prog_12_method_44_code 2 = .ok (.invokevirtual 179, 3) := by decide +kernel
theorem d_X10_turn_5 : decode prog_12_method_44_code 5 = .ok (.ifCond .eq 10, 3) := by decide +kernel
theorem d_X10_turn_8 : decode prog_12_method_44_code 8 = .ok (.iload_n 2, 1) := by decide +kernel
theorem d_X10_turn_9 : decode prog_12_method_44_code 9 = .ok (.invokestatic 173, 3) := by decide +kernel
theorem d_X10_turn_12 : decode prog_12_method_44_code 12 = .ok (.ifCond .ne 5, 3) := by decide +kernel
theorem d_X10_turn_15 : decode prog_12_method_44_code 15 = .ok (.iconst (-1), 1) := by decide +kernel
theorem d_X10_turn_16 : decode prog_12_method_44_code 16 = .ok (.ireturn, 1) := by decide +kernel
theorem d_X10_turn_17 : decode prog_12_method_44_code 17 = .ok (.aload_n 0, 1) := by decide +kernel
theorem d_X10_turn_18 : decode prog_12_method_44_code 18 = .ok (.getfield 7, 3) := by decide +kernel
theorem d_X10_turn_21 : decode prog_12_method_44_code 21 = .ok (.bipush 45, 2) := by decide +kernel
theorem d_X10_turn_23 : decode prog_12_method_44_code 23 = .ok (.iconst 2, 1) := by decide +kernel
theorem d_X10_turn_24 : decode prog_12_method_44_code 24 = .ok (.iload_n 1, 1) := by decide +kernel
theorem d_X10_turn_25 : decode prog_12_method_44_code 25 = .ok (.imul, 1) := by decide +kernel
theorem d_X10_turn_26 : decode prog_12_method_44_code 26 = .ok (.iadd, 1) := by decide +kernel
theorem d_X10_turn_27 : decode prog_12_method_44_code 27 = .ok (.iconst 1, 1) := by decide +kernel
theorem d_X10_turn_28 : decode prog_12_method_44_code 28 = .ok (.iadd, 1) := by decide +kernel
theorem d_X10_turn_29 : decode prog_12_method_44_code 29 = .ok (.iaload, 1) := by decide +kernel
theorem d_X10_turn_30 : decode prog_12_method_44_code 30 = .ok (.istore_n 3, 1) := by decide +kernel
theorem d_X10_turn_31 : decode prog_12_method_44_code 31 = .ok (.aload_n 0, 1) := by decide +kernel
theorem d_X10_turn_32 : decode prog_12_method_44_code 32 = .ok (.getfield 7, 3) := by decide +kernel
theorem d_X10_turn_35 : decode prog_12_method_44_code 35 = .ok (.bipush 45, 2) := by decide +kernel
theorem d_X10_turn_37 : decode prog_12_method_44_code 37 = .ok (.iconst 2, 1) := by decide +kernel
theorem d_X10_turn_38 : decode prog_12_method_44_code 38 = .ok (.iload_n 1, 1) := by decide +kernel
theorem d_X10_turn_39 : decode prog_12_method_44_code 39 = .ok (.imul, 1) := by decide +kernel
theorem d_X10_turn_40 : decode prog_12_method_44_code 40 = .ok (.iadd, 1) := by decide +kernel
theorem d_X10_turn_41 : decode prog_12_method_44_code 41 = .ok (.iconst 1, 1) := by decide +kernel
theorem d_X10_turn_42 : decode prog_12_method_44_code 42 = .ok (.iadd, 1) := by decide +kernel
theorem d_X10_turn_43 : decode prog_12_method_44_code 43 = .ok (.iload_n 2, 1) := by decide +kernel
theorem d_X10_turn_44 : decode prog_12_method_44_code 44 = .ok (.iastore, 1) := by decide +kernel
theorem d_X10_turn_45 : decode prog_12_method_44_code 45 = .ok (.iload_n 3, 1) := by decide +kernel
theorem d_X10_turn_46 : decode prog_12_method_44_code 46 = .ok (.ireturn, 1) := by decide +kernel
theorem d_X10_changes_0 : decode prog_12_method_45_code 0 = .ok (.iconst 0, 1) := by decide +kernel
theorem d_X10_changes_1 : decode prog_12_method_45_code 1 = .ok (.istore_n 3, 1) := by decide +kernel
theorem d_X10_changes_2 : decode prog_12_method_45_code 2 = .ok (.iload_n 3, 1) := by decide +kernel
theorem d_X10_changes_3 : decode prog_12_method_45_code 3 = .ok (.iconst 2, 1) := by decide +kernel
theorem d_X10_changes_4 : decode prog_12_method_45_code 4 = .ok (.if_icmp .ge 65, 3) := by decide +kernel
theorem d_X10_changes_7 : decode prog_12_method_45_code 7 = .ok (.aload_n 0, 1) := by decide +kernel
theorem d_X10_changes_8 : decode prog_12_method_45_code 8 = .ok (.getfield 7, 3) := by decide +kernel
theorem d_X10_changes_11 : decode prog_12_method_45_code 11 = .ok (.bipush 45, 2) := by decide +kernel
theorem d_X10_changes_13 : decode prog_12_method_45_code 13 = .ok (.iconst 2, 1) := by decide +kernel
theorem d_X10_changes_14 : decode prog_12_method_45_code 14 = .ok (.iload_n 1, 1) := by decide +kernel
theorem d_X10_changes_15 : decode prog_12_method_45_code 15 = .ok (.imul, 1) := by decide +kernel
theorem d_X10_changes_16 : decode prog_12_method_45_code 16 = .ok (.iadd, 1) := by decide +kernel
theorem d_X10_changes_17 : decode prog_12_method_45_code 17 = .ok (.iload_n 3, 1) := by decide +kernel
theorem d_X10_changes_18 : decode prog_12_method_45_code 18 = .ok (.iadd, 1) := by decide +kernel
theorem d_X10_changes_19 : decode prog_12_method_45_code 19 = .ok (.iaload, 1) := by decide +kernel
theorem d_X10_changes_20 : decode prog_12_method_45_code 20 = .ok (.istore 4, 2) := by decide +kernel
theorem d_X10_changes_22 : decode prog_12_method_45_code 22 = .ok (.aload_n 0, 1) := by decide +kernel
theorem d_X10_changes_23 : decode prog_12_method_45_code 23 = .ok (.getfield 7, 3) := by decide +kernel
theorem d_X10_changes_26 : decode prog_12_method_45_code 26 = .ok (.bipush 45, 2) := by decide +kernel
theorem d_X10_changes_28 : decode prog_12_method_45_code 28 = .ok (.iconst 2, 1) := by decide +kernel
theorem d_X10_changes_29 : decode prog_12_method_45_code 29 = .ok (.iload_n 1, 1) := by decide +kernel
theorem d_X10_changes_30 : decode prog_12_method_45_code 30 = .ok (.imul, 1) := by decide +kernel
theorem d_X10_changes_31 : decode prog_12_method_45_code 31 = .ok (.iadd, 1) := by decide +kernel
theorem d_X10_changes_32 : decode prog_12_method_45_code 32 = .ok (.iload_n 3, 1) := by decide +kernel
theorem d_X10_changes_33 : decode prog_12_method_45_code 33 = .ok (.iadd, 1) := by decide +kernel
theorem d_X10_changes_34 : decode prog_12_method_45_code 34 = .ok (.aload_n 0, 1) := by decide +kernel
theorem d_X10_changes_35 : decode prog_12_method_45_code 35 = .ok (.getfield 7, 3) := by decide +kernel
theorem d_X10_changes_38 : decode prog_12_method_45_code 38 = .ok (.bipush 45, 2) := by decide +kernel
theorem d_X10_changes_40 : decode prog_12_method_45_code 40 = .ok (.iconst 2, 1) := by decide +kernel
theorem d_X10_changes_41 : decode prog_12_method_45_code 41 = .ok (.iload_n 2, 1) := by decide +kernel
theorem d_X10_changes_42 : decode prog_12_method_45_code 42 = .ok (.imul, 1) := by decide +kernel
theorem d_X10_changes_43 : decode prog_12_method_45_code 43 = .ok (.iadd, 1) := by decide +kernel
theorem d_X10_changes_44 : decode prog_12_method_45_code 44 = .ok (.iload_n 3, 1) := by decide +kernel
theorem d_X10_changes_45 : decode prog_12_method_45_code 45 = .ok (.iadd, 1) := by decide +kernel
theorem d_X10_changes_46 : decode prog_12_method_45_code 46 = .ok (.iaload, 1) := by decide +kernel
theorem d_X10_changes_47 : decode prog_12_method_45_code 47 = .ok (.iastore, 1) := by decide +kernel
theorem d_X10_changes_48 : decode prog_12_method_45_code 48 = .ok (.aload_n 0, 1) := by decide +kernel
theorem d_X10_changes_49 : decode prog_12_method_45_code 49 = .ok (.getfield 7, 3) := by decide +kernel
theorem d_X10_changes_52 : decode prog_12_method_45_code 52 = .ok (.bipush 45, 2) := by decide +kernel
theorem d_X10_changes_54 : decode prog_12_method_45_code 54 = .ok (.iconst 2, 1) := by decide +kernel
theorem d_X10_changes_55 : decode prog_12_method_45_code 55 = .ok (.iload_n 2, 1) := by decide +kernel
theorem d_X10_changes_56 : decode prog_12_method_45_code 56 = .ok (.imul, 1) := by decide +kernel
theorem d_X10_changes_57 : decode prog_12_method_45_code 57 = .ok (.iadd, 1) := by decide +kernel
theorem d_X10_changes_58 : decode prog_12_method_45_code 58 = .ok (.iload_n 3, 1) := by decide +kernel
theorem d_X10_changes_59 : decode prog_12_method_45_code 59 = .ok (.iadd, 1) := by decide +kernel
theorem d_X10_changes_60 : decode prog_12_method_45_code 60 = .ok (.iload 4, 2) := by decide +kernel
theorem d_X10_changes_62 : decode prog_12_method_45_code 62 = .ok (.iastore, 1) := by decide +kernel
theorem d_X10_changes_63 : decode prog_12_method_45_code 63 = .ok (.iinc 3 1, 3) := by decide +kernel
theorem d_X10_changes_66 : decode prog_12_method_45_code 66 = .ok (.goto (-64), 3) := by decide +kernel
theorem d_X10_changes_69 : decode prog_12_method_45_code 69 = .ok (.return_, 1) := by decide +kernel
theorem d_X10_exchange_0 : decode prog_12_method_46_code 0 = .ok (.aload_n 0, 1) := by decide +kernel
theorem d_X10_exchange_1 : decode prog_12_method_46_code 1 = .ok (.iload_n 1, 1) := by decide +kernel
theorem d_X10_exchange_2 : decode prog_12_method_46_code 2 = .ok (.invokevirtual 179, 3) := by decide +kernel
theorem d_X10_exchange_5 : decode prog_12_method_46_code 5 = .ok (.ifCond .eq 11, 3) := by decide +kernel
theorem d_X10_exchange_8 : decode prog_12_method_46_code 8 = .ok (.aload_n 0, 1) := by decide +kernel
theorem d_X10_exchange_9 : decode prog_12_method_46_code 9 = .ok (.iload_n 2, 1) := by decide +kernel
theorem d_X10_exchange_10 : decode prog_12_method_46_code 10 = .ok (.invokevirtual 179, 3) := by decide +kernel
theorem d_X10_exchange_13 : decode prog_12_method_46_code 13 = .ok (.ifCond .ne 5, 3) := by decide +kernel
theorem d_X10_exchange_16 : decode prog_12_method_46_code 16 = .ok (.iconst (-1), 1) := by decide +kernel
theorem d_X10_exchange_17 : decode prog_12_method_46_code 17 = .ok (.ireturn, 1) := by decide +kernel
theorem d_X10_exchange_18 : decode prog_12_method_46_code 18 = .ok (.aload_n 0, 1) := by decide +kernel
theorem d_X10_exchange_19 : decode prog_12_method_46_code 19 = .ok (.iload_n 1, 1) := by decide +kernel
theorem d_X10_exchange_20 : decode prog_12_method_46_code 20 = .ok (.iload_n 2, 1) := by decide +kernel
theorem d_X10_exchange_21 : decode prog_12_method_46_code 21 = .ok (.invokevirtual 182, 3) := by decide +kernel
theorem d_X10_exchange_24 : decode prog_12_method_46_code 24 = .ok (.iload_n 1, 1) := by decide +kernel
theorem d_X10_exchange_25 : decode prog_12_method_46_code 25 = .ok (.iload_n 2, 1) := by decide +kernel
theorem d_X10_exchange_26 : decode prog_12_method_46_code 26 = .ok (.if_icmp .ne 7, 3) := by decide +kernel
theorem d_X10_exchange_29 : decode prog_12_method_46_code 29 = .ok (.iconst 0, 1) := by decide +kernel
theorem d_X10_exchange_30 : decode prog_12_method_46_code 30 = .ok (.goto 4, 3) := by decide +kernel
theorem d_X10_exchange_33 : decode prog_12_method_46_code 33 = .ok (.iconst 1, 1) := by decide +kernel
theorem d_X10_exchange_34 : decode prog_12_method_46_code 34 = .ok (.ireturn, 1) := by decide +kernel
theorem d_X10_price_0 : decode prog_12_method_47_code 0 = .ok (.iconst 0, 1) := by decide +kernel
theorem d_X10_price_1 : decode prog_12_method_47_code 1 = .ok (.istore_n 1, 1) := by decide +kernel
theorem d_X10_price_2 : decode prog_12_method_47_code 2 = .ok (.iconst 0, 1) := by decide +kernel
theorem d_X10_price_3 : decode prog_12_method_47_code 3 = .ok (.istore_n 2, 1) := by decide +kernel
theorem d_X10_price_4 : decode prog_12_method_47_code 4 = .ok (.iload_n 2, 1) := by decide +kernel
theorem d_X10_price_5 : decode prog_12_method_47_code 5 = .ok (.aload_n 0, 1) := by decide +kernel
theorem d_X10_price_6 : decode prog_12_method_47_code 6 = .ok (.getfield 7, 3) := by decide +kernel
theorem d_X10_price_9 : decode prog_12_method_47_code 9 = .ok (.iconst 2, 1) := by decide +kernel
theorem d_X10_price_10 : decode prog_12_method_47_code 10 = .ok (.iaload, 1) := by decide +kernel
theorem d_X10_price_11 : decode prog_12_method_47_code 11 = .ok (.if_icmp .ge 28, 3) := by decide +kernel
theorem d_X10_price_14 : decode prog_12_method_47_code 14 = .ok (.iload_n 1, 1) := by decide +kernel
theorem d_X10_price_15 : decode prog_12_method_47_code 15 = .ok (.aload_n 0, 1) := by decide +kernel
theorem d_X10_price_16 : decode prog_12_method_47_code 16 = .ok (.aload_n 0, 1) := by decide +kernel
theorem d_X10_price_17 : decode prog_12_method_47_code 17 = .ok (.getfield 7, 3) := by decide +kernel
theorem d_X10_price_20 : decode prog_12_method_47_code 20 = .ok (.bipush 45, 2) := by decide +kernel
theorem d_X10_price_22 : decode prog_12_method_47_code 22 = .ok (.iconst 2, 1) := by decide +kernel
theorem d_X10_price_23 : decode prog_12_method_47_code 23 = .ok (.iload_n 2, 1) := by decide +kernel
theorem d_X10_price_24 : decode prog_12_method_47_code 24 = .ok (.imul, 1) := by decide +kernel
theorem d_X10_price_25 : decode prog_12_method_47_code 25 = .ok (.iadd, 1) := by decide +kernel
theorem d_X10_price_26 : decode prog_12_method_47_code 26 = .ok (.iaload, 1) := by decide +kernel
theorem d_X10_price_27 : decode prog_12_method_47_code 27 = .ok (.iconst 3, 1) := by decide +kernel
theorem d_X10_price_28 : decode prog_12_method_47_code 28 = .ok (.invokevirtual 98, 3) := by decide +kernel
theorem d_X10_price_31 : decode prog_12_method_47_code 31 = .ok (.iadd, 1) := by decide +kernel
theorem d_X10_price_32 : decode prog_12_method_47_code 32 = .ok (.istore_n 1, 1) := by decide +kernel
theorem d_X10_price_33 : decode prog_12_method_47_code 33 = .ok (.iinc 2 1, 3) := by decide +kernel
theorem d_X10_price_36 : decode prog_12_method_47_code 36 = .ok (.goto (-32), 3) := by decide +kernel
theorem d_X10_price_39 : decode prog_12_method_47_code 39 = .ok (.iload_n 1, 1) := by decide +kernel
theorem d_X10_price_40 : decode prog_12_method_47_code 40 = .ok (.ireturn, 1) := by decide +kernel
theorem d_X10_fix_0 : decode prog_12_method_48_code 0 = .ok (.aload_n 0, 1) := by decide +kernel
theorem d_X10_fix_1 : decode prog_12_method_48_code 1 = .ok (.invokevirtual 166, 3) := by decide +kernel
theorem d_X10_fix_4 : decode prog_12_method_48_code 4 = .ok (.aload_n 0, 1) := by decide +kernel
theorem d_X10_fix_5 : decode prog_12_method_48_code 5 = .ok (.invokevirtual 159, 3) := by decide +kernel
theorem d_X10_fix_8 : decode prog_12_method_48_code 8 = .ok (.istore_n 1, 1) := by decide +kernel
theorem d_X10_fix_9 : decode prog_12_method_48_code 9 = .ok (.bipush (-3), 2) := by decide +kernel
theorem d_X10_fix_11 : decode prog_12_method_48_code 11 = .ok (.istore_n 2, 1) := by decide +kernel
theorem d_X10_fix_12 : decode prog_12_method_48_code 12 = .ok (.iconst 0, 1) := by decide +kernel
theorem d_X10_fix_13 : decode prog_12_method_48_code 13 = .ok (.istore_n 3, 1) := by decide +kernel
theorem d_X10_fix_14 : decode prog_12_method_48_code 14 = .ok (.iload_n 3, 1) := by decide +kernel
theorem d_X10_fix_15 : decode prog_12_method_48_code 15 = .ok (.aload_n 0, 1) := by decide +kernel
theorem d_X10_fix_16 : decode prog_12_method_48_code 16 = .ok (.getfield 7, 3) := by decide +kernel
theorem d_X10_fix_19 : decode prog_12_method_48_code 19 = .ok (.iconst 2, 1) := by decide +kernel
theorem d_X10_fix_20 : decode prog_12_method_48_code 20 = .ok (.iaload, 1) := by decide +kernel
theorem d_X10_fix_21 : decode prog_12_method_48_code 21 = .ok (.if_icmp .ge 83, 3) := by decide +kernel
theorem d_X10_fix_24 : decode prog_12_method_48_code 24 = .ok (.iconst 0, 1) := by decide +kernel
theorem d_X10_fix_25 : decode prog_12_method_48_code 25 = .ok (.istore 4, 2) := by decide +kernel
theorem d_X10_fix_27 : decode prog_12_method_48_code 27 = .ok (.iload 4, 2) := by decide +kernel
theorem d_X10_fix_29 : decode prog_12_method_48_code 29 = .ok (.iconst 4, 1) := by decide +kernel
theorem d_X10_fix_30 : decode prog_12_method_48_code 30 = .ok (.if_icmp .ge 64, 3) := by decide +kernel
theorem d_X10_fix_33 : decode prog_12_method_48_code 33 = .ok (.aload_n 0, 1) := by decide +kernel
theorem d_X10_fix_34 : decode prog_12_method_48_code 34 = .ok (.iload_n 3, 1) := by decide +kernel
theorem d_X10_fix_35 : decode prog_12_method_48_code 35 = .ok (.aload_n 0, 1) := by decide +kernel
theorem d_X10_fix_36 : decode prog_12_method_48_code 36 = .ok (.getfield 7, 3) := by decide +kernel
theorem d_X10_fix_39 : decode prog_12_method_48_code 39 = .ok (.bipush 45, 2) := by decide +kernel
theorem d_X10_fix_41 : decode prog_12_method_48_code 41 = .ok (.iconst 2, 1) := by decide +kernel
theorem d_X10_fix_42 : decode prog_12_method_48_code 42 = .ok (.iload_n 3, 1) := by decide +kernel
theorem d_X10_fix_43 : decode prog_12_method_48_code 43 = .ok (.imul, 1) := by decide +kernel
theorem d_X10_fix_44 : decode prog_12_method_48_code 44 = .ok (.iadd, 1) := by decide +kernel
theorem d_X10_fix_45 : decode prog_12_method_48_code 45 = .ok (.iaload, 1) := by decide +kernel
theorem d_X10_fix_46 : decode prog_12_method_48_code 46 = .ok (.iload 4, 2) := by decide +kernel
theorem d_X10_fix_48 : decode prog_12_method_48_code 48 = .ok (.invokevirtual 139, 3) := by decide +kernel
theorem d_X10_fix_51 : decode prog_12_method_48_code 51 = .ok (.aload_n 0, 1) := by decide +kernel
theorem d_X10_fix_52 : decode prog_12_method_48_code 52 = .ok (.invokevirtual 159, 3) := by decide +kernel
theorem d_X10_fix_55 : decode prog_12_method_48_code 55 = .ok (.istore 5, 2) := by decide +kernel
theorem d_X10_fix_57 : decode prog_12_method_48_code 57 = .ok (.iload 5, 2) := by decide +kernel
theorem d_X10_fix_59 : decode prog_12_method_48_code 59 = .ok (.iload_n 1, 1) := by decide +kernel
theorem d_X10_fix_60 : decode prog_12_method_48_code 60 = .ok (.if_icmp .ge 13, 3) := by decide +kernel
theorem d_X10_fix_63 : decode prog_12_method_48_code 63 = .ok (.bipush 10, 2) := by decide +kernel
theorem d_X10_fix_65 : decode prog_12_method_48_code 65 = .ok (.iload_n 3, 1) := by decide +kernel
theorem d_X10_fix_66 : decode prog_12_method_48_code 66 = .ok (.imul, 1) := by decide +kernel
theorem d_X10_fix_67 : decode prog_12_method_48_code 67 = .ok (.iload 4, 2) := by decide +kernel
theorem d_X10_fix_69 : decode prog_12_method_48_code 69 = .ok (.iadd, 1) := by decide +kernel
theorem d_X10_fix_70 : decode prog_12_method_48_code 70 = .ok (.goto 4, 3) := by decide +kernel
theorem d_X10_fix_73 : decode prog_12_method_48_code 73 = .ok (.iload_n 2, 1) := by decide +kernel
theorem d_X10_fix_74 : decode prog_12_method_48_code 74 = .ok (.istore_n 2, 1) := by decide +kernel
theorem d_X10_fix_75 : decode prog_12_method_48_code 75 = .ok (.iload 5, 2) := by decide +kernel
theorem d_X10_fix_77 : decode prog_12_method_48_code 77 = .ok (.iload_n 1, 1) := by decide +kernel
theorem d_X10_fix_78 : decode prog_12_method_48_code 78 = .ok (.if_icmp .ge 8, 3) := by decide +kernel
theorem d_X10_fix_81 : decode prog_12_method_48_code 81 = .ok (.iload 5, 2) := by decide +kernel
theorem d_X10_fix_83 : decode prog_12_method_48_code 83 = .ok (.goto 4, 3) := by decide +kernel
theorem d_X10_fix_86 : decode prog_12_method_48_code 86 = .ok (.iload_n 1, 1) := by decide +kernel
theorem d_X10_fix_87 : decode prog_12_method_48_code 87 = .ok (.istore_n 1, 1) := by decide +kernel
theorem d_X10_fix_88 : decode prog_12_method_48_code 88 = .ok (.iinc 4 1, 3) := by decide +kernel
theorem d_X10_fix_91 : decode prog_12_method_48_code 91 = .ok (.goto (-64), 3) := by decide +kernel
theorem d_X10_fix_94 : decode prog_12_method_48_code 94 = .ok (.aload_n 0, 1) := by decide +kernel
theorem d_X10_fix_95 : decode prog_12_method_48_code 95 = .ok (.invokevirtual 132, 3) := by decide +kernel
theorem d_X10_fix_98 : decode prog_12_method_48_code 98 = .ok (.iinc 3 1, 3) := by decide +kernel
theorem d_X10_fix_101 : decode prog_12_method_48_code 101 = .ok (.goto (-87), 3) := by decide +kernel
theorem d_X10_fix_104 : decode prog_12_method_48_code 104 = .ok (.iload_n 2, 1) := by decide +kernel
theorem d_X10_fix_105 : decode prog_12_method_48_code 105 = .ok (.ireturn, 1) := by decide +kernel
theorem d_X10_change_0 : decode prog_12_method_49_code 0 = .ok (.aload_n 0, 1) := by decide +kernel
theorem d_X10_change_1 : decode prog_12_method_49_code 1 = .ok (.invokevirtual 166, 3) := by decide +kernel
theorem d_X10_change_4 : decode prog_12_method_49_code 4 = .ok (.aload_n 0, 1) := by decide +kernel
theorem d_X10_change_5 : decode prog_12_method_49_code 5 = .ok (.invokevirtual 159, 3) := by decide +kernel
theorem d_X10_change_8 : decode prog_12_method_49_code 8 = .ok (.istore_n 1, 1) := by decide +kernel
theorem d_X10_change_9 : decode prog_12_method_49_code 9 = .ok (.bipush (-3), 2) := by decide +kernel
theorem d_X10_change_11 : decode prog_12_method_49_code 11 = .ok (.istore_n 2, 1) := by decide +kernel
theorem d_X10_change_12 : decode prog_12_method_49_code 12 = .ok (.iconst 0, 1) := by decide +kernel
theorem d_X10_change_13 : decode prog_12_method_49_code 13 = .ok (.istore_n 3, 1) := by decide +kernel
theorem d_X10_change_14 : decode prog_12_method_49_code 14 = .ok (.iload_n 3, 1) := by decide +kernel
theorem d_X10_change_15 : decode prog_12_method_49_code 15 = .ok (.aload_n 0, 1) := by decide +kernel
theorem d_X10_change_16 : decode prog_12_method_49_code 16 = .ok (.getfield 7, 3) := by decide +kernel
theorem d_X10_change_19 : decode prog_12_method_49_code 19 = .ok (.iconst 2, 1) := by decide +kernel
theorem d_X10_change_20 : decode prog_12_method_49_code 20 = .ok (.iaload, 1) := by decide +kernel
theorem d_X10_change_21 : decode prog_12_method_49_code 21 = .ok (.if_icmp .ge 86, 3) := by decide +kernel
theorem d_X10_change_24 : decode prog_12_method_49_code 24 = .ok (.iload_n 3, 1) := by decide +kernel
theorem d_X10_change_25 : decode prog_12_method_49_code 25 = .ok (.iconst 1, 1) := by decide +kernel
theorem d_X10_change_26 : decode prog_12_method_49_code 26 = .ok (.iadd, 1) := by decide +kernel
theorem d_X10_change_27 : decode prog_12_method_49_code 27 = .ok (.istore 4, 2) := by decide +kernel
theorem d_X10_change_29 : decode prog_12_method_49_code 29 = .ok (.iload 4, 2) := by decide +kernel
theorem d_X10_change_31 : decode prog_12_method_49_code 31 = .ok (.aload_n 0, 1) := by decide +kernel
theorem d_X10_change_32 : decode prog_12_method_49_code 32 = .ok (.getfield 7, 3) := by decide +kernel
theorem d_X10_change_35 : decode prog_12_method_49_code 35 = .ok (.iconst 2, 1) := by decide +kernel
theorem d_X10_change_36 : decode prog_12_method_49_code 36 = .ok (.iaload, 1) := by decide +kernel
theorem d_X10_change_37 : decode prog_12_method_49_code 37 = .ok (.if_icmp .ge 64, 3) := by decide +kernel
theorem d_X10_change_40 : decode prog_12_method_49_code 40 = .ok (.aload_n 0, 1) := by decide +kernel
theorem d_X10_change_41 : decode prog_12_method_49_code 41 = .ok (.iload_n 3, 1) := by decide +kernel
theorem d_X10_change_42 : decode prog_12_method_49_code 42 = .ok (.iload 4, 2) := by decide +kernel
theorem d_X10_change_44 : decode prog_12_method_49_code 44 = .ok (.invokevirtual 182, 3) := by decide +kernel
theorem d_X10_change_47 : decode prog_12_method_49_code 47 = .ok (.aload_n 0, 1) := by decide +kernel
theorem d_X10_change_48 : decode prog_12_method_49_code 48 = .ok (.invokevirtual 132, 3) := by decide +kernel
theorem d_X10_change_51 : decode prog_12_method_49_code 51 = .ok (.aload_n 0, 1) := by decide +kernel
theorem d_X10_change_52 : decode prog_12_method_49_code 52 = .ok (.iload_n 3, 1) := by decide +kernel
theorem d_X10_change_53 : decode prog_12_method_49_code 53 = .ok (.iload 4, 2) := by decide +kernel
theorem d_X10_change_55 : decode prog_12_method_49_code 55 = .ok (.invokevirtual 182, 3) := by decide +kernel
theorem d_X10_change_58 : decode prog_12_method_49_code 58 = .ok (.aload_n 0, 1) := by decide +kernel
theorem d_X10_change_59 : decode prog_12_method_49_code 59 = .ok (.invokevirtual 159, 3) := by decide +kernel
theorem d_X10_change_62 : decode prog_12_method_49_code 62 = .ok (.istore 5, 2) := by decide +kernel
theorem d_X10_change_64 : decode prog_12_method_49_code 64 = .ok (.iload 5, 2) := by decide +kernel
theorem d_X10_change_66 : decode prog_12_method_49_code 66 = .ok (.iload_n 1, 1) := by decide +kernel
theorem d_X10_change_67 : decode prog_12_method_49_code 67 = .ok (.if_icmp .ge 13, 3) := by decide +kernel
theorem d_X10_change_70 : decode prog_12_method_49_code 70 = .ok (.bipush 10, 2) := by decide +kernel
theorem d_X10_change_72 : decode prog_12_method_49_code 72 = .ok (.iload_n 3, 1) := by decide +kernel
theorem d_X10_change_73 : decode prog_12_method_49_code 73 = .ok (.imul, 1) := by decide +kernel
theorem d_X10_change_74 : decode prog_12_method_49_code 74 = .ok (.iload 4, 2) := by decide +kernel
theorem d_X10_change_76 : decode prog_12_method_49_code 76 = .ok (.iadd, 1) := by decide +kernel
theorem d_X10_change_77 : decode prog_12_method_49_code 77 = .ok (.goto 4, 3) := by decide +kernel
theorem d_X10_change_80 : decode prog_12_method_49_code 80 = .ok (.iload_n 2, 1) := by decide +kernel
theorem d_X10_change_81 : decode prog_12_method_49_code 81 = .ok (.istore_n 2, 1) := by decide +kernel
theorem d_X10_change_82 : decode prog_12_method_49_code 82 = .ok (.iload 5, 2) := by decide +kernel
theorem d_X10_change_84 : decode prog_12_method_49_code 84 = .ok (.iload_n 1, 1) := by decide +kernel
theorem d_X10_change_85 : decode prog_12_method_49_code 85 = .ok (.if_icmp .ge 8, 3) := by decide +kernel
theorem d_X10_change_88 : decode prog_12_method_49_code 88 = .ok (.iload 5, 2) := by decide +kernel
theorem d_X10_change_90 : decode prog_12_method_49_code 90 = .ok (.goto 4, 3) := by decide +kernel
theorem d_X10_change_93 : decode prog_12_method_49_code 93 = .ok (.iload_n 1, 1) := by decide +kernel
theorem d_X10_change_94 : decode prog_12_method_49_code 94 = .ok (.istore_n 1, 1) := by decide +kernel
theorem d_X10_change_95 : decode prog_12_method_49_code 95 = .ok (.iinc 4 1, 3) := by decide +kernel
theorem d_X10_change_98 : decode prog_12_method_49_code 98 = .ok (.goto (-69), 3) := by decide +kernel
theorem d_X10_change_101 : decode prog_12_method_49_code 101 = .ok (.iinc 3 1, 3) := by decide +kernel
theorem d_X10_change_104 : decode prog_12_method_49_code 104 = .ok (.goto (-90), 3) := by decide +kernel
theorem d_X10_change_107 : decode prog_12_method_49_code 107 = .ok (.iload_n 2, 1) := by decide +kernel
theorem d_X10_change_108 : decode prog_12_method_49_code 108 = .ok (.ireturn, 1) := by decide +kernel
theorem d_X10_heatFor_0 : decode prog_12_method_50_code 0 = .ok (.aload_n 0, 1) := by decide +kernel
theorem d_X10_heatFor_1 : decode prog_12_method_50_code 1 = .ok (.getfield 7, 3) := by decide +kernel
theorem d_X10_heatFor_4 : decode prog_12_method_50_code 4 = .ok (.iconst 4, 1) := by decide +kernel
theorem d_X10_heatFor_5 : decode prog_12_method_50_code 5 = .ok (.iaload, 1) := by decide +kernel
theorem d_X10_heatFor_6 : decode prog_12_method_50_code 6 = .ok (.istore_n 1, 1) := by decide +kernel
theorem d_X10_heatFor_7 : decode prog_12_method_50_code 7 = .ok (.bipush (-3), 2) := by decide +kernel
theorem d_X10_heatFor_9 : decode prog_12_method_50_code 9 = .ok (.istore_n 2, 1) := by decide +kernel
theorem d_X10_heatFor_10 : decode prog_12_method_50_code 10 = .ok (.bipush 9, 2) := by decide +kernel
theorem d_X10_heatFor_12 : decode prog_12_method_50_code 12 = .ok (.istore_n 3, 1) := by decide +kernel
theorem d_X10_heatFor_13 : decode prog_12_method_50_code 13 = .ok (.iload_n 3, 1) := by decide +kernel
theorem d_X10_heatFor_14 : decode prog_12_method_50_code 14 = .ok (.ifCond .lt 33, 3) := by decide +kernel
theorem d_X10_heatFor_17 : decode prog_12_method_50_code 17 = .ok (.aload_n 0, 1) := by decide +kernel
theorem d_X10_heatFor_18 : decode prog_12_method_50_code 18 = .ok (.getfield 7, 3) := by decide +kernel
theorem d_X10_heatFor_21 : decode prog_12_method_50_code 21 = .ok (.iconst 4, 1) := by decide +kernel
theorem d_X10_heatFor_22 : decode prog_12_method_50_code 22 = .ok (.iload_n 3, 1) := by decide +kernel
theorem d_X10_heatFor_23 : decode prog_12_method_50_code 23 = .ok (.iastore, 1) := by decide +kernel
theorem d_X10_heatFor_24 : decode prog_12_method_50_code 24 = .ok (.aload_n 0, 1) := by decide +kernel
theorem d_X10_heatFor_25 : decode prog_12_method_50_code 25 = .ok (.invokevirtual 166, 3) := by decide +kernel
theorem d_X10_heatFor_28 : decode prog_12_method_50_code 28 = .ok (.aload_n 0, 1) := by decide +kernel
theorem d_X10_heatFor_29 : decode prog_12_method_50_code 29 = .ok (.invokevirtual 169, 3) := by decide +kernel
theorem d_X10_heatFor_32 : decode prog_12_method_50_code 32 = .ok (.ifCond .eq 7, 3) := by decide +kernel
theorem d_X10_heatFor_35 : decode prog_12_method_50_code 35 = .ok (.iload_n 3, 1) := by decide +kernel
theorem d_X10_heatFor_36 : decode prog_12_method_50_code 36 = .ok (.goto 4, 3) := by decide +kernel
theorem d_X10_heatFor_39 : decode prog_12_method_50_code 39 = .ok (.iload_n 2, 1) := by decide +kernel
theorem d_X10_heatFor_40 : decode prog_12_method_50_code 40 = .ok (.istore_n 2, 1) := by decide +kernel
theorem d_X10_heatFor_41 : decode prog_12_method_50_code 41 = .ok (.iinc 3 (-1), 3) := by decide +kernel
theorem d_X10_heatFor_44 : decode prog_12_method_50_code 44 = .ok (.goto (-31), 3) := by decide +kernel
theorem d_X10_heatFor_47 : decode prog_12_method_50_code 47 = .ok (.aload_n 0, 1) := by decide +kernel
theorem d_X10_heatFor_48 : decode prog_12_method_50_code 48 = .ok (.getfield 7, 3) := by decide +kernel
theorem d_X10_heatFor_51 : decode prog_12_method_50_code 51 = .ok (.iconst 4, 1) := by decide +kernel
theorem d_X10_heatFor_52 : decode prog_12_method_50_code 52 = .ok (.iload_n 1, 1) := by decide +kernel
theorem d_X10_heatFor_53 : decode prog_12_method_50_code 53 = .ok (.iastore, 1) := by decide +kernel
theorem d_X10_heatFor_54 : decode prog_12_method_50_code 54 = .ok (.iload_n 2, 1) := by decide +kernel
theorem d_X10_heatFor_55 : decode prog_12_method_50_code 55 = .ok (.ireturn, 1) := by decide +kernel
theorem d_X10_eyes_0 : decode prog_12_method_51_code 0 = .ok (.aload_n 0, 1) := by decide +kernel
theorem d_X10_eyes_1 : decode prog_12_method_51_code 1 = .ok (.getfield 7, 3) := by decide +kernel
theorem d_X10_eyes_4 : decode prog_12_method_51_code 4 = .ok (.bipush 6, 2) := by decide +kernel
theorem d_X10_eyes_6 : decode prog_12_method_51_code 6 = .ok (.iaload, 1) := by decide +kernel
theorem d_X10_eyes_7 : decode prog_12_method_51_code 7 = .ok (.istore_n 1, 1) := by decide +kernel
theorem d_X10_eyes_8 : decode prog_12_method_51_code 8 = .ok (.iconst 0, 1) := by decide +kernel
theorem d_X10_eyes_9 : decode prog_12_method_51_code 9 = .ok (.istore_n 2, 1) := by decide +kernel
theorem d_X10_eyes_10 : decode prog_12_method_51_code 10 = .ok (.bipush (-9), 2) := by decide +kernel
theorem d_X10_eyes_12 : decode prog_12_method_51_code 12 = .ok (.istore_n 3, 1) := by decide +kernel
theorem d_X10_eyes_13 : decode prog_12_method_51_code 13 = .ok (.iload_n 3, 1) := by decide +kernel
theorem d_X10_eyes_14 : decode prog_12_method_51_code 14 = .ok (.bipush 10, 2) := by decide +kernel
theorem d_X10_eyes_16 : decode prog_12_method_51_code 16 = .ok (.if_icmp .ge 36, 3) := by decide +kernel
theorem d_X10_eyes_19 : decode prog_12_method_51_code 19 = .ok (.aload_n 0, 1) := by decide +kernel
theorem d_X10_eyes_20 : decode prog_12_method_51_code 20 = .ok (.getfield 7, 3) := by decide +kernel
theorem d_X10_eyes_23 : decode prog_12_method_51_code 23 = .ok (.bipush 6, 2) := by decide +kernel
theorem d_X10_eyes_25 : decode prog_12_method_51_code 25 = .ok (.iload_n 3, 1) := by decide +kernel
theorem d_X10_eyes_26 : decode prog_12_method_51_code 26 = .ok (.iastore, 1) := by decide +kernel
theorem d_X10_eyes_27 : decode prog_12_method_51_code 27 = .ok (.aload_n 0, 1) := by decide +kernel
theorem d_X10_eyes_28 : decode prog_12_method_51_code 28 = .ok (.invokevirtual 166, 3) := by decide +kernel
theorem d_X10_eyes_31 : decode prog_12_method_51_code 31 = .ok (.iload_n 2, 1) := by decide +kernel
theorem d_X10_eyes_32 : decode prog_12_method_51_code 32 = .ok (.aload_n 0, 1) := by decide +kernel
theorem d_X10_eyes_33 : decode prog_12_method_51_code 33 = .ok (.invokevirtual 169, 3) := by decide +kernel
theorem d_X10_eyes_36 : decode prog_12_method_51_code 36 = .ok (.ifCond .eq 7, 3) := by decide +kernel
theorem d_X10_eyes_39 : decode prog_12_method_51_code 39 = .ok (.iconst 1, 1) := by decide +kernel
theorem d_X10_eyes_40 : decode prog_12_method_51_code 40 = .ok (.goto 4, 3) := by decide +kernel
theorem d_X10_eyes_43 : decode prog_12_method_51_code 43 = .ok (.iconst 0, 1) := by decide +kernel
theorem d_X10_eyes_44 : decode prog_12_method_51_code 44 = .ok (.iadd, 1) := by decide +kernel
theorem d_X10_eyes_45 : decode prog_12_method_51_code 45 = .ok (.istore_n 2, 1) := by decide +kernel
theorem d_X10_eyes_46 : decode prog_12_method_51_code 46 = .ok (.iinc 3 1, 3) := by decide +kernel
theorem d_X10_eyes_49 : decode prog_12_method_51_code 49 = .ok (.goto (-36), 3) := by decide +kernel
theorem d_X10_eyes_52 : decode prog_12_method_51_code 52 = .ok (.aload_n 0, 1) := by decide +kernel
theorem d_X10_eyes_53 : decode prog_12_method_51_code 53 = .ok (.getfield 7, 3) := by decide +kernel
theorem d_X10_eyes_56 : decode prog_12_method_51_code 56 = .ok (.bipush 6, 2) := by decide +kernel
theorem d_X10_eyes_58 : decode prog_12_method_51_code 58 = .ok (.iload_n 1, 1) := by decide +kernel
theorem d_X10_eyes_59 : decode prog_12_method_51_code 59 = .ok (.iastore, 1) := by decide +kernel
theorem d_X10_eyes_60 : decode prog_12_method_51_code 60 = .ok (.iload_n 2, 1) := by decide +kernel
theorem d_X10_eyes_61 : decode prog_12_method_51_code 61 = .ok (.ireturn, 1) := by decide +kernel
theorem d_X10_tries_0 : decode prog_12_method_52_code 0 = .ok (.iload_n 1, 1) := by decide +kernel
theorem d_X10_tries_1 : decode prog_12_method_52_code 1 = .ok (.aload_n 0, 1) := by decide +kernel
theorem d_X10_tries_2 : decode prog_12_method_52_code 2 = .ok (.getfield 135, 3) := by decide +kernel
theorem d_X10_tries_5 : decode prog_12_method_52_code 5 = .ok (.if_icmp .ne 83, 3) := by decide +kernel
theorem d_X10_tries_8 : decode prog_12_method_52_code 8 = .ok (.aload_n 0, 1) := by decide +kernel
theorem d_X10_tries_9 : decode prog_12_method_52_code 9 = .ok (.invokevirtual 159, 3) := by decide +kernel
theorem d_X10_tries_12 : decode prog_12_method_52_code 12 = .ok (.istore_n 3, 1) := by decide +kernel
theorem d_X10_tries_13 : decode prog_12_method_52_code 13 = .ok (.aload_n 0, 1) := by decide +kernel
theorem d_X10_tries_14 : decode prog_12_method_52_code 14 = .ok (.dup, 1) := by decide +kernel
theorem d_X10_tries_15 : decode prog_12_method_52_code 15 = .ok (.getfield 185, 3) := by decide +kernel
theorem d_X10_tries_18 : decode prog_12_method_52_code 18 = .ok (.iload_n 3, 1) := by decide +kernel
theorem d_X10_tries_19 : decode prog_12_method_52_code 19 = .ok (.aload_n 0, 1) := by decide +kernel
theorem d_X10_tries_20 : decode prog_12_method_52_code 20 = .ok (.getfield 7, 3) := by decide +kernel
theorem d_X10_tries_23 : decode prog_12_method_52_code 23 = .ok (.bipush 7, 2) := by decide +kernel
theorem d_X10_tries_25 : decode prog_12_method_52_code 25 = .ok (.iaload, 1) := by decide +kernel
theorem d_X10_tries_26 : decode prog_12_method_52_code 26 = .ok (.if_icmp .gt 7, 3) := by decide +kernel
theorem d_X10_tries_29 : decode prog_12_method_52_code 29 = .ok (.iconst 1, 1) := by decide +kernel
theorem d_X10_tries_30 : decode prog_12_method_52_code 30 = .ok (.goto 4, 3) := by decide +kernel
theorem d_X10_tries_33 : decode prog_12_method_52_code 33 = .ok (.iconst 0, 1) := by decide +kernel
theorem d_X10_tries_34 : decode prog_12_method_52_code 34 = .ok (.iadd, 1) := by decide +kernel
theorem d_X10_tries_35 : decode prog_12_method_52_code 35 = .ok (.putfield 185, 3) := by decide +kernel
theorem d_X10_tries_38 : decode prog_12_method_52_code 38 = .ok (.aload_n 0, 1) := by decide +kernel
theorem d_X10_tries_39 : decode prog_12_method_52_code 39 = .ok (.getfield 188, 3) := by decide +kernel
theorem d_X10_tries_42 : decode prog_12_method_52_code 42 = .ok (.ifCond .lt 11, 3) := by decide +kernel
theorem d_X10_tries_45 : decode prog_12_method_52_code 45 = .ok (.iload_n 3, 1) := by decide +kernel
theorem d_X10_tries_46 : decode prog_12_method_52_code 46 = .ok (.aload_n 0, 1) := by decide +kernel
theorem d_X10_tries_47 : decode prog_12_method_52_code 47 = .ok (.getfield 188, 3) := by decide +kernel
theorem d_X10_tries_50 : decode prog_12_method_52_code 50 = .ok (.if_icmp .ge 37, 3) := by decide +kernel
theorem d_X10_tries_53 : decode prog_12_method_52_code 53 = .ok (.aload_n 0, 1) := by decide +kernel
theorem d_X10_tries_54 : decode prog_12_method_52_code 54 = .ok (.iload_n 3, 1) := by decide +kernel
theorem d_X10_tries_55 : decode prog_12_method_52_code 55 = .ok (.putfield 188, 3) := by decide +kernel
theorem d_X10_tries_58 : decode prog_12_method_52_code 58 = .ok (.iconst 0, 1) := by decide +kernel
theorem d_X10_tries_59 : decode prog_12_method_52_code 59 = .ok (.istore 4, 2) := by decide +kernel
theorem d_X10_tries_61 : decode prog_12_method_52_code 61 = .ok (.iload 4, 2) := by decide +kernel
theorem d_X10_tries_63 : decode prog_12_method_52_code 63 = .ok (.iconst 4, 1) := by decide +kernel
theorem d_X10_tries_64 : decode prog_12_method_52_code 64 = .ok (.if_icmp .ge 23, 3) := by decide +kernel
theorem d_X10_tries_67 : decode prog_12_method_52_code 67 = .ok (.aload_n 0, 1) := by decide +kernel
theorem d_X10_tries_68 : decode prog_12_method_52_code 68 = .ok (.getfield 34, 3) := by decide +kernel
theorem d_X10_tries_71 : decode prog_12_method_52_code 71 = .ok (.iload 4, 2) := by decide +kernel
theorem d_X10_tries_73 : decode prog_12_method_52_code 73 = .ok (.aload_n 0, 1) := by decide +kernel
theorem d_X10_tries_74 : decode prog_12_method_52_code 74 = .ok (.getfield 31, 3) := by decide +kernel
theorem d_X10_tries_77 : decode prog_12_method_52_code 77 = .ok (.iload 4, 2) := by decide +kernel
theorem d_X10_tries_79 : decode prog_12_method_52_code 79 = .ok (.iaload, 1) := by decide +kernel
theorem d_X10_tries_80 : decode prog_12_method_52_code 80 = .ok (.iastore, 1) := by decide +kernel
theorem d_X10_tries_81 : decode prog_12_method_52_code 81 = .ok (.iinc 4 1, 3) := by decide +kernel
theorem d_X10_tries_84 : decode prog_12_method_52_code 84 = .ok (.goto (-23), 3) := by decide +kernel
theorem d_X10_tries_87 : decode prog_12_method_52_code 87 = .ok (.return_, 1) := by decide +kernel
theorem d_X10_tries_88 : decode prog_12_method_52_code 88 = .ok (.iconst 0, 1) := by decide +kernel
theorem d_X10_tries_89 : decode prog_12_method_52_code 89 = .ok (.istore_n 3, 1) := by decide +kernel
theorem d_X10_tries_90 : decode prog_12_method_52_code 90 = .ok (.iload_n 3, 1) := by decide +kernel
theorem d_X10_tries_91 : decode prog_12_method_52_code 91 = .ok (.aload_n 0, 1) := by decide +kernel
theorem d_X10_tries_92 : decode prog_12_method_52_code 92 = .ok (.getfield 7, 3) := by decide +kernel
theorem d_X10_tries_95 : decode prog_12_method_52_code 95 = .ok (.iconst 0, 1) := by decide +kernel
theorem d_X10_tries_96 : decode prog_12_method_52_code 96 = .ok (.iaload, 1) := by decide +kernel
theorem d_X10_tries_97 : decode prog_12_method_52_code 97 = .ok (.if_icmp .ge 65, 3) := by decide +kernel
theorem d_X10_tries_100 : decode prog_12_method_52_code 100 = .ok (.iconst 0, 1) := by decide +kernel
theorem d_X10_tries_101 : decode prog_12_method_52_code 101 = .ok (.istore 4, 2) := by decide +kernel
theorem d_X10_tries_103 : decode prog_12_method_52_code 103 = .ok (.iload 4, 2) := by decide +kernel
theorem d_X10_tries_105 : decode prog_12_method_52_code 105 = .ok (.iconst 4, 1) := by decide +kernel
theorem d_X10_tries_106 : decode prog_12_method_52_code 106 = .ok (.if_icmp .ge 50, 3) := by decide +kernel
theorem d_X10_tries_109 : decode prog_12_method_52_code 109 = .ok (.iload_n 2, 1) := by decide +kernel
theorem d_X10_tries_110 : decode prog_12_method_52_code 110 = .ok (.iload_n 3, 1) := by decide +kernel
theorem d_X10_tries_111 : decode prog_12_method_52_code 111 = .ok (.ishr, 1) := by decide +kernel
theorem d_X10_tries_112 : decode prog_12_method_52_code 112 = .ok (.iconst 1, 1) := by decide +kernel
theorem d_X10_tries_113 : decode prog_12_method_52_code 113 = .ok (.iand, 1) := by decide +kernel
theorem d_X10_tries_114 : decode prog_12_method_52_code 114 = .ok (.ifCond .ne 42, 3) := by decide +kernel
theorem d_X10_tries_117 : decode prog_12_method_52_code 117 = .ok (.aload_n 0, 1) := by decide +kernel
theorem d_X10_tries_118 : decode prog_12_method_52_code 118 = .ok (.iload_n 1, 1) := by decide +kernel
theorem d_X10_tries_119 : decode prog_12_method_52_code 119 = .ok (.iload_n 3, 1) := by decide +kernel
theorem d_X10_tries_120 : decode prog_12_method_52_code 120 = .ok (.iload 4, 2) := by decide +kernel
theorem d_X10_tries_122 : decode prog_12_method_52_code 122 = .ok (.invokevirtual 139, 3) := by decide +kernel
theorem d_X10_tries_125 : decode prog_12_method_52_code 125 = .ok (.aload_n 0, 1) := by decide +kernel
theorem d_X10_tries_126 : decode prog_12_method_52_code 126 = .ok (.getfield 31, 3) := by decide +kernel
theorem d_X10_tries_129 : decode prog_12_method_52_code 129 = .ok (.iload_n 1, 1) := by decide +kernel
theorem d_X10_tries_130 : decode prog_12_method_52_code 130 = .ok (.bipush 10, 2) := by decide +kernel
theorem d_X10_tries_132 : decode prog_12_method_52_code 132 = .ok (.iload_n 3, 1) := by decide +kernel
theorem d_X10_tries_133 : decode prog_12_method_52_code 133 = .ok (.imul, 1) := by decide +kernel
theorem d_X10_tries_134 : decode prog_12_method_52_code 134 = .ok (.iload 4, 2) := by decide +kernel
theorem d_X10_tries_136 : decode prog_12_method_52_code 136 = .ok (.iadd, 1) := by decide +kernel
theorem d_X10_tries_137 : decode prog_12_method_52_code 137 = .ok (.iastore, 1) := by decide +kernel
theorem d_X10_tries_138 : decode prog_12_method_52_code 138 = .ok (.aload_n 0, 1) := by decide +kernel
theorem d_X10_tries_139 : decode prog_12_method_52_code 139 = .ok (.iload_n 1, 1) := by decide +kernel
theorem d_X10_tries_140 : decode prog_12_method_52_code 140 = .ok (.iconst 1, 1) := by decide +kernel
theorem d_X10_tries_141 : decode prog_12_method_52_code 141 = .ok (.iadd, 1) := by decide +kernel
theorem d_X10_tries_142 : decode prog_12_method_52_code 142 = .ok (.iload_n 2, 1) := by decide +kernel
theorem d_X10_tries_143 : decode prog_12_method_52_code 143 = .ok (.iconst 1, 1) := by decide +kernel
theorem d_X10_tries_144 : decode prog_12_method_52_code 144 = .ok (.iload_n 3, 1) := by decide +kernel
theorem d_X10_tries_145 : decode prog_12_method_52_code 145 = .ok (.ishl, 1) := by decide +kernel
theorem d_X10_tries_146 : decode prog_12_method_52_code 146 = .ok (.ior, 1) := by decide +kernel
theorem d_X10_tries_147 : decode prog_12_method_52_code 147 = .ok (.invokevirtual 191, 3) := by decide +kernel
theorem d_X10_tries_150 : decode prog_12_method_52_code 150 = .ok (.iinc 4 1, 3) := by decide +kernel
theorem d_X10_tries_153 : decode prog_12_method_52_code 153 = .ok (.goto (-50), 3) := by decide +kernel
theorem d_X10_tries_156 : decode prog_12_method_52_code 156 = .ok (.iinc 3 1, 3) := by decide +kernel
theorem d_X10_tries_159 : decode prog_12_method_52_code 159 = .ok (.goto (-69), 3) := by decide +kernel
theorem d_X10_tries_162 : decode prog_12_method_52_code 162 = .ok (.return_, 1) := by decide +kernel
theorem d_X10_triesAll_0 : decode prog_12_method_53_code 0 = .ok (.aload_n 0, 1) := by decide +kernel
theorem d_X10_triesAll_1 : decode prog_12_method_53_code 1 = .ok (.invokevirtual 129, 3) := by decide +kernel
theorem d_X10_triesAll_4 : decode prog_12_method_53_code 4 = .ok (.aload_n 0, 1) := by decide +kernel
theorem d_X10_triesAll_5 : decode prog_12_method_53_code 5 = .ok (.iload_n 1, 1) := by decide +kernel
theorem d_X10_triesAll_6 : decode prog_12_method_53_code 6 = .ok (.putfield 135, 3) := by decide +kernel
theorem d_X10_triesAll_9 : decode prog_12_method_53_code 9 = .ok (.aload_n 0, 1) := by decide +kernel
theorem d_X10_triesAll_10 : decode prog_12_method_53_code 10 = .ok (.iconst (-1), 1) := by decide +kernel
theorem d_X10_triesAll_11 : decode prog_12_method_53_code 11 = .ok (.putfield 188, 3) := by decide +kernel
theorem d_X10_triesAll_14 : decode prog_12_method_53_code 14 = .ok (.aload_n 0, 1) := by decide +kernel
theorem d_X10_triesAll_15 : decode prog_12_method_53_code 15 = .ok (.iconst 0, 1) := by decide +kernel
theorem d_X10_triesAll_16 : decode prog_12_method_53_code 16 = .ok (.putfield 185, 3) := by decide +kernel
theorem d_X10_triesAll_19 : decode prog_12_method_53_code 19 = .ok (.aload_n 0, 1) := by decide +kernel
theorem d_X10_triesAll_20 : decode prog_12_method_53_code 20 = .ok (.iconst 0, 1) := by decide +kernel
theorem d_X10_triesAll_21 : decode prog_12_method_53_code 21 = .ok (.iconst 0, 1) := by decide +kernel
theorem d_X10_triesAll_22 : decode prog_12_method_53_code 22 = .ok (.invokevirtual 191, 3) := by decide +kernel
theorem d_X10_triesAll_25 : decode prog_12_method_53_code 25 = .ok (.return_, 1) := by decide +kernel
theorem d_X10_isMany_0 : decode prog_12_method_54_code 0 = .ok (.iload_n 0, 1) := by decide +kernel
theorem d_X10_isMany_1 : decode prog_12_method_54_code 1 = .ok (.i2l, 1) := by decide +kernel
theorem d_X10_isMany_2 : decode prog_12_method_54_code 2 = .ok (.lconst 1, 1) := by decide +kernel
theorem d_X10_isMany_3 : decode prog_12_method_54_code 3 = .ok (.ldc2_w 127, 3) := by decide +kernel
theorem d_X10_isMany_6 : decode prog_12_method_54_code 6 = .ok (.invokestatic 74, 3) := by decide +kernel
theorem d_X10_isMany_9 : decode prog_12_method_54_code 9 = .ok (.ireturn, 1) := by decide +kernel
theorem d_X10_least_0 : decode prog_12_method_55_code 0 = .ok (.iload_n 1, 1) := by decide +kernel
theorem d_X10_least_1 : decode prog_12_method_55_code 1 = .ok (.invokestatic 194, 3) := by decide +kernel
theorem d_X10_least_4 : decode prog_12_method_55_code 4 = .ok (.ifCond .ne 5, 3) := by decide +kernel
theorem d_X10_least_7 : decode prog_12_method_55_code 7 = .ok (.iconst (-1), 1) := by decide +kernel
theorem d_X10_least_8 : decode prog_12_method_55_code 8 = .ok (.ireturn, 1) := by decide +kernel
theorem d_X10_least_9 : decode prog_12_method_55_code 9 = .ok (.aload_n 0, 1) := by decide +kernel
theorem d_X10_least_10 : decode prog_12_method_55_code 10 = .ok (.iload_n 1, 1) := by decide +kernel
theorem d_X10_least_11 : decode prog_12_method_55_code 11 = .ok (.invokevirtual 197, 3) := by decide +kernel
theorem d_X10_least_14 : decode prog_12_method_55_code 14 = .ok (.aload_n 0, 1) := by decide +kernel
theorem d_X10_least_15 : decode prog_12_method_55_code 15 = .ok (.getfield 188, 3) := by decide +kernel
theorem d_X10_least_18 : decode prog_12_method_55_code 18 = .ok (.ifCond .ge 8, 3) := by decide +kernel
theorem d_X10_least_21 : decode prog_12_method_55_code 21 = .ok (.bipush (-3), 2) := by decide +kernel
theorem d_X10_least_23 : decode prog_12_method_55_code 23 = .ok (.goto 7, 3) := by decide +kernel
theorem d_X10_least_26 : decode prog_12_method_55_code 26 = .ok (.aload_n 0, 1) := by decide +kernel
theorem d_X10_least_27 : decode prog_12_method_55_code 27 = .ok (.getfield 188, 3) := by decide +kernel
theorem d_X10_least_30 : decode prog_12_method_55_code 30 = .ok (.ireturn, 1) := by decide +kernel
theorem d_X10_pick_0 : decode prog_12_method_56_code 0 = .ok (.iload_n 1, 1) := by decide +kernel
theorem d_X10_pick_1 : decode prog_12_method_56_code 1 = .ok (.invokestatic 194, 3) := by decide +kernel
theorem d_X10_pick_4 : decode prog_12_method_56_code 4 = .ok (.ifCond .eq 16, 3) := by decide +kernel
theorem d_X10_pick_7 : decode prog_12_method_56_code 7 = .ok (.iload_n 2, 1) := by decide +kernel
theorem d_X10_pick_8 : decode prog_12_method_56_code 8 = .ok (.i2l, 1) := by decide +kernel
theorem d_X10_pick_9 : decode prog_12_method_56_code 9 = .ok (.lconst 0, 1) := by decide +kernel
theorem d_X10_pick_10 : decode prog_12_method_56_code 10 = .ok (.iload_n 1, 1) := by decide +kernel
theorem d_X10_pick_11 : decode prog_12_method_56_code 11 = .ok (.iconst 1, 1) := by decide +kernel
theorem d_X10_pick_12 : decode prog_12_method_56_code 12 = .ok (.isub, 1) := by decide +kernel
theorem d_X10_pick_13 : decode prog_12_method_56_code 13 = .ok (.i2l, 1) := by decide +kernel
theorem d_X10_pick_14 : decode prog_12_method_56_code 14 = .ok (.invokestatic 74, 3) := by decide +kernel
theorem d_X10_pick_17 : decode prog_12_method_56_code 17 = .ok (.ifCond .ne 5, 3) := by decide +kernel
theorem d_X10_pick_20 : decode prog_12_method_56_code 20 = .ok (.iconst (-1), 1) := by decide +kernel
theorem d_X10_pick_21 : decode prog_12_method_56_code 21 = .ok (.ireturn, 1) := by decide +kernel
theorem d_X10_pick_22 : decode prog_12_method_56_code 22 = .ok (.aload_n 0, 1) := by decide +kernel
theorem d_X10_pick_23 : decode prog_12_method_56_code 23 = .ok (.iload_n 1, 1) := by decide +kernel
theorem d_X10_pick_24 : decode prog_12_method_56_code 24 = .ok (.invokevirtual 197, 3) := by decide +kernel
theorem d_X10_pick_27 : decode prog_12_method_56_code 27 = .ok (.aload_n 0, 1) := by decide +kernel
theorem d_X10_pick_28 : decode prog_12_method_56_code 28 = .ok (.getfield 188, 3) := by decide +kernel
theorem d_X10_pick_31 : decode prog_12_method_56_code 31 = .ok (.ifCond .ge 8, 3) := by decide +kernel
theorem d_X10_pick_34 : decode prog_12_method_56_code 34 = .ok (.bipush (-3), 2) := by decide +kernel
theorem d_X10_pick_36 : decode prog_12_method_56_code 36 = .ok (.goto 9, 3) := by decide +kernel
theorem d_X10_pick_39 : decode prog_12_method_56_code 39 = .ok (.aload_n 0, 1) := by decide +kernel
theorem d_X10_pick_40 : decode prog_12_method_56_code 40 = .ok (.getfield 34, 3) := by decide +kernel
theorem d_X10_pick_43 : decode prog_12_method_56_code 43 = .ok (.iload_n 2, 1) := by decide +kernel
theorem d_X10_pick_44 : decode prog_12_method_56_code 44 = .ok (.iaload, 1) := by decide +kernel
theorem d_X10_pick_45 : decode prog_12_method_56_code 45 = .ok (.ireturn, 1) := by decide +kernel
theorem d_X10_good_0 : decode prog_12_method_57_code 0 = .ok (.iload_n 1, 1) := by decide +kernel
theorem d_X10_good_1 : decode prog_12_method_57_code 1 = .ok (.invokestatic 194, 3) := by decide +kernel
theorem d_X10_good_4 : decode prog_12_method_57_code 4 = .ok (.ifCond .ne 5, 3) := by decide +kernel
theorem d_X10_good_7 : decode prog_12_method_57_code 7 = .ok (.iconst (-1), 1) := by decide +kernel
theorem d_X10_good_8 : decode prog_12_method_57_code 8 = .ok (.ireturn, 1) := by decide +kernel
theorem d_X10_good_9 : decode prog_12_method_57_code 9 = .ok (.aload_n 0, 1) := by decide +kernel
theorem d_X10_good_10 : decode prog_12_method_57_code 10 = .ok (.iload_n 1, 1) := by decide +kernel
theorem d_X10_good_11 : decode prog_12_method_57_code 11 = .ok (.invokevirtual 197, 3) := by decide +kernel
theorem d_X10_good_14 : decode prog_12_method_57_code 14 = .ok (.aload_n 0, 1) := by decide +kernel
theorem d_X10_good_15 : decode prog_12_method_57_code 15 = .ok (.getfield 185, 3) := by decide +kernel
theorem d_X10_good_18 : decode prog_12_method_57_code 18 = .ok (.ireturn, 1) := by decide +kernel
theorem d_X10_isPair_0 : decode prog_12_method_58_code 0 = .ok (.aload_n 0, 1) := by decide +kernel
theorem d_X10_isPair_1 : decode prog_12_method_58_code 1 = .ok (.iconst 2, 1) := by decide +kernel
theorem d_X10_isPair_2 : decode prog_12_method_58_code 2 = .ok (.putfield 135, 3) := by decide +kernel
theorem d_X10_isPair_5 : decode prog_12_method_58_code 5 = .ok (.iconst 0, 1) := by decide +kernel
theorem d_X10_isPair_6 : decode prog_12_method_58_code 6 = .ok (.istore_n 3, 1) := by decide +kernel
theorem d_X10_isPair_7 : decode prog_12_method_58_code 7 = .ok (.iload_n 3, 1) := by decide +kernel
theorem d_X10_isPair_8 : decode prog_12_method_58_code 8 = .ok (.bipush 32, 2) := by decide +kernel
theorem d_X10_isPair_10 : decode prog_12_method_58_code 10 = .ok (.if_icmp .ge 44, 3) := by decide +kernel
theorem d_X10_isPair_13 : decode prog_12_method_58_code 13 = .ok (.aload_n 0, 1) := by decide +kernel
theorem d_X10_isPair_14 : decode prog_12_method_58_code 14 = .ok (.iload_n 3, 1) := by decide +kernel
theorem d_X10_isPair_15 : decode prog_12_method_58_code 15 = .ok (.iconst 1, 1) := by decide +kernel
theorem d_X10_isPair_16 : decode prog_12_method_58_code 16 = .ok (.iand, 1) := by decide +kernel
theorem d_X10_isPair_17 : decode prog_12_method_58_code 17 = .ok (.iload_n 1, 1) := by decide +kernel
theorem d_X10_isPair_18 : decode prog_12_method_58_code 18 = .ok (.iload_n 3, 1) := by decide +kernel
theorem d_X10_isPair_19 : decode prog_12_method_58_code 19 = .ok (.iconst 1, 1) := by decide +kernel
theorem d_X10_isPair_20 : decode prog_12_method_58_code 20 = .ok (.ishr, 1) := by decide +kernel
theorem d_X10_isPair_21 : decode prog_12_method_58_code 21 = .ok (.iconst 3, 1) := by decide +kernel
theorem d_X10_isPair_22 : decode prog_12_method_58_code 22 = .ok (.iand, 1) := by decide +kernel
theorem d_X10_isPair_23 : decode prog_12_method_58_code 23 = .ok (.invokevirtual 139, 3) := by decide +kernel
theorem d_X10_isPair_26 : decode prog_12_method_58_code 26 = .ok (.aload_n 0, 1) := by decide +kernel
theorem d_X10_isPair_27 : decode prog_12_method_58_code 27 = .ok (.iconst 1, 1) := by decide +kernel
theorem d_X10_isPair_28 : decode prog_12_method_58_code 28 = .ok (.iload_n 3, 1) := by decide +kernel
theorem d_X10_isPair_29 : decode prog_12_method_58_code 29 = .ok (.iconst 1, 1) := by decide +kernel
theorem d_X10_isPair_30 : decode prog_12_method_58_code 30 = .ok (.iand, 1) := by decide +kernel
theorem d_X10_isPair_31 : decode prog_12_method_58_code 31 = .ok (.isub, 1) := by decide +kernel
theorem d_X10_isPair_32 : decode prog_12_method_58_code 32 = .ok (.iload_n 2, 1) := by decide +kernel
theorem d_X10_isPair_33 : decode prog_12_method_58_code 33 = .ok (.iload_n 3, 1) := by decide +kernel
theorem d_X10_isPair_34 : decode prog_12_method_58_code 34 = .ok (.iconst 3, 1) := by decide +kernel
theorem d_X10_isPair_35 : decode prog_12_method_58_code 35 = .ok (.ishr, 1) := by decide +kernel
theorem d_X10_isPair_36 : decode prog_12_method_58_code 36 = .ok (.invokevirtual 139, 3) := by decide +kernel
theorem d_X10_isPair_39 : decode prog_12_method_58_code 39 = .ok (.aload_n 0, 1) := by decide +kernel
theorem d_X10_isPair_40 : decode prog_12_method_58_code 40 = .ok (.invokevirtual 169, 3) := by decide +kernel
theorem d_X10_isPair_43 : decode prog_12_method_58_code 43 = .ok (.ifCond .eq 5, 3) := by decide +kernel
theorem d_X10_isPair_46 : decode prog_12_method_58_code 46 = .ok (.iconst 1, 1) := by decide +kernel
theorem d_X10_isPair_47 : decode prog_12_method_58_code 47 = .ok (.ireturn, 1) := by decide +kernel
theorem d_X10_isPair_48 : decode prog_12_method_58_code 48 = .ok (.iinc 3 1, 3) := by decide +kernel
theorem d_X10_isPair_51 : decode prog_12_method_58_code 51 = .ok (.goto (-44), 3) := by decide +kernel
theorem d_X10_isPair_54 : decode prog_12_method_58_code 54 = .ok (.iconst 0, 1) := by decide +kernel
theorem d_X10_isPair_55 : decode prog_12_method_58_code 55 = .ok (.ireturn, 1) := by decide +kernel
theorem d_X10_mostOf_0 : decode prog_12_method_59_code 0 = .ok (.iconst 0, 1) := by decide +kernel
theorem d_X10_mostOf_1 : decode prog_12_method_59_code 1 = .ok (.istore_n 2, 1) := by decide +kernel
theorem d_X10_mostOf_2 : decode prog_12_method_59_code 2 = .ok (.iload_n 1, 1) := by decide +kernel
theorem d_X10_mostOf_3 : decode prog_12_method_59_code 3 = .ok (.iload_n 2, 1) := by decide +kernel
theorem d_X10_mostOf_4 : decode prog_12_method_59_code 4 = .ok (.ishr, 1) := by decide +kernel
theorem d_X10_mostOf_5 : decode prog_12_method_59_code 5 = .ok (.iconst 1, 1) := by decide +kernel
theorem d_X10_mostOf_6 : decode prog_12_method_59_code 6 = .ok (.iand, 1) := by decide +kernel
theorem d_X10_mostOf_7 : decode prog_12_method_59_code 7 = .ok (.ifCond .ne 9, 3) := by decide +kernel
theorem d_X10_mostOf_10 : decode prog_12_method_59_code 10 = .ok (.iinc 2 1, 3) := by decide +kernel
theorem d_X10_mostOf_13 : decode prog_12_method_59_code 13 = .ok (.goto (-11), 3) := by decide +kernel
theorem d_X10_mostOf_16 : decode prog_12_method_59_code 16 = .ok (.iload_n 1, 1) := by decide +kernel
theorem d_X10_mostOf_17 : decode prog_12_method_59_code 17 = .ok (.iconst 1, 1) := by decide +kernel
theorem d_X10_mostOf_18 : decode prog_12_method_59_code 18 = .ok (.iload_n 2, 1) := by decide +kernel
theorem d_X10_mostOf_19 : decode prog_12_method_59_code 19 = .ok (.ishl, 1) := by decide +kernel
theorem d_X10_mostOf_20 : decode prog_12_method_59_code 20 = .ok (.iconst (-1), 1) := by decide +kernel
theorem d_X10_mostOf_21 : decode prog_12_method_59_code 21 = .ok (.ixor, 1) := by decide +kernel
theorem d_X10_mostOf_22 : decode prog_12_method_59_code 22 = .ok (.iand, 1) := by decide +kernel
theorem d_X10_mostOf_23 : decode prog_12_method_59_code 23 = .ok (.istore_n 3, 1) := by decide +kernel
theorem d_X10_mostOf_24 : decode prog_12_method_59_code 24 = .ok (.aload_n 0, 1) := by decide +kernel
theorem d_X10_mostOf_25 : decode prog_12_method_59_code 25 = .ok (.getfield 41, 3) := by decide +kernel
theorem d_X10_mostOf_28 : decode prog_12_method_59_code 28 = .ok (.iload_n 3, 1) := by decide +kernel
theorem d_X10_mostOf_29 : decode prog_12_method_59_code 29 = .ok (.iaload, 1) := by decide +kernel
theorem d_X10_mostOf_30 : decode prog_12_method_59_code 30 = .ok (.istore 4, 2) := by decide +kernel
theorem d_X10_mostOf_32 : decode prog_12_method_59_code 32 = .ok (.iload_n 2, 1) := by decide +kernel
theorem d_X10_mostOf_33 : decode prog_12_method_59_code 33 = .ok (.iconst 1, 1) := by decide +kernel
theorem d_X10_mostOf_34 : decode prog_12_method_59_code 34 = .ok (.iadd, 1) := by decide +kernel
theorem d_X10_mostOf_35 : decode prog_12_method_59_code 35 = .ok (.istore 5, 2) := by decide +kernel
theorem d_X10_mostOf_37 : decode prog_12_method_59_code 37 = .ok (.iload 5, 2) := by decide +kernel
theorem d_X10_mostOf_39 : decode prog_12_method_59_code 39 = .ok (.aload_n 0, 1) := by decide +kernel
theorem d_X10_mostOf_40 : decode prog_12_method_59_code 40 = .ok (.getfield 7, 3) := by decide +kernel
theorem d_X10_mostOf_43 : decode prog_12_method_59_code 43 = .ok (.iconst 0, 1) := by decide +kernel
theorem d_X10_mostOf_44 : decode prog_12_method_59_code 44 = .ok (.iaload, 1) := by decide +kernel
theorem d_X10_mostOf_45 : decode prog_12_method_59_code 45 = .ok (.if_icmp .ge 67, 3) := by decide +kernel
theorem d_X10_mostOf_48 : decode prog_12_method_59_code 48 = .ok (.iload_n 3, 1) := by decide +kernel
theorem d_X10_mostOf_49 : decode prog_12_method_59_code 49 = .ok (.iload 5, 2) := by decide +kernel
theorem d_X10_mostOf_51 : decode prog_12_method_59_code 51 = .ok (.ishr, 1) := by decide +kernel
theorem d_X10_mostOf_52 : decode prog_12_method_59_code 52 = .ok (.iconst 1, 1) := by decide +kernel
theorem d_X10_mostOf_53 : decode prog_12_method_59_code 53 = .ok (.iand, 1) := by decide +kernel
theorem d_X10_mostOf_54 : decode prog_12_method_59_code 54 = .ok (.iconst 1, 1) := by decide +kernel
theorem d_X10_mostOf_55 : decode prog_12_method_59_code 55 = .ok (.if_icmp .ne 51, 3) := by decide +kernel
theorem d_X10_mostOf_58 : decode prog_12_method_59_code 58 = .ok (.aload_n 0, 1) := by decide +kernel
theorem d_X10_mostOf_59 : decode prog_12_method_59_code 59 = .ok (.getfield 37, 3) := by decide +kernel
theorem d_X10_mostOf_62 : decode prog_12_method_59_code 62 = .ok (.bipush 9, 2) := by decide +kernel
theorem d_X10_mostOf_64 : decode prog_12_method_59_code 64 = .ok (.iload_n 2, 1) := by decide +kernel
theorem d_X10_mostOf_65 : decode prog_12_method_59_code 65 = .ok (.imul, 1) := by decide +kernel
theorem d_X10_mostOf_66 : decode prog_12_method_59_code 66 = .ok (.iload 5, 2) := by decide +kernel
theorem d_X10_mostOf_68 : decode prog_12_method_59_code 68 = .ok (.iadd, 1) := by decide +kernel
theorem d_X10_mostOf_69 : decode prog_12_method_59_code 69 = .ok (.baload, 1) := by decide +kernel
theorem d_X10_mostOf_70 : decode prog_12_method_59_code 70 = .ok (.ifCond .eq 36, 3) := by decide +kernel
theorem d_X10_mostOf_73 : decode prog_12_method_59_code 73 = .ok (.iconst 1, 1) := by decide +kernel
theorem d_X10_mostOf_74 : decode prog_12_method_59_code 74 = .ok (.aload_n 0, 1) := by decide +kernel
theorem d_X10_mostOf_75 : decode prog_12_method_59_code 75 = .ok (.getfield 41, 3) := by decide +kernel
theorem d_X10_mostOf_78 : decode prog_12_method_59_code 78 = .ok (.iload_n 3, 1) := by decide +kernel
theorem d_X10_mostOf_79 : decode prog_12_method_59_code 79 = .ok (.iconst 1, 1) := by decide +kernel
theorem d_X10_mostOf_80 : decode prog_12_method_59_code 80 = .ok (.iload 5, 2) := by decide +kernel
theorem d_X10_mostOf_82 : decode prog_12_method_59_code 82 = .ok (.ishl, 1) := by decide +kernel
theorem d_X10_mostOf_83 : decode prog_12_method_59_code 83 = .ok (.iconst (-1), 1) := by decide +kernel
theorem d_X10_mostOf_84 : decode prog_12_method_59_code 84 = .ok (.ixor, 1) := by decide +kernel
theorem d_X10_mostOf_85 : decode prog_12_method_59_code 85 = .ok (.iand, 1) := by decide +kernel
theorem d_X10_mostOf_86 : decode prog_12_method_59_code 86 = .ok (.iaload, 1) := by decide +kernel
theorem d_X10_mostOf_87 : decode prog_12_method_59_code 87 = .ok (.iadd, 1) := by decide +kernel
theorem d_X10_mostOf_88 : decode prog_12_method_59_code 88 = .ok (.istore 6, 2) := by decide +kernel
theorem d_X10_mostOf_90 : decode prog_12_method_59_code 90 = .ok (.iload 6, 2) := by decide +kernel
theorem d_X10_mostOf_92 : decode prog_12_method_59_code 92 = .ok (.iload 4, 2) := by decide +kernel
theorem d_X10_mostOf_94 : decode prog_12_method_59_code 94 = .ok (.if_icmp .le 8, 3) := by decide +kernel
theorem d_X10_mostOf_97 : decode prog_12_method_59_code 97 = .ok (.iload 6, 2) := by decide +kernel
theorem d_X10_mostOf_99 : decode prog_12_method_59_code 99 = .ok (.goto 5, 3) := by decide +kernel
theorem d_X10_mostOf_102 : decode prog_12_method_59_code 102 = .ok (.iload 4, 2) := by decide +kernel
theorem d_X10_mostOf_104 : decode prog_12_method_59_code 104 = .ok (.istore 4, 2) := by decide +kernel
theorem d_X10_mostOf_106 : decode prog_12_method_59_code 106 = .ok (.iinc 5 1, 3) := by decide +kernel
theorem d_X10_mostOf_109 : decode prog_12_method_59_code 109 = .ok (.goto (-72), 3) := by decide +kernel
theorem d_X10_mostOf_112 : decode prog_12_method_59_code 112 = .ok (.iload 4, 2) := by decide +kernel
theorem d_X10_mostOf_114 : decode prog_12_method_59_code 114 = .ok (.ireturn, 1) := by decide +kernel
theorem d_X10_findPairs_0 : decode prog_12_method_60_code 0 = .ok (.aload_n 0, 1) := by decide +kernel
theorem d_X10_findPairs_1 : decode prog_12_method_60_code 1 = .ok (.invokevirtual 129, 3) := by decide +kernel
theorem d_X10_findPairs_4 : decode prog_12_method_60_code 4 = .ok (.iconst 0, 1) := by decide +kernel
theorem d_X10_findPairs_5 : decode prog_12_method_60_code 5 = .ok (.istore_n 1, 1) := by decide +kernel
theorem d_X10_findPairs_6 : decode prog_12_method_60_code 6 = .ok (.iload_n 1, 1) := by decide +kernel
theorem d_X10_findPairs_7 : decode prog_12_method_60_code 7 = .ok (.aload_n 0, 1) := by decide +kernel
theorem d_X10_findPairs_8 : decode prog_12_method_60_code 8 = .ok (.getfield 7, 3) := by decide +kernel
theorem d_X10_findPairs_11 : decode prog_12_method_60_code 11 = .ok (.iconst 0, 1) := by decide +kernel
theorem d_X10_findPairs_12 : decode prog_12_method_60_code 12 = .ok (.iaload, 1) := by decide +kernel
theorem d_X10_findPairs_13 : decode prog_12_method_60_code 13 = .ok (.if_icmp .ge 46, 3) := by decide +kernel
theorem d_X10_findPairs_16 : decode prog_12_method_60_code 16 = .ok (.iload_n 1, 1) := by decide +kernel
theorem d_X10_findPairs_17 : decode prog_12_method_60_code 17 = .ok (.iconst 1, 1) := by decide +kernel
theorem d_X10_findPairs_18 : decode prog_12_method_60_code 18 = .ok (.iadd, 1) := by decide +kernel
theorem d_X10_findPairs_19 : decode prog_12_method_60_code 19 = .ok (.istore_n 2, 1) := by decide +kernel
theorem d_X10_findPairs_20 : decode prog_12_method_60_code 20 = .ok (.iload_n 2, 1) := by decide +kernel
theorem d_X10_findPairs_21 : decode prog_12_method_60_code 21 = .ok (.aload_n 0, 1) := by decide +kernel
theorem d_X10_findPairs_22 : decode prog_12_method_60_code 22 = .ok (.getfield 7, 3) := by decide +kernel
theorem d_X10_findPairs_25 : decode prog_12_method_60_code 25 = .ok (.iconst 0, 1) := by decide +kernel
theorem d_X10_findPairs_26 : decode prog_12_method_60_code 26 = .ok (.iaload, 1) := by decide +kernel
theorem d_X10_findPairs_27 : decode prog_12_method_60_code 27 = .ok (.if_icmp .ge 26, 3) := by decide +kernel
theorem d_X10_findPairs_30 : decode prog_12_method_60_code 30 = .ok (.aload_n 0, 1) := by decide +kernel
theorem d_X10_findPairs_31 : decode prog_12_method_60_code 31 = .ok (.getfield 37, 3) := by decide +kernel
theorem d_X10_findPairs_34 : decode prog_12_method_60_code 34 = .ok (.bipush 9, 2) := by decide +kernel
theorem d_X10_findPairs_36 : decode prog_12_method_60_code 36 = .ok (.iload_n 1, 1) := by decide +kernel
theorem d_X10_findPairs_37 : decode prog_12_method_60_code 37 = .ok (.imul, 1) := by decide +kernel
theorem d_X10_findPairs_38 : decode prog_12_method_60_code 38 = .ok (.iload_n 2, 1) := by decide +kernel
theorem d_X10_findPairs_39 : decode prog_12_method_60_code 39 = .ok (.iadd, 1) := by decide +kernel
theorem d_X10_findPairs_40 : decode prog_12_method_60_code 40 = .ok (.aload_n 0, 1) := by decide +kernel
theorem d_X10_findPairs_41 : decode prog_12_method_60_code 41 = .ok (.iload_n 1, 1) := by decide +kernel
theorem d_X10_findPairs_42 : decode prog_12_method_60_code 42 = .ok (.iload_n 2, 1) := by decide +kernel
theorem d_X10_findPairs_43 : decode prog_12_method_60_code 43 = .ok (.invokevirtual 201, 3) := by decide +kernel
theorem d_X10_findPairs_46 : decode prog_12_method_60_code 46 = .ok (.bastore, 1) := by decide +kernel
theorem d_X10_findPairs_47 : decode prog_12_method_60_code 47 = .ok (.iinc 2 1, 3) := by decide +kernel
theorem d_X10_findPairs_50 : decode prog_12_method_60_code 50 = .ok (.goto (-30), 3) := by decide +kernel
theorem d_X10_findPairs_53 : decode prog_12_method_60_code 53 = .ok (.iinc 1 1, 3) := by decide +kernel
theorem d_X10_findPairs_56 : decode prog_12_method_60_code 56 = .ok (.goto (-50), 3) := by decide +kernel
theorem d_X10_findPairs_59 : decode prog_12_method_60_code 59 = .ok (.aload_n 0, 1) := by decide +kernel
theorem d_X10_findPairs_60 : decode prog_12_method_60_code 60 = .ok (.getfield 41, 3) := by decide +kernel
theorem d_X10_findPairs_63 : decode prog_12_method_60_code 63 = .ok (.iconst 0, 1) := by decide +kernel
theorem d_X10_findPairs_64 : decode prog_12_method_60_code 64 = .ok (.iconst 0, 1) := by decide +kernel
theorem d_X10_findPairs_65 : decode prog_12_method_60_code 65 = .ok (.iastore, 1) := by decide +kernel
theorem d_X10_findPairs_66 : decode prog_12_method_60_code 66 = .ok (.iconst 1, 1) := by decide +kernel
theorem d_X10_findPairs_67 : decode prog_12_method_60_code 67 = .ok (.istore_n 1, 1) := by decide +kernel
theorem d_X10_findPairs_68 : decode prog_12_method_60_code 68 = .ok (.iload_n 1, 1) := by decide +kernel
theorem d_X10_findPairs_69 : decode prog_12_method_60_code 69 = .ok (.iconst 1, 1) := by decide +kernel
theorem d_X10_findPairs_70 : decode prog_12_method_60_code 70 = .ok (.aload_n 0, 1) := by decide +kernel
theorem d_X10_findPairs_71 : decode prog_12_method_60_code 71 = .ok (.getfield 7, 3) := by decide +kernel
theorem d_X10_findPairs_74 : decode prog_12_method_60_code 74 = .ok (.iconst 0, 1) := by decide +kernel
theorem d_X10_findPairs_75 : decode prog_12_method_60_code 75 = .ok (.iaload, 1) := by decide +kernel
theorem d_X10_findPairs_76 : decode prog_12_method_60_code 76 = .ok (.ishl, 1) := by decide +kernel
theorem d_X10_findPairs_77 : decode prog_12_method_60_code 77 = .ok (.if_icmp .ge 20, 3) := by decide +kernel
theorem d_X10_findPairs_80 : decode prog_12_method_60_code 80 = .ok (.aload_n 0, 1) := by decide +kernel
theorem d_X10_findPairs_81 : decode prog_12_method_60_code 81 = .ok (.getfield 41, 3) := by decide +kernel
theorem d_X10_findPairs_84 : decode prog_12_method_60_code 84 = .ok (.iload_n 1, 1) := by decide +kernel
theorem d_X10_findPairs_85 : decode prog_12_method_60_code 85 = .ok (.aload_n 0, 1) := by decide +kernel
theorem d_X10_findPairs_86 : decode prog_12_method_60_code 86 = .ok (.iload_n 1, 1) := by decide +kernel
theorem d_X10_findPairs_87 : decode prog_12_method_60_code 87 = .ok (.invokevirtual 204, 3) := by decide +kernel
theorem d_X10_findPairs_90 : decode prog_12_method_60_code 90 = .ok (.iastore, 1) := by decide +kernel
theorem d_X10_findPairs_91 : decode prog_12_method_60_code 91 = .ok (.iinc 1 1, 3) := by decide +kernel
theorem d_X10_findPairs_94 : decode prog_12_method_60_code 94 = .ok (.goto (-26), 3) := by decide +kernel
theorem d_X10_findPairs_97 : decode prog_12_method_60_code 97 = .ok (.return_, 1) := by decide +kernel
theorem d_X10_pairs_0 : decode prog_12_method_61_code 0 = .ok (.aload_n 0, 1) := by decide +kernel
theorem d_X10_pairs_1 : decode prog_12_method_61_code 1 = .ok (.invokevirtual 207, 3) := by decide +kernel
theorem d_X10_pairs_4 : decode prog_12_method_61_code 4 = .ok (.aload_n 0, 1) := by decide +kernel
theorem d_X10_pairs_5 : decode prog_12_method_61_code 5 = .ok (.getfield 41, 3) := by decide +kernel
theorem d_X10_pairs_8 : decode prog_12_method_61_code 8 = .ok (.iconst 1, 1) := by decide +kernel
theorem d_X10_pairs_9 : decode prog_12_method_61_code 9 = .ok (.aload_n 0, 1) := by decide +kernel
theorem d_X10_pairs_10 : decode prog_12_method_61_code 10 = .ok (.getfield 7, 3) := by decide +kernel
theorem d_X10_pairs_13 : decode prog_12_method_61_code 13 = .ok (.iconst 0, 1) := by decide +kernel
theorem d_X10_pairs_14 : decode prog_12_method_61_code 14 = .ok (.iaload, 1) := by decide +kernel
theorem d_X10_pairs_15 : decode prog_12_method_61_code 15 = .ok (.ishl, 1) := by decide +kernel
theorem d_X10_pairs_16 : decode prog_12_method_61_code 16 = .ok (.iconst 1, 1) := by decide +kernel
theorem d_X10_pairs_17 : decode prog_12_method_61_code 17 = .ok (.isub, 1) := by decide +kernel
theorem d_X10_pairs_18 : decode prog_12_method_61_code 18 = .ok (.iaload, 1) := by decide +kernel
theorem d_X10_pairs_19 : decode prog_12_method_61_code 19 = .ok (.ireturn, 1) := by decide +kernel
theorem d_X10_mate_0 : decode prog_12_method_62_code 0 = .ok (.aload_n 0, 1) := by decide +kernel
theorem d_X10_mate_1 : decode prog_12_method_62_code 1 = .ok (.iload_n 1, 1) := by decide +kernel
theorem d_X10_mate_2 : decode prog_12_method_62_code 2 = .ok (.invokevirtual 114, 3) := by decide +kernel
theorem d_X10_mate_5 : decode prog_12_method_62_code 5 = .ok (.ifCond .ne 5, 3) := by decide +kernel
theorem d_X10_mate_8 : decode prog_12_method_62_code 8 = .ok (.iconst (-1), 1) := by decide +kernel
theorem d_X10_mate_9 : decode prog_12_method_62_code 9 = .ok (.ireturn, 1) := by decide +kernel
theorem d_X10_mate_10 : decode prog_12_method_62_code 10 = .ok (.aload_n 0, 1) := by decide +kernel
theorem d_X10_mate_11 : decode prog_12_method_62_code 11 = .ok (.invokevirtual 207, 3) := by decide +kernel
theorem d_X10_mate_14 : decode prog_12_method_62_code 14 = .ok (.iconst 1, 1) := by decide +kernel
theorem d_X10_mate_15 : decode prog_12_method_62_code 15 = .ok (.aload_n 0, 1) := by decide +kernel
theorem d_X10_mate_16 : decode prog_12_method_62_code 16 = .ok (.getfield 7, 3) := by decide +kernel
theorem d_X10_mate_19 : decode prog_12_method_62_code 19 = .ok (.iconst 0, 1) := by decide +kernel
theorem d_X10_mate_20 : decode prog_12_method_62_code 20 = .ok (.iaload, 1) := by decide +kernel
theorem d_X10_mate_21 : decode prog_12_method_62_code 21 = .ok (.ishl, 1) := by decide +kernel
theorem d_X10_mate_22 : decode prog_12_method_62_code 22 = .ok (.iconst 1, 1) := by decide +kernel
theorem d_X10_mate_23 : decode prog_12_method_62_code 23 = .ok (.isub, 1) := by decide +kernel
theorem d_X10_mate_24 : decode prog_12_method_62_code 24 = .ok (.istore_n 2, 1) := by decide +kernel
theorem d_X10_mate_25 : decode prog_12_method_62_code 25 = .ok (.bipush (-3), 2) := by decide +kernel
theorem d_X10_mate_27 : decode prog_12_method_62_code 27 = .ok (.istore_n 3, 1) := by decide +kernel
theorem d_X10_mate_28 : decode prog_12_method_62_code 28 = .ok (.iconst 0, 1) := by decide +kernel
theorem d_X10_mate_29 : decode prog_12_method_62_code 29 = .ok (.istore 4, 2) := by decide +kernel
theorem d_X10_mate_31 : decode prog_12_method_62_code 31 = .ok (.iload 4, 2) := by decide +kernel
theorem d_X10_mate_33 : decode prog_12_method_62_code 33 = .ok (.aload_n 0, 1) := by decide +kernel
theorem d_X10_mate_34 : decode prog_12_method_62_code 34 = .ok (.getfield 7, 3) := by decide +kernel
theorem d_X10_mate_37 : decode prog_12_method_62_code 37 = .ok (.iconst 0, 1) := by decide +kernel
theorem d_X10_mate_38 : decode prog_12_method_62_code 38 = .ok (.iaload, 1) := by decide +kernel
theorem d_X10_mate_39 : decode prog_12_method_62_code 39 = .ok (.if_icmp .ge 182, 3) := by decide +kernel
theorem d_X10_mate_42 : decode prog_12_method_62_code 42 = .ok (.iload_n 2, 1) := by decide +kernel
theorem d_X10_mate_43 : decode prog_12_method_62_code 43 = .ok (.iload 4, 2) := by decide +kernel
theorem d_X10_mate_45 : decode prog_12_method_62_code 45 = .ok (.ishr, 1) := by decide +kernel
theorem d_X10_mate_46 : decode prog_12_method_62_code 46 = .ok (.iconst 1, 1) := by decide +kernel
theorem d_X10_mate_47 : decode prog_12_method_62_code 47 = .ok (.iand, 1) := by decide +kernel
theorem d_X10_mate_48 : decode prog_12_method_62_code 48 = .ok (.iconst 1, 1) := by decide +kernel
theorem d_X10_mate_49 : decode prog_12_method_62_code 49 = .ok (.if_icmp .ne 166, 3) := by decide +kernel
theorem d_X10_mate_52 : decode prog_12_method_62_code 52 = .ok (.iload_n 2, 1) := by decide +kernel
theorem d_X10_mate_53 : decode prog_12_method_62_code 53 = .ok (.iconst 1, 1) := by decide +kernel
theorem d_X10_mate_54 : decode prog_12_method_62_code 54 = .ok (.iload 4, 2) := by decide +kernel
theorem d_X10_mate_56 : decode prog_12_method_62_code 56 = .ok (.ishl, 1) := by decide +kernel
theorem d_X10_mate_57 : decode prog_12_method_62_code 57 = .ok (.iconst (-1), 1) := by decide +kernel
theorem d_X10_mate_58 : decode prog_12_method_62_code 58 = .ok (.ixor, 1) := by decide +kernel
theorem d_X10_mate_59 : decode prog_12_method_62_code 59 = .ok (.iand, 1) := by decide +kernel
theorem d_X10_mate_60 : decode prog_12_method_62_code 60 = .ok (.istore 5, 2) := by decide +kernel
theorem d_X10_mate_62 : decode prog_12_method_62_code 62 = .ok (.iconst (-1), 1) := by decide +kernel
theorem d_X10_mate_63 : decode prog_12_method_62_code 63 = .ok (.istore 6, 2) := by decide +kernel
theorem d_X10_mate_65 : decode prog_12_method_62_code 65 = .ok (.aload_n 0, 1) := by decide +kernel
theorem d_X10_mate_66 : decode prog_12_method_62_code 66 = .ok (.getfield 7, 3) := by decide +kernel
theorem d_X10_mate_69 : decode prog_12_method_62_code 69 = .ok (.iconst 0, 1) := by decide +kernel
theorem d_X10_mate_70 : decode prog_12_method_62_code 70 = .ok (.iaload, 1) := by decide +kernel
theorem d_X10_mate_71 : decode prog_12_method_62_code 71 = .ok (.iconst 1, 1) := by decide +kernel
theorem d_X10_mate_72 : decode prog_12_method_62_code 72 = .ok (.isub, 1) := by decide +kernel
theorem d_X10_mate_73 : decode prog_12_method_62_code 73 = .ok (.istore 7, 2) := by decide +kernel
theorem d_X10_mate_75 : decode prog_12_method_62_code 75 = .ok (.iload 7, 2) := by decide +kernel
theorem d_X10_mate_77 : decode prog_12_method_62_code 77 = .ok (.iload 4, 2) := by decide +kernel
theorem d_X10_mate_79 : decode prog_12_method_62_code 79 = .ok (.if_icmp .le 82, 3) := by decide +kernel
theorem d_X10_mate_82 : decode prog_12_method_62_code 82 = .ok (.iload 5, 2) := by decide +kernel
theorem d_X10_mate_84 : decode prog_12_method_62_code 84 = .ok (.iload 7, 2) := by decide +kernel
theorem d_X10_mate_86 : decode prog_12_method_62_code 86 = .ok (.ishr, 1) := by decide +kernel
theorem d_X10_mate_87 : decode prog_12_method_62_code 87 = .ok (.iconst 1, 1) := by decide +kernel
theorem d_X10_mate_88 : decode prog_12_method_62_code 88 = .ok (.iand, 1) := by decide +kernel
theorem d_X10_mate_89 : decode prog_12_method_62_code 89 = .ok (.iconst 1, 1) := by decide +kernel
theorem d_X10_mate_90 : decode prog_12_method_62_code 90 = .ok (.if_icmp .ne 48, 3) := by decide +kernel
theorem d_X10_mate_93 : decode prog_12_method_62_code 93 = .ok (.aload_n 0, 1) := by decide +kernel
theorem d_X10_mate_94 : decode prog_12_method_62_code 94 = .ok (.getfield 37, 3) := by decide +kernel
theorem d_X10_mate_97 : decode prog_12_method_62_code 97 = .ok (.bipush 9, 2) := by decide +kernel
theorem d_X10_mate_99 : decode prog_12_method_62_code 99 = .ok (.iload 4, 2) := by decide +kernel
theorem d_X10_mate_101 : decode prog_12_method_62_code 101 = .ok (.imul, 1) := by decide +kernel
theorem d_X10_mate_102 : decode prog_12_method_62_code 102 = .ok (.iload 7, 2) := by decide +kernel
theorem d_X10_mate_104 : decode prog_12_method_62_code 104 = .ok (.iadd, 1) := by decide +kernel
theorem d_X10_mate_105 : decode prog_12_method_62_code 105 = .ok (.baload, 1) := by decide +kernel
theorem d_X10_mate_106 : decode prog_12_method_62_code 106 = .ok (.ifCond .eq 32, 3) := by decide +kernel
theorem d_X10_mate_109 : decode prog_12_method_62_code 109 = .ok (.iconst 1, 1) := by decide +kernel
theorem d_X10_mate_110 : decode prog_12_method_62_code 110 = .ok (.aload_n 0, 1) := by decide +kernel
theorem d_X10_mate_111 : decode prog_12_method_62_code 111 = .ok (.getfield 41, 3) := by decide +kernel
theorem d_X10_mate_114 : decode prog_12_method_62_code 114 = .ok (.iload 5, 2) := by decide +kernel
theorem d_X10_mate_116 : decode prog_12_method_62_code 116 = .ok (.iconst 1, 1) := by decide +kernel
theorem d_X10_mate_117 : decode prog_12_method_62_code 117 = .ok (.iload 7, 2) := by decide +kernel
theorem d_X10_mate_119 : decode prog_12_method_62_code 119 = .ok (.ishl, 1) := by decide +kernel
theorem d_X10_mate_120 : decode prog_12_method_62_code 120 = .ok (.iconst (-1), 1) := by decide +kernel
theorem d_X10_mate_121 : decode prog_12_method_62_code 121 = .ok (.ixor, 1) := by decide +kernel
theorem d_X10_mate_122 : decode prog_12_method_62_code 122 = .ok (.iand, 1) := by decide +kernel
theorem d_X10_mate_123 : decode prog_12_method_62_code 123 = .ok (.iaload, 1) := by decide +kernel
theorem d_X10_mate_124 : decode prog_12_method_62_code 124 = .ok (.iadd, 1) := by decide +kernel
theorem d_X10_mate_125 : decode prog_12_method_62_code 125 = .ok (.aload_n 0, 1) := by decide +kernel
theorem d_X10_mate_126 : decode prog_12_method_62_code 126 = .ok (.getfield 41, 3) := by decide +kernel
theorem d_X10_mate_129 : decode prog_12_method_62_code 129 = .ok (.iload_n 2, 1) := by decide +kernel
theorem d_X10_mate_130 : decode prog_12_method_62_code 130 = .ok (.iaload, 1) := by decide +kernel
theorem d_X10_mate_131 : decode prog_12_method_62_code 131 = .ok (.if_icmp .ne 7, 3) := by decide +kernel
theorem d_X10_mate_134 : decode prog_12_method_62_code 134 = .ok (.iconst 1, 1) := by decide +kernel
theorem d_X10_mate_135 : decode prog_12_method_62_code 135 = .ok (.goto 4, 3) := by decide +kernel
theorem d_X10_mate_138 : decode prog_12_method_62_code 138 = .ok (.iconst 0, 1) := by decide +kernel
theorem d_X10_mate_139 : decode prog_12_method_62_code 139 = .ok (.istore 8, 2) := by decide +kernel
theorem d_X10_mate_141 : decode prog_12_method_62_code 141 = .ok (.iload 8, 2) := by decide +kernel
theorem d_X10_mate_143 : decode prog_12_method_62_code 143 = .ok (.ifCond .eq 8, 3) := by decide +kernel
theorem d_X10_mate_146 : decode prog_12_method_62_code 146 = .ok (.iload 7, 2) := by decide +kernel
theorem d_X10_mate_148 : decode prog_12_method_62_code 148 = .ok (.goto 5, 3) := by decide +kernel
theorem d_X10_mate_151 : decode prog_12_method_62_code 151 = .ok (.iload 6, 2) := by decide +kernel
theorem d_X10_mate_153 : decode prog_12_method_62_code 153 = .ok (.istore 6, 2) := by decide +kernel
theorem d_X10_mate_155 : decode prog_12_method_62_code 155 = .ok (.iinc 7 (-1), 3) := by decide +kernel
theorem d_X10_mate_158 : decode prog_12_method_62_code 158 = .ok (.goto (-83), 3) := by decide +kernel
theorem d_X10_mate_161 : decode prog_12_method_62_code 161 = .ok (.iload 6, 2) := by decide +kernel
theorem d_X10_mate_163 : decode prog_12_method_62_code 163 = .ok (.ifCond .lt 14, 3) := by decide +kernel
theorem d_X10_mate_166 : decode prog_12_method_62_code 166 = .ok (.iload 4, 2) := by decide +kernel
theorem d_X10_mate_168 : decode prog_12_method_62_code 168 = .ok (.iload_n 1, 1) := by decide +kernel
theorem d_X10_mate_169 : decode prog_12_method_62_code 169 = .ok (.if_icmp .ne 8, 3) := by decide +kernel
theorem d_X10_mate_172 : decode prog_12_method_62_code 172 = .ok (.iload 6, 2) := by decide +kernel
theorem d_X10_mate_174 : decode prog_12_method_62_code 174 = .ok (.goto 20, 3) := by decide +kernel
theorem d_X10_mate_177 : decode prog_12_method_62_code 177 = .ok (.iload 6, 2) := by decide +kernel
theorem d_X10_mate_179 : decode prog_12_method_62_code 179 = .ok (.ifCond .lt 14, 3) := by decide +kernel
theorem d_X10_mate_182 : decode prog_12_method_62_code 182 = .ok (.iload 6, 2) := by decide +kernel
theorem d_X10_mate_184 : decode prog_12_method_62_code 184 = .ok (.iload_n 1, 1) := by decide +kernel
theorem d_X10_mate_185 : decode prog_12_method_62_code 185 = .ok (.if_icmp .ne 8, 3) := by decide +kernel
theorem d_X10_mate_188 : decode prog_12_method_62_code 188 = .ok (.iload 4, 2) := by decide +kernel
theorem d_X10_mate_190 : decode prog_12_method_62_code 190 = .ok (.goto 4, 3) := by decide +kernel
theorem d_X10_mate_193 : decode prog_12_method_62_code 193 = .ok (.iload_n 3, 1) := by decide +kernel
theorem d_X10_mate_194 : decode prog_12_method_62_code 194 = .ok (.istore_n 3, 1) := by decide +kernel
theorem d_X10_mate_195 : decode prog_12_method_62_code 195 = .ok (.iload 6, 2) := by decide +kernel
theorem d_X10_mate_197 : decode prog_12_method_62_code 197 = .ok (.ifCond .ge 8, 3) := by decide +kernel
theorem d_X10_mate_200 : decode prog_12_method_62_code 200 = .ok (.iload 5, 2) := by decide +kernel
theorem d_X10_mate_202 : decode prog_12_method_62_code 202 = .ok (.goto 12, 3) := by decide +kernel
theorem d_X10_mate_205 : decode prog_12_method_62_code 205 = .ok (.iload 5, 2) := by decide +kernel
theorem d_X10_mate_207 : decode prog_12_method_62_code 207 = .ok (.iconst 1, 1) := by decide +kernel
theorem d_X10_mate_208 : decode prog_12_method_62_code 208 = .ok (.iload 6, 2) := by decide +kernel
theorem d_X10_mate_210 : decode prog_12_method_62_code 210 = .ok (.ishl, 1) := by decide +kernel
theorem d_X10_mate_211 : decode prog_12_method_62_code 211 = .ok (.iconst (-1), 1) := by decide +kernel
theorem d_X10_mate_212 : decode prog_12_method_62_code 212 = .ok (.ixor, 1) := by decide +kernel
theorem d_X10_mate_213 : decode prog_12_method_62_code 213 = .ok (.iand, 1) := by decide +kernel
theorem d_X10_mate_214 : decode prog_12_method_62_code 214 = .ok (.istore_n 2, 1) := by decide +kernel
theorem d_X10_mate_215 : decode prog_12_method_62_code 215 = .ok (.iinc 4 1, 3) := by decide +kernel
theorem d_X10_mate_218 : decode prog_12_method_62_code 218 = .ok (.goto (-187), 3) := by decide +kernel
theorem d_X10_mate_221 : decode prog_12_method_62_code 221 = .ok (.iload_n 3, 1) := by decide +kernel
theorem d_X10_mate_222 : decode prog_12_method_62_code 222 = .ok (.ireturn, 1) := by decide +kernel
theorem d_X10_quarter_0 : decode prog_12_method_63_code 0 = .ok (.iload_n 0, 1) := by decide +kernel
theorem d_X10_quarter_1 : decode prog_12_method_63_code 1 = .ok (.iconst 2, 1) := by decide +kernel
theorem d_X10_quarter_2 : decode prog_12_method_63_code 2 = .ok (.iload_n 1, 1) := by decide +kernel
theorem d_X10_quarter_3 : decode prog_12_method_63_code 3 = .ok (.imul, 1) := by decide +kernel
theorem d_X10_quarter_4 : decode prog_12_method_63_code 4 = .ok (.ishr, 1) := by decide +kernel
theorem d_X10_quarter_5 : decode prog_12_method_63_code 5 = .ok (.iconst 3, 1) := by decide +kernel
theorem d_X10_quarter_6 : decode prog_12_method_63_code 6 = .ok (.iand, 1) := by decide +kernel
theorem d_X10_quarter_7 : decode prog_12_method_63_code 7 = .ok (.istore_n 2, 1) := by decide +kernel
theorem d_X10_quarter_8 : decode prog_12_method_63_code 8 = .ok (.iload_n 0, 1) := by decide +kernel
theorem d_X10_quarter_9 : decode prog_12_method_63_code 9 = .ok (.iconst 3, 1) := by decide +kernel
theorem d_X10_quarter_10 : decode prog_12_method_63_code 10 = .ok (.iconst 2, 1) := by decide +kernel
theorem d_X10_quarter_11 : decode prog_12_method_63_code 11 = .ok (.iload_n 1, 1) := by decide +kernel
theorem d_X10_quarter_12 : decode prog_12_method_63_code 12 = .ok (.imul, 1) := by decide +kernel
theorem d_X10_quarter_13 : decode prog_12_method_63_code 13 = .ok (.ishl, 1) := by decide +kernel
theorem d_X10_quarter_14 : decode prog_12_method_63_code 14 = .ok (.iconst (-1), 1) := by decide +kernel
theorem d_X10_quarter_15 : decode prog_12_method_63_code 15 = .ok (.ixor, 1) := by decide +kernel
theorem d_X10_quarter_16 : decode prog_12_method_63_code 16 = .ok (.iand, 1) := by decide +kernel
theorem d_X10_quarter_17 : decode prog_12_method_63_code 17 = .ok (.iload_n 2, 1) := by decide +kernel
theorem d_X10_quarter_18 : decode prog_12_method_63_code 18 = .ok (.iconst 1, 1) := by decide +kernel
theorem d_X10_quarter_19 : decode prog_12_method_63_code 19 = .ok (.iadd, 1) := by decide +kernel
theorem d_X10_quarter_20 : decode prog_12_method_63_code 20 = .ok (.iconst 3, 1) := by decide +kernel
theorem d_X10_quarter_21 : decode prog_12_method_63_code 21 = .ok (.iand, 1) := by decide +kernel
theorem d_X10_quarter_22 : decode prog_12_method_63_code 22 = .ok (.iconst 2, 1) := by decide +kernel
theorem d_X10_quarter_23 : decode prog_12_method_63_code 23 = .ok (.iload_n 1, 1) := by decide +kernel
theorem d_X10_quarter_24 : decode prog_12_method_63_code 24 = .ok (.imul, 1) := by decide +kernel
theorem d_X10_quarter_25 : decode prog_12_method_63_code 25 = .ok (.ishl, 1) := by decide +kernel
theorem d_X10_quarter_26 : decode prog_12_method_63_code 26 = .ok (.ior, 1) := by decide +kernel
theorem d_X10_quarter_27 : decode prog_12_method_63_code 27 = .ok (.ireturn, 1) := by decide +kernel
theorem d_X10_lastingFrom_0 : decode prog_12_method_64_code 0 = .ok (.iconst 0, 1) := by decide +kernel
theorem d_X10_lastingFrom_1 : decode prog_12_method_64_code 1 = .ok (.istore_n 3, 1) := by decide +kernel
theorem d_X10_lastingFrom_2 : decode prog_12_method_64_code 2 = .ok (.iload_n 3, 1) := by decide +kernel
theorem d_X10_lastingFrom_3 : decode prog_12_method_64_code 3 = .ok (.aload_n 0, 1) := by decide +kernel
theorem d_X10_lastingFrom_4 : decode prog_12_method_64_code 4 = .ok (.getfield 7, 3) := by decide +kernel
theorem d_X10_lastingFrom_7 : decode prog_12_method_64_code 7 = .ok (.iconst 2, 1) := by decide +kernel
theorem d_X10_lastingFrom_8 : decode prog_12_method_64_code 8 = .ok (.iaload, 1) := by decide +kernel
theorem d_X10_lastingFrom_9 : decode prog_12_method_64_code 9 = .ok (.if_icmp .ge 32, 3) := by decide +kernel
theorem d_X10_lastingFrom_12 : decode prog_12_method_64_code 12 = .ok (.aload_n 0, 1) := by decide +kernel
theorem d_X10_lastingFrom_13 : decode prog_12_method_64_code 13 = .ok (.iload_n 3, 1) := by decide +kernel
theorem d_X10_lastingFrom_14 : decode prog_12_method_64_code 14 = .ok (.aload_n 0, 1) := by decide +kernel
theorem d_X10_lastingFrom_15 : decode prog_12_method_64_code 15 = .ok (.getfield 7, 3) := by decide +kernel
theorem d_X10_lastingFrom_18 : decode prog_12_method_64_code 18 = .ok (.bipush 45, 2) := by decide +kernel
theorem d_X10_lastingFrom_20 : decode prog_12_method_64_code 20 = .ok (.iconst 2, 1) := by decide +kernel
theorem d_X10_lastingFrom_21 : decode prog_12_method_64_code 21 = .ok (.iload_n 3, 1) := by decide +kernel
theorem d_X10_lastingFrom_22 : decode prog_12_method_64_code 22 = .ok (.imul, 1) := by decide +kernel
theorem d_X10_lastingFrom_23 : decode prog_12_method_64_code 23 = .ok (.iadd, 1) := by decide +kernel
theorem d_X10_lastingFrom_24 : decode prog_12_method_64_code 24 = .ok (.iaload, 1) := by decide +kernel
theorem d_X10_lastingFrom_25 : decode prog_12_method_64_code 25 = .ok (.iload_n 2, 1) := by decide +kernel
theorem d_X10_lastingFrom_26 : decode prog_12_method_64_code 26 = .ok (.iconst 2, 1) := by decide +kernel
theorem d_X10_lastingFrom_27 : decode prog_12_method_64_code 27 = .ok (.iload_n 3, 1) := by decide +kernel
theorem d_X10_lastingFrom_28 : decode prog_12_method_64_code 28 = .ok (.imul, 1) := by decide +kernel
theorem d_X10_lastingFrom_29 : decode prog_12_method_64_code 29 = .ok (.ishr, 1) := by decide +kernel
theorem d_X10_lastingFrom_30 : decode prog_12_method_64_code 30 = .ok (.iconst 3, 1) := by decide +kernel
theorem d_X10_lastingFrom_31 : decode prog_12_method_64_code 31 = .ok (.iand, 1) := by decide +kernel
theorem d_X10_lastingFrom_32 : decode prog_12_method_64_code 32 = .ok (.invokevirtual 139, 3) := by decide +kernel
theorem d_X10_lastingFrom_35 : decode prog_12_method_64_code 35 = .ok (.iinc 3 1, 3) := by decide +kernel
theorem d_X10_lastingFrom_38 : decode prog_12_method_64_code 38 = .ok (.goto (-36), 3) := by decide +kernel
theorem d_X10_lastingFrom_41 : decode prog_12_method_64_code 41 = .ok (.aload_n 0, 1) := by decide +kernel
theorem d_X10_lastingFrom_42 : decode prog_12_method_64_code 42 = .ok (.invokevirtual 169, 3) := by decide +kernel
theorem d_X10_lastingFrom_45 : decode prog_12_method_64_code 45 = .ok (.ifCond .ne 5, 3) := by decide +kernel
theorem d_X10_lastingFrom_48 : decode prog_12_method_64_code 48 = .ok (.iconst 0, 1) := by decide +kernel
theorem d_X10_lastingFrom_49 : decode prog_12_method_64_code 49 = .ok (.ireturn, 1) := by decide +kernel
theorem d_X10_lastingFrom_50 : decode prog_12_method_64_code 50 = .ok (.aload_n 0, 1) := by decide +kernel
theorem d_X10_lastingFrom_51 : decode prog_12_method_64_code 51 = .ok (.getfield 44, 3) := by decide +kernel
theorem d_X10_lastingFrom_54 : decode prog_12_method_64_code 54 = .ok (.sipush 256, 3) := by decide +kernel
theorem d_X10_lastingFrom_57 : decode prog_12_method_64_code 57 = .ok (.iload_n 1, 1) := by decide +kernel
theorem d_X10_lastingFrom_58 : decode prog_12_method_64_code 58 = .ok (.iconst 1, 1) := by decide +kernel
theorem d_X10_lastingFrom_59 : decode prog_12_method_64_code 59 = .ok (.iadd, 1) := by decide +kernel
theorem d_X10_lastingFrom_60 : decode prog_12_method_64_code 60 = .ok (.imul, 1) := by decide +kernel
theorem d_X10_lastingFrom_61 : decode prog_12_method_64_code 61 = .ok (.iload_n 2, 1) := by decide +kernel
theorem d_X10_lastingFrom_62 : decode prog_12_method_64_code 62 = .ok (.iadd, 1) := by decide +kernel
theorem d_X10_lastingFrom_63 : decode prog_12_method_64_code 63 = .ok (.iaload, 1) := by decide +kernel
theorem d_X10_lastingFrom_64 : decode prog_12_method_64_code 64 = .ok (.istore_n 3, 1) := by decide +kernel
theorem d_X10_lastingFrom_65 : decode prog_12_method_64_code 65 = .ok (.iconst 0, 1) := by decide +kernel
theorem d_X10_lastingFrom_66 : decode prog_12_method_64_code 66 = .ok (.istore 4, 2) := by decide +kernel
theorem d_X10_lastingFrom_68 : decode prog_12_method_64_code 68 = .ok (.iload 4, 2) := by decide +kernel
theorem d_X10_lastingFrom_70 : decode prog_12_method_64_code 70 = .ok (.aload_n 0, 1) := by decide +kernel
theorem d_X10_lastingFrom_71 : decode prog_12_method_64_code 71 = .ok (.getfield 7, 3) := by decide +kernel
theorem d_X10_lastingFrom_74 : decode prog_12_method_64_code 74 = .ok (.iconst 2, 1) := by decide +kernel
theorem d_X10_lastingFrom_75 : decode prog_12_method_64_code 75 = .ok (.iaload, 1) := by decide +kernel
theorem d_X10_lastingFrom_76 : decode prog_12_method_64_code 76 = .ok (.if_icmp .ge 43, 3) := by decide +kernel
theorem d_X10_lastingFrom_79 : decode prog_12_method_64_code 79 = .ok (.aload_n 0, 1) := by decide +kernel
theorem d_X10_lastingFrom_80 : decode prog_12_method_64_code 80 = .ok (.getfield 44, 3) := by decide +kernel
theorem d_X10_lastingFrom_83 : decode prog_12_method_64_code 83 = .ok (.sipush 256, 3) := by decide +kernel
theorem d_X10_lastingFrom_86 : decode prog_12_method_64_code 86 = .ok (.iload_n 1, 1) := by decide +kernel
theorem d_X10_lastingFrom_87 : decode prog_12_method_64_code 87 = .ok (.iconst 1, 1) := by decide +kernel
theorem d_X10_lastingFrom_88 : decode prog_12_method_64_code 88 = .ok (.iadd, 1) := by decide +kernel
theorem d_X10_lastingFrom_89 : decode prog_12_method_64_code 89 = .ok (.imul, 1) := by decide +kernel
theorem d_X10_lastingFrom_90 : decode prog_12_method_64_code 90 = .ok (.iload_n 2, 1) := by decide +kernel
theorem d_X10_lastingFrom_91 : decode prog_12_method_64_code 91 = .ok (.iload 4, 2) := by decide +kernel
theorem d_X10_lastingFrom_93 : decode prog_12_method_64_code 93 = .ok (.invokestatic 210, 3) := by decide +kernel
theorem d_X10_lastingFrom_96 : decode prog_12_method_64_code 96 = .ok (.iadd, 1) := by decide +kernel
theorem d_X10_lastingFrom_97 : decode prog_12_method_64_code 97 = .ok (.iaload, 1) := by decide +kernel
theorem d_X10_lastingFrom_98 : decode prog_12_method_64_code 98 = .ok (.istore 5, 2) := by decide +kernel
theorem d_X10_lastingFrom_100 : decode prog_12_method_64_code 100 = .ok (.iload 5, 2) := by decide +kernel
theorem d_X10_lastingFrom_102 : decode prog_12_method_64_code 102 = .ok (.iload_n 3, 1) := by decide +kernel
theorem d_X10_lastingFrom_103 : decode prog_12_method_64_code 103 = .ok (.if_icmp .le 8, 3) := by decide +kernel
theorem d_X10_lastingFrom_106 : decode prog_12_method_64_code 106 = .ok (.iload 5, 2) := by decide +kernel
theorem d_X10_lastingFrom_108 : decode prog_12_method_64_code 108 = .ok (.goto 4, 3) := by decide +kernel
theorem d_X10_lastingFrom_111 : decode prog_12_method_64_code 111 = .ok (.iload_n 3, 1) := by decide +kernel
theorem d_X10_lastingFrom_112 : decode prog_12_method_64_code 112 = .ok (.istore_n 3, 1) := by decide +kernel
theorem d_X10_lastingFrom_113 : decode prog_12_method_64_code 113 = .ok (.iinc 4 1, 3) := by decide +kernel
theorem d_X10_lastingFrom_116 : decode prog_12_method_64_code 116 = .ok (.goto (-48), 3) := by decide +kernel
theorem d_X10_lastingFrom_119 : decode prog_12_method_64_code 119 = .ok (.iconst 1, 1) := by decide +kernel
theorem d_X10_lastingFrom_120 : decode prog_12_method_64_code 120 = .ok (.iload_n 3, 1) := by decide +kernel
theorem d_X10_lastingFrom_121 : decode prog_12_method_64_code 121 = .ok (.iadd, 1) := by decide +kernel
theorem d_X10_lastingFrom_122 : decode prog_12_method_64_code 122 = .ok (.ireturn, 1) := by decide +kernel
theorem d_X10_findLasting_0 : decode prog_12_method_65_code 0 = .ok (.aload_n 0, 1) := by decide +kernel
theorem d_X10_findLasting_1 : decode prog_12_method_65_code 1 = .ok (.getfield 7, 3) := by decide +kernel
theorem d_X10_findLasting_4 : decode prog_12_method_65_code 4 = .ok (.bipush 6, 2) := by decide +kernel
theorem d_X10_findLasting_6 : decode prog_12_method_65_code 6 = .ok (.iaload, 1) := by decide +kernel
theorem d_X10_findLasting_7 : decode prog_12_method_65_code 7 = .ok (.istore_n 1, 1) := by decide +kernel
theorem d_X10_findLasting_8 : decode prog_12_method_65_code 8 = .ok (.iconst 0, 1) := by decide +kernel
theorem d_X10_findLasting_9 : decode prog_12_method_65_code 9 = .ok (.istore_n 2, 1) := by decide +kernel
theorem d_X10_findLasting_10 : decode prog_12_method_65_code 10 = .ok (.iload_n 2, 1) := by decide +kernel
theorem d_X10_findLasting_11 : decode prog_12_method_65_code 11 = .ok (.sipush 256, 3) := by decide +kernel
theorem d_X10_findLasting_14 : decode prog_12_method_65_code 14 = .ok (.if_icmp .ge 20, 3) := by decide +kernel
theorem d_X10_findLasting_17 : decode prog_12_method_65_code 17 = .ok (.aload_n 0, 1) := by decide +kernel
theorem d_X10_findLasting_18 : decode prog_12_method_65_code 18 = .ok (.getfield 44, 3) := by decide +kernel
theorem d_X10_findLasting_21 : decode prog_12_method_65_code 21 = .ok (.sipush 5376, 3) := by decide +kernel
theorem d_X10_findLasting_24 : decode prog_12_method_65_code 24 = .ok (.iload_n 2, 1) := by decide +kernel
theorem d_X10_findLasting_25 : decode prog_12_method_65_code 25 = .ok (.iadd, 1) := by decide +kernel
theorem d_X10_findLasting_26 : decode prog_12_method_65_code 26 = .ok (.iconst 0, 1) := by decide +kernel
theorem d_X10_findLasting_27 : decode prog_12_method_65_code 27 = .ok (.iastore, 1) := by decide +kernel
theorem d_X10_findLasting_28 : decode prog_12_method_65_code 28 = .ok (.iinc 2 1, 3) := by decide +kernel
theorem d_X10_findLasting_31 : decode prog_12_method_65_code 31 = .ok (.goto (-21), 3) := by decide +kernel
theorem d_X10_findLasting_34 : decode prog_12_method_65_code 34 = .ok (.bipush 20, 2) := by decide +kernel
theorem d_X10_findLasting_36 : decode prog_12_method_65_code 36 = .ok (.istore_n 2, 1) := by decide +kernel
theorem d_X10_findLasting_37 : decode prog_12_method_65_code 37 = .ok (.iload_n 2, 1) := by decide +kernel
theorem d_X10_findLasting_38 : decode prog_12_method_65_code 38 = .ok (.ifCond .lt 76, 3) := by decide +kernel
theorem d_X10_findLasting_41 : decode prog_12_method_65_code 41 = .ok (.aload_n 0, 1) := by decide +kernel
theorem d_X10_findLasting_42 : decode prog_12_method_65_code 42 = .ok (.getfield 7, 3) := by decide +kernel
theorem d_X10_findLasting_45 : decode prog_12_method_65_code 45 = .ok (.bipush 6, 2) := by decide +kernel
theorem d_X10_findLasting_47 : decode prog_12_method_65_code 47 = .ok (.iload_n 1, 1) := by decide +kernel
theorem d_X10_findLasting_48 : decode prog_12_method_65_code 48 = .ok (.iload_n 2, 1) := by decide +kernel
theorem d_X10_findLasting_49 : decode prog_12_method_65_code 49 = .ok (.iadd, 1) := by decide +kernel
theorem d_X10_findLasting_50 : decode prog_12_method_65_code 50 = .ok (.bipush 9, 2) := by decide +kernel
theorem d_X10_findLasting_52 : decode prog_12_method_65_code 52 = .ok (.if_icmp .le 8, 3) := by decide +kernel
theorem d_X10_findLasting_55 : decode prog_12_method_65_code 55 = .ok (.bipush 9, 2) := by decide +kernel
theorem d_X10_findLasting_57 : decode prog_12_method_65_code 57 = .ok (.goto 6, 3) := by decide +kernel
theorem d_X10_findLasting_60 : decode prog_12_method_65_code 60 = .ok (.iload_n 1, 1) := by decide +kernel
theorem d_X10_findLasting_61 : decode prog_12_method_65_code 61 = .ok (.iload_n 2, 1) := by decide +kernel
theorem d_X10_findLasting_62 : decode prog_12_method_65_code 62 = .ok (.iadd, 1) := by decide +kernel
theorem d_X10_findLasting_63 : decode prog_12_method_65_code 63 = .ok (.iastore, 1) := by decide +kernel
theorem d_X10_findLasting_64 : decode prog_12_method_65_code 64 = .ok (.aload_n 0, 1) := by decide +kernel
theorem d_X10_findLasting_65 : decode prog_12_method_65_code 65 = .ok (.invokevirtual 166, 3) := by decide +kernel
theorem d_X10_findLasting_68 : decode prog_12_method_65_code 68 = .ok (.iconst 0, 1) := by decide +kernel
theorem d_X10_findLasting_69 : decode prog_12_method_65_code 69 = .ok (.istore_n 3, 1) := by decide +kernel
theorem d_X10_findLasting_70 : decode prog_12_method_65_code 70 = .ok (.iload_n 3, 1) := by decide +kernel
theorem d_X10_findLasting_71 : decode prog_12_method_65_code 71 = .ok (.iconst 1, 1) := by decide +kernel
theorem d_X10_findLasting_72 : decode prog_12_method_65_code 72 = .ok (.iconst 2, 1) := by decide +kernel
theorem d_X10_findLasting_73 : decode prog_12_method_65_code 73 = .ok (.aload_n 0, 1) := by decide +kernel
theorem d_X10_findLasting_74 : decode prog_12_method_65_code 74 = .ok (.getfield 7, 3) := by decide +kernel
theorem d_X10_findLasting_77 : decode prog_12_method_65_code 77 = .ok (.iconst 2, 1) := by decide +kernel
theorem d_X10_findLasting_78 : decode prog_12_method_65_code 78 = .ok (.iaload, 1) := by decide +kernel
theorem d_X10_findLasting_79 : decode prog_12_method_65_code 79 = .ok (.imul, 1) := by decide +kernel
theorem d_X10_findLasting_80 : decode prog_12_method_65_code 80 = .ok (.ishl, 1) := by decide +kernel
theorem d_X10_findLasting_81 : decode prog_12_method_65_code 81 = .ok (.if_icmp .ge 27, 3) := by decide +kernel
theorem d_X10_findLasting_84 : decode prog_12_method_65_code 84 = .ok (.aload_n 0, 1) := by decide +kernel
theorem d_X10_findLasting_85 : decode prog_12_method_65_code 85 = .ok (.getfield 44, 3) := by decide +kernel
theorem d_X10_findLasting_88 : decode prog_12_method_65_code 88 = .ok (.sipush 256, 3) := by decide +kernel
theorem d_X10_findLasting_91 : decode prog_12_method_65_code 91 = .ok (.iload_n 2, 1) := by decide +kernel
theorem d_X10_findLasting_92 : decode prog_12_method_65_code 92 = .ok (.imul, 1) := by decide +kernel
theorem d_X10_findLasting_93 : decode prog_12_method_65_code 93 = .ok (.iload_n 3, 1) := by decide +kernel
theorem d_X10_findLasting_94 : decode prog_12_method_65_code 94 = .ok (.iadd, 1) := by decide +kernel
theorem d_X10_findLasting_95 : decode prog_12_method_65_code 95 = .ok (.aload_n 0, 1) := by decide +kernel
theorem d_X10_findLasting_96 : decode prog_12_method_65_code 96 = .ok (.iload_n 2, 1) := by decide +kernel
theorem d_X10_findLasting_97 : decode prog_12_method_65_code 97 = .ok (.iload_n 3, 1) := by decide +kernel
theorem d_X10_findLasting_98 : decode prog_12_method_65_code 98 = .ok (.invokevirtual 213, 3) := by decide +kernel
theorem d_X10_findLasting_101 : decode prog_12_method_65_code 101 = .ok (.iastore, 1) := by decide +kernel
theorem d_X10_findLasting_102 : decode prog_12_method_65_code 102 = .ok (.iinc 3 1, 3) := by decide +kernel
theorem d_X10_findLasting_105 : decode prog_12_method_65_code 105 = .ok (.goto (-35), 3) := by decide +kernel
theorem d_X10_findLasting_108 : decode prog_12_method_65_code 108 = .ok (.iinc 2 (-1), 3) := by decide +kernel
theorem d_X10_findLasting_111 : decode prog_12_method_65_code 111 = .ok (.goto (-74), 3) := by decide +kernel
theorem d_X10_findLasting_114 : decode prog_12_method_65_code 114 = .ok (.aload_n 0, 1) := by decide +kernel
theorem d_X10_findLasting_115 : decode prog_12_method_65_code 115 = .ok (.getfield 7, 3) := by decide +kernel
theorem d_X10_findLasting_118 : decode prog_12_method_65_code 118 = .ok (.bipush 6, 2) := by decide +kernel
theorem d_X10_findLasting_120 : decode prog_12_method_65_code 120 = .ok (.iload_n 1, 1) := by decide +kernel
theorem d_X10_findLasting_121 : decode prog_12_method_65_code 121 = .ok (.iastore, 1) := by decide +kernel
theorem d_X10_findLasting_122 : decode prog_12_method_65_code 122 = .ok (.return_, 1) := by decide +kernel
theorem d_X10_turnsNow_0 : decode prog_12_method_66_code 0 = .ok (.iconst 0, 1) := by decide +kernel
theorem d_X10_turnsNow_1 : decode prog_12_method_66_code 1 = .ok (.istore_n 1, 1) := by decide +kernel
theorem d_X10_turnsNow_2 : decode prog_12_method_66_code 2 = .ok (.iconst 0, 1) := by decide +kernel
theorem d_X10_turnsNow_3 : decode prog_12_method_66_code 3 = .ok (.istore_n 2, 1) := by decide +kernel
theorem d_X10_turnsNow_4 : decode prog_12_method_66_code 4 = .ok (.iload_n 2, 1) := by decide +kernel
theorem d_X10_turnsNow_5 : decode prog_12_method_66_code 5 = .ok (.aload_n 0, 1) := by decide +kernel
theorem d_X10_turnsNow_6 : decode prog_12_method_66_code 6 = .ok (.getfield 7, 3) := by decide +kernel
theorem d_X10_turnsNow_9 : decode prog_12_method_66_code 9 = .ok (.iconst 2, 1) := by decide +kernel
theorem d_X10_turnsNow_10 : decode prog_12_method_66_code 10 = .ok (.iaload, 1) := by decide +kernel
theorem d_X10_turnsNow_11 : decode prog_12_method_66_code 11 = .ok (.if_icmp .ge 29, 3) := by decide +kernel
theorem d_X10_turnsNow_14 : decode prog_12_method_66_code 14 = .ok (.iload_n 1, 1) := by decide +kernel
theorem d_X10_turnsNow_15 : decode prog_12_method_66_code 15 = .ok (.aload_n 0, 1) := by decide +kernel
theorem d_X10_turnsNow_16 : decode prog_12_method_66_code 16 = .ok (.getfield 7, 3) := by decide +kernel
theorem d_X10_turnsNow_19 : decode prog_12_method_66_code 19 = .ok (.bipush 45, 2) := by decide +kernel
theorem d_X10_turnsNow_21 : decode prog_12_method_66_code 21 = .ok (.iconst 2, 1) := by decide +kernel
theorem d_X10_turnsNow_22 : decode prog_12_method_66_code 22 = .ok (.iload_n 2, 1) := by decide +kernel
theorem d_X10_turnsNow_23 : decode prog_12_method_66_code 23 = .ok (.imul, 1) := by decide +kernel
theorem d_X10_turnsNow_24 : decode prog_12_method_66_code 24 = .ok (.iadd, 1) := by decide +kernel
theorem d_X10_turnsNow_25 : decode prog_12_method_66_code 25 = .ok (.iconst 1, 1) := by decide +kernel
theorem d_X10_turnsNow_26 : decode prog_12_method_66_code 26 = .ok (.iadd, 1) := by decide +kernel
theorem d_X10_turnsNow_27 : decode prog_12_method_66_code 27 = .ok (.iaload, 1) := by decide +kernel
theorem d_X10_turnsNow_28 : decode prog_12_method_66_code 28 = .ok (.iconst 2, 1) := by decide +kernel
theorem d_X10_turnsNow_29 : decode prog_12_method_66_code 29 = .ok (.iload_n 2, 1) := by decide +kernel
theorem d_X10_turnsNow_30 : decode prog_12_method_66_code 30 = .ok (.imul, 1) := by decide +kernel
theorem d_X10_turnsNow_31 : decode prog_12_method_66_code 31 = .ok (.ishl, 1) := by decide +kernel
theorem d_X10_turnsNow_32 : decode prog_12_method_66_code 32 = .ok (.ior, 1) := by decide +kernel
theorem d_X10_turnsNow_33 : decode prog_12_method_66_code 33 = .ok (.istore_n 1, 1) := by decide +kernel
theorem d_X10_turnsNow_34 : decode prog_12_method_66_code 34 = .ok (.iinc 2 1, 3) := by decide +kernel
theorem d_X10_turnsNow_37 : decode prog_12_method_66_code 37 = .ok (.goto (-33), 3) := by decide +kernel
theorem d_X10_turnsNow_40 : decode prog_12_method_66_code 40 = .ok (.iload_n 1, 1) := by decide +kernel
theorem d_X10_turnsNow_41 : decode prog_12_method_66_code 41 = .ok (.ireturn, 1) := by decide +kernel
theorem d_X10_years_0 : decode prog_12_method_67_code 0 = .ok (.aload_n 0, 1) := by decide +kernel
theorem d_X10_years_1 : decode prog_12_method_67_code 1 = .ok (.invokevirtual 216, 3) := by decide +kernel
theorem d_X10_years_4 : decode prog_12_method_67_code 4 = .ok (.aload_n 0, 1) := by decide +kernel
theorem d_X10_years_5 : decode prog_12_method_67_code 5 = .ok (.getfield 44, 3) := by decide +kernel
theorem d_X10_years_8 : decode prog_12_method_67_code 8 = .ok (.aload_n 0, 1) := by decide +kernel
theorem d_X10_years_9 : decode prog_12_method_67_code 9 = .ok (.invokevirtual 219, 3) := by decide +kernel
theorem d_X10_years_12 : decode prog_12_method_67_code 12 = .ok (.iaload, 1) := by decide +kernel
theorem d_X10_years_13 : decode prog_12_method_67_code 13 = .ok (.ireturn, 1) := by decide +kernel
theorem d_X10_turned_0 : decode prog_12_method_68_code 0 = .ok (.iload_n 1, 1) := by decide +kernel
theorem d_X10_turned_1 : decode prog_12_method_68_code 1 = .ok (.i2l, 1) := by decide +kernel
theorem d_X10_turned_2 : decode prog_12_method_68_code 2 = .ok (.lconst 1, 1) := by decide +kernel
theorem d_X10_turned_3 : decode prog_12_method_68_code 3 = .ok (.ldc2_w 222, 3) := by decide +kernel
theorem d_X10_turned_6 : decode prog_12_method_68_code 6 = .ok (.invokestatic 74, 3) := by decide +kernel
theorem d_X10_turned_9 : decode prog_12_method_68_code 9 = .ok (.ifCond .ne 5, 3) := by decide +kernel
theorem d_X10_turned_12 : decode prog_12_method_68_code 12 = .ok (.iconst (-1), 1) := by decide +kernel
theorem d_X10_turned_13 : decode prog_12_method_68_code 13 = .ok (.ireturn, 1) := by decide +kernel
theorem d_X10_turned_14 : decode prog_12_method_68_code 14 = .ok (.aload_n 0, 1) := by decide +kernel
theorem d_X10_turned_15 : decode prog_12_method_68_code 15 = .ok (.invokevirtual 216, 3) := by decide +kernel
theorem d_X10_turned_18 : decode prog_12_method_68_code 18 = .ok (.aload_n 0, 1) := by decide +kernel
theorem d_X10_turned_19 : decode prog_12_method_68_code 19 = .ok (.invokevirtual 219, 3) := by decide +kernel
theorem d_X10_turned_22 : decode prog_12_method_68_code 22 = .ok (.istore_n 2, 1) := by decide +kernel
theorem d_X10_turned_23 : decode prog_12_method_68_code 23 = .ok (.aload_n 0, 1) := by decide +kernel
theorem d_X10_turned_24 : decode prog_12_method_68_code 24 = .ok (.getfield 44, 3) := by decide +kernel
theorem d_X10_turned_27 : decode prog_12_method_68_code 27 = .ok (.iload_n 2, 1) := by decide +kernel
theorem d_X10_turned_28 : decode prog_12_method_68_code 28 = .ok (.iaload, 1) := by decide +kernel
theorem d_X10_turned_29 : decode prog_12_method_68_code 29 = .ok (.iload_n 1, 1) := by decide +kernel
theorem d_X10_turned_30 : decode prog_12_method_68_code 30 = .ok (.if_icmp .gt 6, 3) := by decide +kernel
theorem d_X10_turned_33 : decode prog_12_method_68_code 33 = .ok (.bipush (-3), 2) := by decide +kernel
theorem d_X10_turned_35 : decode prog_12_method_68_code 35 = .ok (.ireturn, 1) := by decide +kernel
theorem d_X10_turned_36 : decode prog_12_method_68_code 36 = .ok (.iconst 4, 1) := by decide +kernel
theorem d_X10_turned_37 : decode prog_12_method_68_code 37 = .ok (.istore_n 3, 1) := by decide +kernel
theorem d_X10_turned_38 : decode prog_12_method_68_code 38 = .ok (.iconst 1, 1) := by decide +kernel
theorem d_X10_turned_39 : decode prog_12_method_68_code 39 = .ok (.istore 4, 2) := by decide +kernel
theorem d_X10_turned_41 : decode prog_12_method_68_code 41 = .ok (.iload 4, 2) := by decide +kernel
theorem d_X10_turned_43 : decode prog_12_method_68_code 43 = .ok (.iload_n 1, 1) := by decide +kernel
theorem d_X10_turned_44 : decode prog_12_method_68_code 44 = .ok (.if_icmp .gt 96, 3) := by decide +kernel
theorem d_X10_turned_47 : decode prog_12_method_68_code 47 = .ok (.aload_n 0, 1) := by decide +kernel
theorem d_X10_turned_48 : decode prog_12_method_68_code 48 = .ok (.getfield 44, 3) := by decide +kernel
theorem d_X10_turned_51 : decode prog_12_method_68_code 51 = .ok (.sipush 256, 3) := by decide +kernel
theorem d_X10_turned_54 : decode prog_12_method_68_code 54 = .ok (.iload 4, 2) := by decide +kernel
theorem d_X10_turned_56 : decode prog_12_method_68_code 56 = .ok (.iconst 1, 1) := by decide +kernel
theorem d_X10_turned_57 : decode prog_12_method_68_code 57 = .ok (.isub, 1) := by decide +kernel
theorem d_X10_turned_58 : decode prog_12_method_68_code 58 = .ok (.imul, 1) := by decide +kernel
theorem d_X10_turned_59 : decode prog_12_method_68_code 59 = .ok (.iload_n 2, 1) := by decide +kernel
theorem d_X10_turned_60 : decode prog_12_method_68_code 60 = .ok (.iadd, 1) := by decide +kernel
theorem d_X10_turned_61 : decode prog_12_method_68_code 61 = .ok (.iaload, 1) := by decide +kernel
theorem d_X10_turned_62 : decode prog_12_method_68_code 62 = .ok (.iconst 1, 1) := by decide +kernel
theorem d_X10_turned_63 : decode prog_12_method_68_code 63 = .ok (.isub, 1) := by decide +kernel
theorem d_X10_turned_64 : decode prog_12_method_68_code 64 = .ok (.istore 5, 2) := by decide +kernel
theorem d_X10_turned_66 : decode prog_12_method_68_code 66 = .ok (.iconst 4, 1) := by decide +kernel
theorem d_X10_turned_67 : decode prog_12_method_68_code 67 = .ok (.istore_n 3, 1) := by decide +kernel
theorem d_X10_turned_68 : decode prog_12_method_68_code 68 = .ok (.aload_n 0, 1) := by decide +kernel
theorem d_X10_turned_69 : decode prog_12_method_68_code 69 = .ok (.getfield 7, 3) := by decide +kernel
theorem d_X10_turned_72 : decode prog_12_method_68_code 72 = .ok (.iconst 2, 1) := by decide +kernel
theorem d_X10_turned_73 : decode prog_12_method_68_code 73 = .ok (.iaload, 1) := by decide +kernel
theorem d_X10_turned_74 : decode prog_12_method_68_code 74 = .ok (.iconst 1, 1) := by decide +kernel
theorem d_X10_turned_75 : decode prog_12_method_68_code 75 = .ok (.isub, 1) := by decide +kernel
theorem d_X10_turned_76 : decode prog_12_method_68_code 76 = .ok (.istore 6, 2) := by decide +kernel
theorem d_X10_turned_78 : decode prog_12_method_68_code 78 = .ok (.iload 6, 2) := by decide +kernel
theorem d_X10_turned_80 : decode prog_12_method_68_code 80 = .ok (.ifCond .lt 39, 3) := by decide +kernel
theorem d_X10_turned_83 : decode prog_12_method_68_code 83 = .ok (.aload_n 0, 1) := by decide +kernel
theorem d_X10_turned_84 : decode prog_12_method_68_code 84 = .ok (.getfield 44, 3) := by decide +kernel
theorem d_X10_turned_87 : decode prog_12_method_68_code 87 = .ok (.sipush 256, 3) := by decide +kernel
theorem d_X10_turned_90 : decode prog_12_method_68_code 90 = .ok (.iload 4, 2) := by decide +kernel
theorem d_X10_turned_92 : decode prog_12_method_68_code 92 = .ok (.imul, 1) := by decide +kernel
theorem d_X10_turned_93 : decode prog_12_method_68_code 93 = .ok (.iload_n 2, 1) := by decide +kernel
theorem d_X10_turned_94 : decode prog_12_method_68_code 94 = .ok (.iload 6, 2) := by decide +kernel
theorem d_X10_turned_96 : decode prog_12_method_68_code 96 = .ok (.invokestatic 210, 3) := by decide +kernel
theorem d_X10_turned_99 : decode prog_12_method_68_code 99 = .ok (.iadd, 1) := by decide +kernel
theorem d_X10_turned_100 : decode prog_12_method_68_code 100 = .ok (.iaload, 1) := by decide +kernel
theorem d_X10_turned_101 : decode prog_12_method_68_code 101 = .ok (.iload 5, 2) := by decide +kernel
theorem d_X10_turned_103 : decode prog_12_method_68_code 103 = .ok (.if_icmp .ne 8, 3) := by decide +kernel
theorem d_X10_turned_106 : decode prog_12_method_68_code 106 = .ok (.iload 6, 2) := by decide +kernel
theorem d_X10_turned_108 : decode prog_12_method_68_code 108 = .ok (.goto 4, 3) := by decide +kernel
theorem d_X10_turned_111 : decode prog_12_method_68_code 111 = .ok (.iload_n 3, 1) := by decide +kernel
theorem d_X10_turned_112 : decode prog_12_method_68_code 112 = .ok (.istore_n 3, 1) := by decide +kernel
theorem d_X10_turned_113 : decode prog_12_method_68_code 113 = .ok (.iinc 6 (-1), 3) := by decide +kernel
theorem d_X10_turned_116 : decode prog_12_method_68_code 116 = .ok (.goto (-38), 3) := by decide +kernel
theorem d_X10_turned_119 : decode prog_12_method_68_code 119 = .ok (.iload_n 3, 1) := by decide +kernel
theorem d_X10_turned_120 : decode prog_12_method_68_code 120 = .ok (.iconst 4, 1) := by decide +kernel
theorem d_X10_turned_121 : decode prog_12_method_68_code 121 = .ok (.if_icmp .ne 7, 3) := by decide +kernel
theorem d_X10_turned_124 : decode prog_12_method_68_code 124 = .ok (.iload_n 2, 1) := by decide +kernel
theorem d_X10_turned_125 : decode prog_12_method_68_code 125 = .ok (.goto 8, 3) := by decide +kernel
theorem d_X10_turned_128 : decode prog_12_method_68_code 128 = .ok (.iload_n 2, 1) := by decide +kernel
theorem d_X10_turned_129 : decode prog_12_method_68_code 129 = .ok (.iload_n 3, 1) := by decide +kernel
theorem d_X10_turned_130 : decode prog_12_method_68_code 130 = .ok (.invokestatic 210, 3) := by decide +kernel
theorem d_X10_turned_133 : decode prog_12_method_68_code 133 = .ok (.istore_n 2, 1) := by decide +kernel
theorem d_X10_turned_134 : decode prog_12_method_68_code 134 = .ok (.iinc 4 1, 3) := by decide +kernel
theorem d_X10_turned_137 : decode prog_12_method_68_code 137 = .ok (.goto (-96), 3) := by decide +kernel
theorem d_X10_turned_140 : decode prog_12_method_68_code 140 = .ok (.iload_n 3, 1) := by decide +kernel
theorem d_X10_turned_141 : decode prog_12_method_68_code 141 = .ok (.ireturn, 1) := by decide +kernel
theorem d_X10_isWon_0 : decode prog_12_method_69_code 0 = .ok (.iload_n 1, 1) := by decide +kernel
theorem d_X10_isWon_1 : decode prog_12_method_69_code 1 = .ok (.ifCond .eq 25, 3) := by decide +kernel
theorem d_X10_isWon_4 : decode prog_12_method_69_code 4 = .ok (.aload_n 0, 1) := by decide +kernel
theorem d_X10_isWon_5 : decode prog_12_method_69_code 5 = .ok (.getfield 135, 3) := by decide +kernel
theorem d_X10_isWon_8 : decode prog_12_method_69_code 8 = .ok (.iconst 4, 1) := by decide +kernel
theorem d_X10_isWon_9 : decode prog_12_method_69_code 9 = .ok (.if_icmp .eq 17, 3) := by decide +kernel
theorem d_X10_isWon_12 : decode prog_12_method_69_code 12 = .ok (.iload_n 2, 1) := by decide +kernel
theorem d_X10_isWon_13 : decode prog_12_method_69_code 13 = .ok (.iconst 1, 1) := by decide +kernel
theorem d_X10_isWon_14 : decode prog_12_method_69_code 14 = .ok (.aload_n 0, 1) := by decide +kernel
theorem d_X10_isWon_15 : decode prog_12_method_69_code 15 = .ok (.getfield 7, 3) := by decide +kernel
theorem d_X10_isWon_18 : decode prog_12_method_69_code 18 = .ok (.iconst 0, 1) := by decide +kernel
theorem d_X10_isWon_19 : decode prog_12_method_69_code 19 = .ok (.iaload, 1) := by decide +kernel
theorem d_X10_isWon_20 : decode prog_12_method_69_code 20 = .ok (.ishl, 1) := by decide +kernel
theorem d_X10_isWon_21 : decode prog_12_method_69_code 21 = .ok (.iconst 1, 1) := by decide +kernel
theorem d_X10_isWon_22 : decode prog_12_method_69_code 22 = .ok (.isub, 1) := by decide +kernel
theorem d_X10_isWon_23 : decode prog_12_method_69_code 23 = .ok (.if_icmp .ne 7, 3) := by decide +kernel
theorem d_X10_isWon_26 : decode prog_12_method_69_code 26 = .ok (.iconst 1, 1) := by decide +kernel
theorem d_X10_isWon_27 : decode prog_12_method_69_code 27 = .ok (.goto 4, 3) := by decide +kernel
theorem d_X10_isWon_30 : decode prog_12_method_69_code 30 = .ok (.iconst 0, 1) := by decide +kernel
theorem d_X10_isWon_31 : decode prog_12_method_69_code 31 = .ok (.istore 4, 2) := by decide +kernel
theorem d_X10_isWon_33 : decode prog_12_method_69_code 33 = .ok (.iload 4, 2) := by decide +kernel
theorem d_X10_isWon_35 : decode prog_12_method_69_code 35 = .ok (.ifCond .eq 8, 3) := by decide +kernel
theorem d_X10_isWon_38 : decode prog_12_method_69_code 38 = .ok (.aload_n 0, 1) := by decide +kernel
theorem d_X10_isWon_39 : decode prog_12_method_69_code 39 = .ok (.invokevirtual 169, 3) := by decide +kernel
theorem d_X10_isWon_42 : decode prog_12_method_69_code 42 = .ok (.ireturn, 1) := by decide +kernel
theorem d_X10_isWon_43 : decode prog_12_method_69_code 43 = .ok (.iload_n 3, 1) := by decide +kernel
theorem d_X10_isWon_44 : decode prog_12_method_69_code 44 = .ok (.ifCond .ne 7, 3) := by decide +kernel
theorem d_X10_isWon_47 : decode prog_12_method_69_code 47 = .ok (.iconst 1, 1) := by decide +kernel
theorem d_X10_isWon_48 : decode prog_12_method_69_code 48 = .ok (.goto 4, 3) := by decide +kernel
theorem d_X10_isWon_51 : decode prog_12_method_69_code 51 = .ok (.iconst 0, 1) := by decide +kernel
theorem d_X10_isWon_52 : decode prog_12_method_69_code 52 = .ok (.istore 5, 2) := by decide +kernel
theorem d_X10_isWon_54 : decode prog_12_method_69_code 54 = .ok (.iconst 0, 1) := by decide +kernel
theorem d_X10_isWon_55 : decode prog_12_method_69_code 55 = .ok (.istore 6, 2) := by decide +kernel
theorem d_X10_isWon_57 : decode prog_12_method_69_code 57 = .ok (.iload 6, 2) := by decide +kernel
theorem d_X10_isWon_59 : decode prog_12_method_69_code 59 = .ok (.aload_n 0, 1) := by decide +kernel
theorem d_X10_isWon_60 : decode prog_12_method_69_code 60 = .ok (.getfield 7, 3) := by decide +kernel
theorem d_X10_isWon_63 : decode prog_12_method_69_code 63 = .ok (.iconst 0, 1) := by decide +kernel
theorem d_X10_isWon_64 : decode prog_12_method_69_code 64 = .ok (.iaload, 1) := by decide +kernel
theorem d_X10_isWon_65 : decode prog_12_method_69_code 65 = .ok (.if_icmp .ge 58, 3) := by decide +kernel
theorem d_X10_isWon_68 : decode prog_12_method_69_code 68 = .ok (.iload 5, 2) := by decide +kernel
theorem d_X10_isWon_70 : decode prog_12_method_69_code 70 = .ok (.iload_n 3, 1) := by decide +kernel
theorem d_X10_isWon_71 : decode prog_12_method_69_code 71 = .ok (.if_icmp .eq 52, 3) := by decide +kernel
theorem d_X10_isWon_74 : decode prog_12_method_69_code 74 = .ok (.iconst 0, 1) := by decide +kernel
theorem d_X10_isWon_75 : decode prog_12_method_69_code 75 = .ok (.istore 7, 2) := by decide +kernel
theorem d_X10_isWon_77 : decode prog_12_method_69_code 77 = .ok (.iload 7, 2) := by decide +kernel
theorem d_X10_isWon_79 : decode prog_12_method_69_code 79 = .ok (.iconst 4, 1) := by decide +kernel
theorem d_X10_isWon_80 : decode prog_12_method_69_code 80 = .ok (.if_icmp .ge 37, 3) := by decide +kernel
theorem d_X10_isWon_83 : decode prog_12_method_69_code 83 = .ok (.iload 5, 2) := by decide +kernel
theorem d_X10_isWon_85 : decode prog_12_method_69_code 85 = .ok (.iload_n 3, 1) := by decide +kernel
theorem d_X10_isWon_86 : decode prog_12_method_69_code 86 = .ok (.if_icmp .eq 31, 3) := by decide +kernel
theorem d_X10_isWon_89 : decode prog_12_method_69_code 89 = .ok (.iload_n 2, 1) := by decide +kernel
theorem d_X10_isWon_90 : decode prog_12_method_69_code 90 = .ok (.iload 6, 2) := by decide +kernel
theorem d_X10_isWon_92 : decode prog_12_method_69_code 92 = .ok (.ishr, 1) := by decide +kernel
theorem d_X10_isWon_93 : decode prog_12_method_69_code 93 = .ok (.iconst 1, 1) := by decide +kernel
theorem d_X10_isWon_94 : decode prog_12_method_69_code 94 = .ok (.iand, 1) := by decide +kernel
theorem d_X10_isWon_95 : decode prog_12_method_69_code 95 = .ok (.ifCond .ne 22, 3) := by decide +kernel
theorem d_X10_isWon_98 : decode prog_12_method_69_code 98 = .ok (.aload_n 0, 1) := by decide +kernel
theorem d_X10_isWon_99 : decode prog_12_method_69_code 99 = .ok (.iload 6, 2) := by decide +kernel
theorem d_X10_isWon_101 : decode prog_12_method_69_code 101 = .ok (.iload 7, 2) := by decide +kernel
theorem d_X10_isWon_103 : decode prog_12_method_69_code 103 = .ok (.iload_n 1, 1) := by decide +kernel
theorem d_X10_isWon_104 : decode prog_12_method_69_code 104 = .ok (.iload_n 2, 1) := by decide +kernel
theorem d_X10_isWon_105 : decode prog_12_method_69_code 105 = .ok (.iload_n 3, 1) := by decide +kernel
theorem d_X10_isWon_106 : decode prog_12_method_69_code 106 = .ok (.invokevirtual 224, 3) := by decide +kernel
theorem d_X10_isWon_109 : decode prog_12_method_69_code 109 = .ok (.istore 5, 2) := by decide +kernel
theorem d_X10_isWon_111 : decode prog_12_method_69_code 111 = .ok (.iinc 7 1, 3) := by decide +kernel
theorem d_X10_isWon_114 : decode prog_12_method_69_code 114 = .ok (.goto (-37), 3) := by decide +kernel
theorem d_X10_isWon_117 : decode prog_12_method_69_code 117 = .ok (.iinc 6 1, 3) := by decide +kernel
theorem d_X10_isWon_120 : decode prog_12_method_69_code 120 = .ok (.goto (-63), 3) := by decide +kernel
theorem d_X10_isWon_123 : decode prog_12_method_69_code 123 = .ok (.iload 5, 2) := by decide +kernel
theorem d_X10_isWon_125 : decode prog_12_method_69_code 125 = .ok (.ireturn, 1) := by decide +kernel
theorem d_X10_isWonBy_0 : decode prog_12_method_70_code 0 = .ok (.aload_n 0, 1) := by decide +kernel
theorem d_X10_isWonBy_1 : decode prog_12_method_70_code 1 = .ok (.aload_n 0, 1) := by decide +kernel
theorem d_X10_isWonBy_2 : decode prog_12_method_70_code 2 = .ok (.getfield 135, 3) := by decide +kernel
theorem d_X10_isWonBy_5 : decode prog_12_method_70_code 5 = .ok (.iload_n 1, 1) := by decide +kernel
theorem d_X10_isWonBy_6 : decode prog_12_method_70_code 6 = .ok (.iload_n 2, 1) := by decide +kernel
theorem d_X10_isWonBy_7 : decode prog_12_method_70_code 7 = .ok (.invokevirtual 139, 3) := by decide +kernel
theorem d_X10_isWonBy_10 : decode prog_12_method_70_code 10 = .ok (.aload_n 0, 1) := by decide +kernel
theorem d_X10_isWonBy_11 : decode prog_12_method_70_code 11 = .ok (.dup, 1) := by decide +kernel
theorem d_X10_isWonBy_12 : decode prog_12_method_70_code 12 = .ok (.getfield 135, 3) := by decide +kernel
theorem d_X10_isWonBy_15 : decode prog_12_method_70_code 15 = .ok (.iconst 1, 1) := by decide +kernel
theorem d_X10_isWonBy_16 : decode prog_12_method_70_code 16 = .ok (.iadd, 1) := by decide +kernel
theorem d_X10_isWonBy_17 : decode prog_12_method_70_code 17 = .ok (.putfield 135, 3) := by decide +kernel
theorem d_X10_isWonBy_20 : decode prog_12_method_70_code 20 = .ok (.aload_n 0, 1) := by decide +kernel
theorem d_X10_isWonBy_21 : decode prog_12_method_70_code 21 = .ok (.iload_n 3, 1) := by decide +kernel
theorem d_X10_isWonBy_22 : decode prog_12_method_70_code 22 = .ok (.iconst 1, 1) := by decide +kernel
theorem d_X10_isWonBy_23 : decode prog_12_method_70_code 23 = .ok (.isub, 1) := by decide +kernel
theorem d_X10_isWonBy_24 : decode prog_12_method_70_code 24 = .ok (.iload 4, 2) := by decide +kernel
theorem d_X10_isWonBy_26 : decode prog_12_method_70_code 26 = .ok (.iconst 1, 1) := by decide +kernel
theorem d_X10_isWonBy_27 : decode prog_12_method_70_code 27 = .ok (.iload_n 1, 1) := by decide +kernel
theorem d_X10_isWonBy_28 : decode prog_12_method_70_code 28 = .ok (.ishl, 1) := by decide +kernel
theorem d_X10_isWonBy_29 : decode prog_12_method_70_code 29 = .ok (.ior, 1) := by decide +kernel
theorem d_X10_isWonBy_30 : decode prog_12_method_70_code 30 = .ok (.iload 5, 2) := by decide +kernel
theorem d_X10_isWonBy_32 : decode prog_12_method_70_code 32 = .ok (.ifCond .ne 7, 3) := by decide +kernel
theorem d_X10_isWonBy_35 : decode prog_12_method_70_code 35 = .ok (.iconst 1, 1) := by decide +kernel
theorem d_X10_isWonBy_36 : decode prog_12_method_70_code 36 = .ok (.goto 4, 3) := by decide +kernel
theorem d_X10_isWonBy_39 : decode prog_12_method_70_code 39 = .ok (.iconst 0, 1) := by decide +kernel
theorem d_X10_isWonBy_40 : decode prog_12_method_70_code 40 = .ok (.invokevirtual 228, 3) := by decide +kernel
theorem d_X10_isWonBy_43 : decode prog_12_method_70_code 43 = .ok (.istore 6, 2) := by decide +kernel
theorem d_X10_isWonBy_45 : decode prog_12_method_70_code 45 = .ok (.aload_n 0, 1) := by decide +kernel
theorem d_X10_isWonBy_46 : decode prog_12_method_70_code 46 = .ok (.dup, 1) := by decide +kernel
theorem d_X10_isWonBy_47 : decode prog_12_method_70_code 47 = .ok (.getfield 135, 3) := by decide +kernel
theorem d_X10_isWonBy_50 : decode prog_12_method_70_code 50 = .ok (.iconst 1, 1) := by decide +kernel
theorem d_X10_isWonBy_51 : decode prog_12_method_70_code 51 = .ok (.isub, 1) := by decide +kernel
theorem d_X10_isWonBy_52 : decode prog_12_method_70_code 52 = .ok (.putfield 135, 3) := by decide +kernel
theorem d_X10_isWonBy_55 : decode prog_12_method_70_code 55 = .ok (.iload 6, 2) := by decide +kernel
theorem d_X10_isWonBy_57 : decode prog_12_method_70_code 57 = .ok (.ireturn, 1) := by decide +kernel
theorem d_X10_usedNow_0 : decode prog_12_method_71_code 0 = .ok (.iconst 0, 1) := by decide +kernel
theorem d_X10_usedNow_1 : decode prog_12_method_71_code 1 = .ok (.istore_n 1, 1) := by decide +kernel
theorem d_X10_usedNow_2 : decode prog_12_method_71_code 2 = .ok (.iconst 0, 1) := by decide +kernel
theorem d_X10_usedNow_3 : decode prog_12_method_71_code 3 = .ok (.istore_n 2, 1) := by decide +kernel
theorem d_X10_usedNow_4 : decode prog_12_method_71_code 4 = .ok (.iload_n 2, 1) := by decide +kernel
theorem d_X10_usedNow_5 : decode prog_12_method_71_code 5 = .ok (.aload_n 0, 1) := by decide +kernel
theorem d_X10_usedNow_6 : decode prog_12_method_71_code 6 = .ok (.getfield 7, 3) := by decide +kernel
theorem d_X10_usedNow_9 : decode prog_12_method_71_code 9 = .ok (.iconst 2, 1) := by decide +kernel
theorem d_X10_usedNow_10 : decode prog_12_method_71_code 10 = .ok (.iaload, 1) := by decide +kernel
theorem d_X10_usedNow_11 : decode prog_12_method_71_code 11 = .ok (.if_icmp .ge 25, 3) := by decide +kernel
theorem d_X10_usedNow_14 : decode prog_12_method_71_code 14 = .ok (.iload_n 1, 1) := by decide +kernel
theorem d_X10_usedNow_15 : decode prog_12_method_71_code 15 = .ok (.iconst 1, 1) := by decide +kernel
theorem d_X10_usedNow_16 : decode prog_12_method_71_code 16 = .ok (.aload_n 0, 1) := by decide +kernel
theorem d_X10_usedNow_17 : decode prog_12_method_71_code 17 = .ok (.getfield 7, 3) := by decide +kernel
theorem d_X10_usedNow_20 : decode prog_12_method_71_code 20 = .ok (.bipush 45, 2) := by decide +kernel
theorem d_X10_usedNow_22 : decode prog_12_method_71_code 22 = .ok (.iconst 2, 1) := by decide +kernel
theorem d_X10_usedNow_23 : decode prog_12_method_71_code 23 = .ok (.iload_n 2, 1) := by decide +kernel
theorem d_X10_usedNow_24 : decode prog_12_method_71_code 24 = .ok (.imul, 1) := by decide +kernel
theorem d_X10_usedNow_25 : decode prog_12_method_71_code 25 = .ok (.iadd, 1) := by decide +kernel
theorem d_X10_usedNow_26 : decode prog_12_method_71_code 26 = .ok (.iaload, 1) := by decide +kernel
theorem d_X10_usedNow_27 : decode prog_12_method_71_code 27 = .ok (.ishl, 1) := by decide +kernel
theorem d_X10_usedNow_28 : decode prog_12_method_71_code 28 = .ok (.ior, 1) := by decide +kernel
theorem d_X10_usedNow_29 : decode prog_12_method_71_code 29 = .ok (.istore_n 1, 1) := by decide +kernel
theorem d_X10_usedNow_30 : decode prog_12_method_71_code 30 = .ok (.iinc 2 1, 3) := by decide +kernel
theorem d_X10_usedNow_33 : decode prog_12_method_71_code 33 = .ok (.goto (-29), 3) := by decide +kernel
theorem d_X10_usedNow_36 : decode prog_12_method_71_code 36 = .ok (.iload_n 1, 1) := by decide +kernel
theorem d_X10_usedNow_37 : decode prog_12_method_71_code 37 = .ok (.ireturn, 1) := by decide +kernel
theorem d_X10_game_0 : decode prog_12_method_72_code 0 = .ok (.iload_n 1, 1) := by decide +kernel
theorem d_X10_game_1 : decode prog_12_method_72_code 1 = .ok (.invokestatic 194, 3) := by decide +kernel
theorem d_X10_game_4 : decode prog_12_method_72_code 4 = .ok (.ifCond .ne 5, 3) := by decide +kernel
theorem d_X10_game_7 : decode prog_12_method_72_code 7 = .ok (.iconst (-1), 1) := by decide +kernel
theorem d_X10_game_8 : decode prog_12_method_72_code 8 = .ok (.ireturn, 1) := by decide +kernel
theorem d_X10_game_9 : decode prog_12_method_72_code 9 = .ok (.aload_n 0, 1) := by decide +kernel
theorem d_X10_game_10 : decode prog_12_method_72_code 10 = .ok (.invokevirtual 166, 3) := by decide +kernel
theorem d_X10_game_13 : decode prog_12_method_72_code 13 = .ok (.aload_n 0, 1) := by decide +kernel
theorem d_X10_game_14 : decode prog_12_method_72_code 14 = .ok (.iload_n 1, 1) := by decide +kernel
theorem d_X10_game_15 : decode prog_12_method_72_code 15 = .ok (.aload_n 0, 1) := by decide +kernel
theorem d_X10_game_16 : decode prog_12_method_72_code 16 = .ok (.invokevirtual 232, 3) := by decide +kernel
theorem d_X10_game_19 : decode prog_12_method_72_code 19 = .ok (.iconst 1, 1) := by decide +kernel
theorem d_X10_game_20 : decode prog_12_method_72_code 20 = .ok (.invokevirtual 228, 3) := by decide +kernel
theorem d_X10_game_23 : decode prog_12_method_72_code 23 = .ok (.ifCond .eq 7, 3) := by decide +kernel
theorem d_X10_game_26 : decode prog_12_method_72_code 26 = .ok (.iconst 1, 1) := by decide +kernel
theorem d_X10_game_27 : decode prog_12_method_72_code 27 = .ok (.goto 4, 3) := by decide +kernel
theorem d_X10_game_30 : decode prog_12_method_72_code 30 = .ok (.iconst 0, 1) := by decide +kernel
theorem d_X10_game_31 : decode prog_12_method_72_code 31 = .ok (.ireturn, 1) := by decide +kernel
theorem d_X10_play_0 : decode prog_12_method_73_code 0 = .ok (.iload_n 1, 1) := by decide +kernel
theorem d_X10_play_1 : decode prog_12_method_73_code 1 = .ok (.invokestatic 194, 3) := by decide +kernel
theorem d_X10_play_4 : decode prog_12_method_73_code 4 = .ok (.ifCond .ne 5, 3) := by decide +kernel
theorem d_X10_play_7 : decode prog_12_method_73_code 7 = .ok (.iconst (-1), 1) := by decide +kernel
theorem d_X10_play_8 : decode prog_12_method_73_code 8 = .ok (.ireturn, 1) := by decide +kernel
theorem d_X10_play_9 : decode prog_12_method_73_code 9 = .ok (.aload_n 0, 1) := by decide +kernel
theorem d_X10_play_10 : decode prog_12_method_73_code 10 = .ok (.invokevirtual 166, 3) := by decide +kernel
theorem d_X10_play_13 : decode prog_12_method_73_code 13 = .ok (.aload_n 0, 1) := by decide +kernel
theorem d_X10_play_14 : decode prog_12_method_73_code 14 = .ok (.invokevirtual 232, 3) := by decide +kernel
theorem d_X10_play_17 : decode prog_12_method_73_code 17 = .ok (.istore_n 2, 1) := by decide +kernel
theorem d_X10_play_18 : decode prog_12_method_73_code 18 = .ok (.aload_n 0, 1) := by decide +kernel
theorem d_X10_play_19 : decode prog_12_method_73_code 19 = .ok (.iload_n 1, 1) := by decide +kernel
theorem d_X10_play_20 : decode prog_12_method_73_code 20 = .ok (.iload_n 2, 1) := by decide +kernel
theorem d_X10_play_21 : decode prog_12_method_73_code 21 = .ok (.iconst 1, 1) := by decide +kernel
theorem d_X10_play_22 : decode prog_12_method_73_code 22 = .ok (.invokevirtual 228, 3) := by decide +kernel
theorem d_X10_play_25 : decode prog_12_method_73_code 25 = .ok (.istore_n 3, 1) := by decide +kernel
theorem d_X10_play_26 : decode prog_12_method_73_code 26 = .ok (.iconst 0, 1) := by decide +kernel
theorem d_X10_play_27 : decode prog_12_method_73_code 27 = .ok (.istore 4, 2) := by decide +kernel
theorem d_X10_play_29 : decode prog_12_method_73_code 29 = .ok (.iload 4, 2) := by decide +kernel
theorem d_X10_play_31 : decode prog_12_method_73_code 31 = .ok (.aload_n 0, 1) := by decide +kernel
theorem d_X10_play_32 : decode prog_12_method_73_code 32 = .ok (.getfield 7, 3) := by decide +kernel
theorem d_X10_play_35 : decode prog_12_method_73_code 35 = .ok (.iconst 0, 1) := by decide +kernel
theorem d_X10_play_36 : decode prog_12_method_73_code 36 = .ok (.iaload, 1) := by decide +kernel
theorem d_X10_play_37 : decode prog_12_method_73_code 37 = .ok (.if_icmp .ge 67, 3) := by decide +kernel
theorem d_X10_play_40 : decode prog_12_method_73_code 40 = .ok (.aload_n 0, 1) := by decide +kernel
theorem d_X10_play_41 : decode prog_12_method_73_code 41 = .ok (.getfield 7, 3) := by decide +kernel
theorem d_X10_play_44 : decode prog_12_method_73_code 44 = .ok (.iconst 2, 1) := by decide +kernel
theorem d_X10_play_45 : decode prog_12_method_73_code 45 = .ok (.iaload, 1) := by decide +kernel
theorem d_X10_play_46 : decode prog_12_method_73_code 46 = .ok (.iconst 4, 1) := by decide +kernel
theorem d_X10_play_47 : decode prog_12_method_73_code 47 = .ok (.if_icmp .ge 57, 3) := by decide +kernel
theorem d_X10_play_50 : decode prog_12_method_73_code 50 = .ok (.iconst 0, 1) := by decide +kernel
theorem d_X10_play_51 : decode prog_12_method_73_code 51 = .ok (.istore 5, 2) := by decide +kernel
theorem d_X10_play_53 : decode prog_12_method_73_code 53 = .ok (.iload 5, 2) := by decide +kernel
theorem d_X10_play_55 : decode prog_12_method_73_code 55 = .ok (.iconst 4, 1) := by decide +kernel
theorem d_X10_play_56 : decode prog_12_method_73_code 56 = .ok (.if_icmp .ge 42, 3) := by decide +kernel
theorem d_X10_play_59 : decode prog_12_method_73_code 59 = .ok (.iload_n 2, 1) := by decide +kernel
theorem d_X10_play_60 : decode prog_12_method_73_code 60 = .ok (.iload 4, 2) := by decide +kernel
theorem d_X10_play_62 : decode prog_12_method_73_code 62 = .ok (.ishr, 1) := by decide +kernel
theorem d_X10_play_63 : decode prog_12_method_73_code 63 = .ok (.iconst 1, 1) := by decide +kernel
theorem d_X10_play_64 : decode prog_12_method_73_code 64 = .ok (.iand, 1) := by decide +kernel
theorem d_X10_play_65 : decode prog_12_method_73_code 65 = .ok (.ifCond .ne 33, 3) := by decide +kernel
theorem d_X10_play_68 : decode prog_12_method_73_code 68 = .ok (.aload_n 0, 1) := by decide +kernel
theorem d_X10_play_69 : decode prog_12_method_73_code 69 = .ok (.iload 4, 2) := by decide +kernel
theorem d_X10_play_71 : decode prog_12_method_73_code 71 = .ok (.iload 5, 2) := by decide +kernel
theorem d_X10_play_73 : decode prog_12_method_73_code 73 = .ok (.iload_n 1, 1) := by decide +kernel
theorem d_X10_play_74 : decode prog_12_method_73_code 74 = .ok (.iload_n 2, 1) := by decide +kernel
theorem d_X10_play_75 : decode prog_12_method_73_code 75 = .ok (.iconst 1, 1) := by decide +kernel
theorem d_X10_play_76 : decode prog_12_method_73_code 76 = .ok (.invokevirtual 224, 3) := by decide +kernel
theorem d_X10_play_79 : decode prog_12_method_73_code 79 = .ok (.iload_n 3, 1) := by decide +kernel
theorem d_X10_play_80 : decode prog_12_method_73_code 80 = .ok (.if_icmp .ne 12, 3) := by decide +kernel
theorem d_X10_play_83 : decode prog_12_method_73_code 83 = .ok (.bipush 10, 2) := by decide +kernel
theorem d_X10_play_85 : decode prog_12_method_73_code 85 = .ok (.iload 4, 2) := by decide +kernel
theorem d_X10_play_87 : decode prog_12_method_73_code 87 = .ok (.imul, 1) := by decide +kernel
theorem d_X10_play_88 : decode prog_12_method_73_code 88 = .ok (.iload 5, 2) := by decide +kernel
theorem d_X10_play_90 : decode prog_12_method_73_code 90 = .ok (.iadd, 1) := by decide +kernel
theorem d_X10_play_91 : decode prog_12_method_73_code 91 = .ok (.ireturn, 1) := by decide +kernel
theorem d_X10_play_92 : decode prog_12_method_73_code 92 = .ok (.iinc 5 1, 3) := by decide +kernel
theorem d_X10_play_95 : decode prog_12_method_73_code 95 = .ok (.goto (-42), 3) := by decide +kernel
theorem d_X10_play_98 : decode prog_12_method_73_code 98 = .ok (.iinc 4 1, 3) := by decide +kernel
theorem d_X10_play_101 : decode prog_12_method_73_code 101 = .ok (.goto (-72), 3) := by decide +kernel
theorem d_X10_play_104 : decode prog_12_method_73_code 104 = .ok (.bipush (-3), 2) := by decide +kernel
theorem d_X10_play_106 : decode prog_12_method_73_code 106 = .ok (.ireturn, 1) := by decide +kernel
theorem d_X10_report_0 : decode prog_12_method_74_code 0 = .ok (.iload_n 1, 1) := by decide +kernel
theorem d_X10_report_1 : decode prog_12_method_74_code 1 = .ok (.i2l, 1) := by decide +kernel
theorem d_X10_report_2 : decode prog_12_method_74_code 2 = .ok (.lconst 0, 1) := by decide +kernel
theorem d_X10_report_3 : decode prog_12_method_74_code 3 = .ok (.ldc2_w 127, 3) := by decide +kernel
theorem d_X10_report_6 : decode prog_12_method_74_code 6 = .ok (.invokestatic 74, 3) := by decide +kernel
theorem d_X10_report_9 : decode prog_12_method_74_code 9 = .ok (.ifCond .eq 13, 3) := by decide +kernel
theorem d_X10_report_12 : decode prog_12_method_74_code 12 = .ok (.iload_n 2, 1) := by decide +kernel
theorem d_X10_report_13 : decode prog_12_method_74_code 13 = .ok (.i2l, 1) := by decide +kernel
theorem d_X10_report_14 : decode prog_12_method_74_code 14 = .ok (.lconst 0, 1) := by decide +kernel
theorem d_X10_report_15 : decode prog_12_method_74_code 15 = .ok (.lconst 1, 1) := by decide +kernel
theorem d_X10_report_16 : decode prog_12_method_74_code 16 = .ok (.invokestatic 74, 3) := by decide +kernel
theorem d_X10_report_19 : decode prog_12_method_74_code 19 = .ok (.ifCond .ne 5, 3) := by decide +kernel
theorem d_X10_report_22 : decode prog_12_method_74_code 22 = .ok (.iconst (-1), 1) := by decide +kernel
theorem d_X10_report_23 : decode prog_12_method_74_code 23 = .ok (.ireturn, 1) := by decide +kernel
theorem d_X10_report_24 : decode prog_12_method_74_code 24 = .ok (.aload_n 0, 1) := by decide +kernel
theorem d_X10_report_25 : decode prog_12_method_74_code 25 = .ok (.getfield 7, 3) := by decide +kernel
theorem d_X10_report_28 : decode prog_12_method_74_code 28 = .ok (.iconst 3, 1) := by decide +kernel
theorem d_X10_report_29 : decode prog_12_method_74_code 29 = .ok (.iaload, 1) := by decide +kernel
theorem d_X10_report_30 : decode prog_12_method_74_code 30 = .ok (.bipush 6, 2) := by decide +kernel
theorem d_X10_report_32 : decode prog_12_method_74_code 32 = .ok (.if_icmp .ne 6, 3) := by decide +kernel
theorem d_X10_report_35 : decode prog_12_method_74_code 35 = .ok (.bipush (-2), 2) := by decide +kernel
theorem d_X10_report_37 : decode prog_12_method_74_code 37 = .ok (.ireturn, 1) := by decide +kernel
theorem d_X10_report_38 : decode prog_12_method_74_code 38 = .ok (.aload_n 0, 1) := by decide +kernel
theorem d_X10_report_39 : decode prog_12_method_74_code 39 = .ok (.getfield 7, 3) := by decide +kernel
theorem d_X10_report_42 : decode prog_12_method_74_code 42 = .ok (.bipush 53, 2) := by decide +kernel
theorem d_X10_report_44 : decode prog_12_method_74_code 44 = .ok (.iconst 2, 1) := by decide +kernel
theorem d_X10_report_45 : decode prog_12_method_74_code 45 = .ok (.aload_n 0, 1) := by decide +kernel
theorem d_X10_report_46 : decode prog_12_method_74_code 46 = .ok (.getfield 7, 3) := by decide +kernel
theorem d_X10_report_49 : decode prog_12_method_74_code 49 = .ok (.iconst 3, 1) := by decide +kernel
theorem d_X10_report_50 : decode prog_12_method_74_code 50 = .ok (.iaload, 1) := by decide +kernel
theorem d_X10_report_51 : decode prog_12_method_74_code 51 = .ok (.imul, 1) := by decide +kernel
theorem d_X10_report_52 : decode prog_12_method_74_code 52 = .ok (.iadd, 1) := by decide +kernel
theorem d_X10_report_53 : decode prog_12_method_74_code 53 = .ok (.iload_n 1, 1) := by decide +kernel
theorem d_X10_report_54 : decode prog_12_method_74_code 54 = .ok (.iastore, 1) := by decide +kernel
theorem d_X10_report_55 : decode prog_12_method_74_code 55 = .ok (.aload_n 0, 1) := by decide +kernel
theorem d_X10_report_56 : decode prog_12_method_74_code 56 = .ok (.getfield 7, 3) := by decide +kernel
theorem d_X10_report_59 : decode prog_12_method_74_code 59 = .ok (.bipush 53, 2) := by decide +kernel
theorem d_X10_report_61 : decode prog_12_method_74_code 61 = .ok (.iconst 2, 1) := by decide +kernel
theorem d_X10_report_62 : decode prog_12_method_74_code 62 = .ok (.aload_n 0, 1) := by decide +kernel
theorem d_X10_report_63 : decode prog_12_method_74_code 63 = .ok (.getfield 7, 3) := by decide +kernel
theorem d_X10_report_66 : decode prog_12_method_74_code 66 = .ok (.iconst 3, 1) := by decide +kernel
theorem d_X10_report_67 : decode prog_12_method_74_code 67 = .ok (.iaload, 1) := by decide +kernel
theorem d_X10_report_68 : decode prog_12_method_74_code 68 = .ok (.imul, 1) := by decide +kernel
theorem d_X10_report_69 : decode prog_12_method_74_code 69 = .ok (.iadd, 1) := by decide +kernel
theorem d_X10_report_70 : decode prog_12_method_74_code 70 = .ok (.iconst 1, 1) := by decide +kernel
theorem d_X10_report_71 : decode prog_12_method_74_code 71 = .ok (.iadd, 1) := by decide +kernel
theorem d_X10_report_72 : decode prog_12_method_74_code 72 = .ok (.iload_n 2, 1) := by decide +kernel
theorem d_X10_report_73 : decode prog_12_method_74_code 73 = .ok (.iastore, 1) := by decide +kernel
theorem d_X10_report_74 : decode prog_12_method_74_code 74 = .ok (.aload_n 0, 1) := by decide +kernel
theorem d_X10_report_75 : decode prog_12_method_74_code 75 = .ok (.getfield 7, 3) := by decide +kernel
theorem d_X10_report_78 : decode prog_12_method_74_code 78 = .ok (.iconst 3, 1) := by decide +kernel
theorem d_X10_report_79 : decode prog_12_method_74_code 79 = .ok (.dup2, 1) := by decide +kernel
theorem d_X10_report_80 : decode prog_12_method_74_code 80 = .ok (.iaload, 1) := by decide +kernel
theorem d_X10_report_81 : decode prog_12_method_74_code 81 = .ok (.iconst 1, 1) := by decide +kernel
theorem d_X10_report_82 : decode prog_12_method_74_code 82 = .ok (.iadd, 1) := by decide +kernel
theorem d_X10_report_83 : decode prog_12_method_74_code 83 = .ok (.iastore, 1) := by decide +kernel
theorem d_X10_report_84 : decode prog_12_method_74_code 84 = .ok (.aload_n 0, 1) := by decide +kernel
theorem d_X10_report_85 : decode prog_12_method_74_code 85 = .ok (.getfield 7, 3) := by decide +kernel
theorem d_X10_report_88 : decode prog_12_method_74_code 88 = .ok (.iconst 3, 1) := by decide +kernel
theorem d_X10_report_89 : decode prog_12_method_74_code 89 = .ok (.iaload, 1) := by decide +kernel
theorem d_X10_report_90 : decode prog_12_method_74_code 90 = .ok (.iconst 1, 1) := by decide +kernel
theorem d_X10_report_91 : decode prog_12_method_74_code 91 = .ok (.isub, 1) := by decide +kernel
theorem d_X10_report_92 : decode prog_12_method_74_code 92 = .ok (.ireturn, 1) := by decide +kernel
theorem d_X10_forget_0 : decode prog_12_method_75_code 0 = .ok (.aload_n 0, 1) := by decide +kernel
theorem d_X10_forget_1 : decode prog_12_method_75_code 1 = .ok (.getfield 7, 3) := by decide +kernel
theorem d_X10_forget_4 : decode prog_12_method_75_code 4 = .ok (.iconst 3, 1) := by decide +kernel
theorem d_X10_forget_5 : decode prog_12_method_75_code 5 = .ok (.iaload, 1) := by decide +kernel
theorem d_X10_forget_6 : decode prog_12_method_75_code 6 = .ok (.istore_n 1, 1) := by decide +kernel
theorem d_X10_forget_7 : decode prog_12_method_75_code 7 = .ok (.aload_n 0, 1) := by decide +kernel
theorem d_X10_forget_8 : decode prog_12_method_75_code 8 = .ok (.getfield 7, 3) := by decide +kernel
theorem d_X10_forget_11 : decode prog_12_method_75_code 11 = .ok (.iconst 3, 1) := by decide +kernel
theorem d_X10_forget_12 : decode prog_12_method_75_code 12 = .ok (.iconst 0, 1) := by decide +kernel
theorem d_X10_forget_13 : decode prog_12_method_75_code 13 = .ok (.iastore, 1) := by decide +kernel
theorem d_X10_forget_14 : decode prog_12_method_75_code 14 = .ok (.iload_n 1, 1) := by decide +kernel
theorem d_X10_forget_15 : decode prog_12_method_75_code 15 = .ok (.ireturn, 1) := by decide +kernel
theorem d_X10_isMendedBy_0 : decode prog_12_method_76_code 0 = .ok (.aload_n 0, 1) := by decide +kernel
theorem d_X10_isMendedBy_1 : decode prog_12_method_76_code 1 = .ok (.invokevirtual 132, 3) := by decide +kernel
theorem d_X10_isMendedBy_4 : decode prog_12_method_76_code 4 = .ok (.aload_n 0, 1) := by decide +kernel
theorem d_X10_isMendedBy_5 : decode prog_12_method_76_code 5 = .ok (.getfield 25, 3) := by decide +kernel
theorem d_X10_isMendedBy_8 : decode prog_12_method_76_code 8 = .ok (.iload_n 1, 1) := by decide +kernel
theorem d_X10_isMendedBy_9 : decode prog_12_method_76_code 9 = .ok (.iload_n 2, 1) := by decide +kernel
theorem d_X10_isMendedBy_10 : decode prog_12_method_76_code 10 = .ok (.iastore, 1) := by decide +kernel
theorem d_X10_isMendedBy_11 : decode prog_12_method_76_code 11 = .ok (.aload_n 0, 1) := by decide +kernel
theorem d_X10_isMendedBy_12 : decode prog_12_method_76_code 12 = .ok (.getfield 28, 3) := by decide +kernel
theorem d_X10_isMendedBy_15 : decode prog_12_method_76_code 15 = .ok (.iload_n 1, 1) := by decide +kernel
theorem d_X10_isMendedBy_16 : decode prog_12_method_76_code 16 = .ok (.iconst 0, 1) := by decide +kernel
theorem d_X10_isMendedBy_17 : decode prog_12_method_76_code 17 = .ok (.iastore, 1) := by decide +kernel
theorem d_X10_isMendedBy_18 : decode prog_12_method_76_code 18 = .ok (.aload_n 0, 1) := by decide +kernel
theorem d_X10_isMendedBy_19 : decode prog_12_method_76_code 19 = .ok (.invokevirtual 169, 3) := by decide +kernel
theorem d_X10_isMendedBy_22 : decode prog_12_method_76_code 22 = .ok (.ireturn, 1) := by decide +kernel
theorem d_X10_findFits_0 : decode prog_12_method_77_code 0 = .ok (.aload_n 0, 1) := by decide +kernel
theorem d_X10_findFits_1 : decode prog_12_method_77_code 1 = .ok (.invokevirtual 166, 3) := by decide +kernel
theorem d_X10_findFits_4 : decode prog_12_method_77_code 4 = .ok (.aload_n 0, 1) := by decide +kernel
theorem d_X10_findFits_5 : decode prog_12_method_77_code 5 = .ok (.iconst 0, 1) := by decide +kernel
theorem d_X10_findFits_6 : decode prog_12_method_77_code 6 = .ok (.putfield 235, 3) := by decide +kernel
theorem d_X10_findFits_9 : decode prog_12_method_77_code 9 = .ok (.bipush (-9), 2) := by decide +kernel
theorem d_X10_findFits_11 : decode prog_12_method_77_code 11 = .ok (.istore_n 2, 1) := by decide +kernel
theorem d_X10_findFits_12 : decode prog_12_method_77_code 12 = .ok (.iload_n 2, 1) := by decide +kernel
theorem d_X10_findFits_13 : decode prog_12_method_77_code 13 = .ok (.bipush 10, 2) := by decide +kernel
theorem d_X10_findFits_15 : decode prog_12_method_77_code 15 = .ok (.if_icmp .ge 141, 3) := by decide +kernel
theorem d_X10_findFits_18 : decode prog_12_method_77_code 18 = .ok (.iconst 1, 1) := by decide +kernel
theorem d_X10_findFits_19 : decode prog_12_method_77_code 19 = .ok (.istore_n 3, 1) := by decide +kernel
theorem d_X10_findFits_20 : decode prog_12_method_77_code 20 = .ok (.iconst 0, 1) := by decide +kernel
theorem d_X10_findFits_21 : decode prog_12_method_77_code 21 = .ok (.istore 4, 2) := by decide +kernel
theorem d_X10_findFits_23 : decode prog_12_method_77_code 23 = .ok (.iload 4, 2) := by decide +kernel
theorem d_X10_findFits_25 : decode prog_12_method_77_code 25 = .ok (.aload_n 0, 1) := by decide +kernel
theorem d_X10_findFits_26 : decode prog_12_method_77_code 26 = .ok (.getfield 7, 3) := by decide +kernel
theorem d_X10_findFits_29 : decode prog_12_method_77_code 29 = .ok (.iconst 3, 1) := by decide +kernel
theorem d_X10_findFits_30 : decode prog_12_method_77_code 30 = .ok (.iaload, 1) := by decide +kernel
theorem d_X10_findFits_31 : decode prog_12_method_77_code 31 = .ok (.if_icmp .ge 81, 3) := by decide +kernel
theorem d_X10_findFits_34 : decode prog_12_method_77_code 34 = .ok (.iload_n 3, 1) := by decide +kernel
theorem d_X10_findFits_35 : decode prog_12_method_77_code 35 = .ok (.ifCond .eq 77, 3) := by decide +kernel
theorem d_X10_findFits_38 : decode prog_12_method_77_code 38 = .ok (.aload_n 0, 1) := by decide +kernel
theorem d_X10_findFits_39 : decode prog_12_method_77_code 39 = .ok (.getfield 7, 3) := by decide +kernel
theorem d_X10_findFits_42 : decode prog_12_method_77_code 42 = .ok (.bipush 53, 2) := by decide +kernel
theorem d_X10_findFits_44 : decode prog_12_method_77_code 44 = .ok (.iconst 2, 1) := by decide +kernel
theorem d_X10_findFits_45 : decode prog_12_method_77_code 45 = .ok (.iload 4, 2) := by decide +kernel
theorem d_X10_findFits_47 : decode prog_12_method_77_code 47 = .ok (.imul, 1) := by decide +kernel
theorem d_X10_findFits_48 : decode prog_12_method_77_code 48 = .ok (.iadd, 1) := by decide +kernel
theorem d_X10_findFits_49 : decode prog_12_method_77_code 49 = .ok (.iaload, 1) := by decide +kernel
theorem d_X10_findFits_50 : decode prog_12_method_77_code 50 = .ok (.istore 5, 2) := by decide +kernel
theorem d_X10_findFits_52 : decode prog_12_method_77_code 52 = .ok (.iload 4, 2) := by decide +kernel
theorem d_X10_findFits_54 : decode prog_12_method_77_code 54 = .ok (.iload_n 1, 1) := by decide +kernel
theorem d_X10_findFits_55 : decode prog_12_method_77_code 55 = .ok (.if_icmp .eq 45, 3) := by decide +kernel
theorem d_X10_findFits_58 : decode prog_12_method_77_code 58 = .ok (.aload_n 0, 1) := by decide +kernel
theorem d_X10_findFits_59 : decode prog_12_method_77_code 59 = .ok (.iload 5, 2) := by decide +kernel
theorem d_X10_findFits_61 : decode prog_12_method_77_code 61 = .ok (.invokevirtual 179, 3) := by decide +kernel
theorem d_X10_findFits_64 : decode prog_12_method_77_code 64 = .ok (.ifCond .eq 40, 3) := by decide +kernel
theorem d_X10_findFits_67 : decode prog_12_method_77_code 67 = .ok (.aload_n 0, 1) := by decide +kernel
theorem d_X10_findFits_68 : decode prog_12_method_77_code 68 = .ok (.iload 5, 2) := by decide +kernel
theorem d_X10_findFits_70 : decode prog_12_method_77_code 70 = .ok (.iload_n 2, 1) := by decide +kernel
theorem d_X10_findFits_71 : decode prog_12_method_77_code 71 = .ok (.invokevirtual 238, 3) := by decide +kernel
theorem d_X10_findFits_74 : decode prog_12_method_77_code 74 = .ok (.aload_n 0, 1) := by decide +kernel
theorem d_X10_findFits_75 : decode prog_12_method_77_code 75 = .ok (.getfield 7, 3) := by decide +kernel
theorem d_X10_findFits_78 : decode prog_12_method_77_code 78 = .ok (.bipush 53, 2) := by decide +kernel
theorem d_X10_findFits_80 : decode prog_12_method_77_code 80 = .ok (.iconst 2, 1) := by decide +kernel
theorem d_X10_findFits_81 : decode prog_12_method_77_code 81 = .ok (.iload 4, 2) := by decide +kernel
theorem d_X10_findFits_83 : decode prog_12_method_77_code 83 = .ok (.imul, 1) := by decide +kernel
theorem d_X10_findFits_84 : decode prog_12_method_77_code 84 = .ok (.iadd, 1) := by decide +kernel
theorem d_X10_findFits_85 : decode prog_12_method_77_code 85 = .ok (.iconst 1, 1) := by decide +kernel
theorem d_X10_findFits_86 : decode prog_12_method_77_code 86 = .ok (.iadd, 1) := by decide +kernel
theorem d_X10_findFits_87 : decode prog_12_method_77_code 87 = .ok (.iaload, 1) := by decide +kernel
theorem d_X10_findFits_88 : decode prog_12_method_77_code 88 = .ok (.iconst 1, 1) := by decide +kernel
theorem d_X10_findFits_89 : decode prog_12_method_77_code 89 = .ok (.if_icmp .ne 7, 3) := by decide +kernel
theorem d_X10_findFits_92 : decode prog_12_method_77_code 92 = .ok (.iconst 1, 1) := by decide +kernel
theorem d_X10_findFits_93 : decode prog_12_method_77_code 93 = .ok (.goto 4, 3) := by decide +kernel
theorem d_X10_findFits_96 : decode prog_12_method_77_code 96 = .ok (.iconst 0, 1) := by decide +kernel
theorem d_X10_findFits_97 : decode prog_12_method_77_code 97 = .ok (.if_icmp .ne 7, 3) := by decide +kernel
theorem d_X10_findFits_100 : decode prog_12_method_77_code 100 = .ok (.iconst 1, 1) := by decide +kernel
theorem d_X10_findFits_101 : decode prog_12_method_77_code 101 = .ok (.goto 4, 3) := by decide +kernel
theorem d_X10_findFits_104 : decode prog_12_method_77_code 104 = .ok (.iconst 0, 1) := by decide +kernel
theorem d_X10_findFits_105 : decode prog_12_method_77_code 105 = .ok (.istore_n 3, 1) := by decide +kernel
theorem d_X10_findFits_106 : decode prog_12_method_77_code 106 = .ok (.iinc 4 1, 3) := by decide +kernel
theorem d_X10_findFits_109 : decode prog_12_method_77_code 109 = .ok (.goto (-86), 3) := by decide +kernel
theorem d_X10_findFits_112 : decode prog_12_method_77_code 112 = .ok (.iload_n 3, 1) := by decide +kernel
theorem d_X10_findFits_113 : decode prog_12_method_77_code 113 = .ok (.ifCond .eq 37, 3) := by decide +kernel
theorem d_X10_findFits_116 : decode prog_12_method_77_code 116 = .ok (.aload_n 0, 1) := by decide +kernel
theorem d_X10_findFits_117 : decode prog_12_method_77_code 117 = .ok (.aload_n 0, 1) := by decide +kernel
theorem d_X10_findFits_118 : decode prog_12_method_77_code 118 = .ok (.getfield 235, 3) := by decide +kernel
theorem d_X10_findFits_121 : decode prog_12_method_77_code 121 = .ok (.ifCond .ne 7, 3) := by decide +kernel
theorem d_X10_findFits_124 : decode prog_12_method_77_code 124 = .ok (.iload_n 2, 1) := by decide +kernel
theorem d_X10_findFits_125 : decode prog_12_method_77_code 125 = .ok (.goto 7, 3) := by decide +kernel
theorem d_X10_findFits_128 : decode prog_12_method_77_code 128 = .ok (.aload_n 0, 1) := by decide +kernel
theorem d_X10_findFits_129 : decode prog_12_method_77_code 129 = .ok (.getfield 241, 3) := by decide +kernel
theorem d_X10_findFits_132 : decode prog_12_method_77_code 132 = .ok (.putfield 241, 3) := by decide +kernel
theorem d_X10_findFits_135 : decode prog_12_method_77_code 135 = .ok (.aload_n 0, 1) := by decide +kernel
theorem d_X10_findFits_136 : decode prog_12_method_77_code 136 = .ok (.iload_n 2, 1) := by decide +kernel
theorem d_X10_findFits_137 : decode prog_12_method_77_code 137 = .ok (.putfield 244, 3) := by decide +kernel
theorem d_X10_findFits_140 : decode prog_12_method_77_code 140 = .ok (.aload_n 0, 1) := by decide +kernel
theorem d_X10_findFits_141 : decode prog_12_method_77_code 141 = .ok (.dup, 1) := by decide +kernel
theorem d_X10_findFits_142 : decode prog_12_method_77_code 142 = .ok (.getfield 235, 3) := by decide +kernel
theorem d_X10_findFits_145 : decode prog_12_method_77_code 145 = .ok (.iconst 1, 1) := by decide +kernel
theorem d_X10_findFits_146 : decode prog_12_method_77_code 146 = .ok (.iadd, 1) := by decide +kernel
theorem d_X10_findFits_147 : decode prog_12_method_77_code 147 = .ok (.putfield 235, 3) := by decide +kernel
theorem d_X10_findFits_150 : decode prog_12_method_77_code 150 = .ok (.iinc 2 1, 3) := by decide +kernel
theorem d_X10_findFits_153 : decode prog_12_method_77_code 153 = .ok (.goto (-141), 3) := by decide +kernel
theorem d_X10_findFits_156 : decode prog_12_method_77_code 156 = .ok (.return_, 1) := by decide +kernel
theorem d_X10_span_0 : decode prog_12_method_78_code 0 = .ok (.iload_n 1, 1) := by decide +kernel
theorem d_X10_span_1 : decode prog_12_method_78_code 1 = .ok (.i2l, 1) := by decide +kernel
theorem d_X10_span_2 : decode prog_12_method_78_code 2 = .ok (.lconst 0, 1) := by decide +kernel
theorem d_X10_span_3 : decode prog_12_method_78_code 3 = .ok (.ldc2_w 247, 3) := by decide +kernel
theorem d_X10_span_6 : decode prog_12_method_78_code 6 = .ok (.invokestatic 74, 3) := by decide +kernel
theorem d_X10_span_9 : decode prog_12_method_78_code 9 = .ok (.ifCond .ne 5, 3) := by decide +kernel
theorem d_X10_span_12 : decode prog_12_method_78_code 12 = .ok (.iconst (-1), 1) := by decide +kernel
theorem d_X10_span_13 : decode prog_12_method_78_code 13 = .ok (.ireturn, 1) := by decide +kernel
theorem d_X10_span_14 : decode prog_12_method_78_code 14 = .ok (.aload_n 0, 1) := by decide +kernel
theorem d_X10_span_15 : decode prog_12_method_78_code 15 = .ok (.iconst (-1), 1) := by decide +kernel
theorem d_X10_span_16 : decode prog_12_method_78_code 16 = .ok (.invokevirtual 249, 3) := by decide +kernel
theorem d_X10_span_19 : decode prog_12_method_78_code 19 = .ok (.iload_n 1, 1) := by decide +kernel
theorem d_X10_span_20 : decode prog_12_method_78_code 20 = .ok (.ifCond .ne 10, 3) := by decide +kernel
theorem d_X10_span_23 : decode prog_12_method_78_code 23 = .ok (.aload_n 0, 1) := by decide +kernel
theorem d_X10_span_24 : decode prog_12_method_78_code 24 = .ok (.getfield 235, 3) := by decide +kernel
theorem d_X10_span_27 : decode prog_12_method_78_code 27 = .ok (.goto 34, 3) := by decide +kernel
theorem d_X10_span_30 : decode prog_12_method_78_code 30 = .ok (.aload_n 0, 1) := by decide +kernel
theorem d_X10_span_31 : decode prog_12_method_78_code 31 = .ok (.getfield 235, 3) := by decide +kernel
theorem d_X10_span_34 : decode prog_12_method_78_code 34 = .ok (.ifCond .ne 8, 3) := by decide +kernel
theorem d_X10_span_37 : decode prog_12_method_78_code 37 = .ok (.bipush (-3), 2) := by decide +kernel
theorem d_X10_span_39 : decode prog_12_method_78_code 39 = .ok (.goto 22, 3) := by decide +kernel
theorem d_X10_span_42 : decode prog_12_method_78_code 42 = .ok (.bipush 10, 2) := by decide +kernel
theorem d_X10_span_44 : decode prog_12_method_78_code 44 = .ok (.iload_n 1, 1) := by decide +kernel
theorem d_X10_span_45 : decode prog_12_method_78_code 45 = .ok (.iconst 1, 1) := by decide +kernel
theorem d_X10_span_46 : decode prog_12_method_78_code 46 = .ok (.if_icmp .ne 10, 3) := by decide +kernel
theorem d_X10_span_49 : decode prog_12_method_78_code 49 = .ok (.aload_n 0, 1) := by decide +kernel
theorem d_X10_span_50 : decode prog_12_method_78_code 50 = .ok (.getfield 241, 3) := by decide +kernel
theorem d_X10_span_53 : decode prog_12_method_78_code 53 = .ok (.goto 7, 3) := by decide +kernel
theorem d_X10_span_56 : decode prog_12_method_78_code 56 = .ok (.aload_n 0, 1) := by decide +kernel
theorem d_X10_span_57 : decode prog_12_method_78_code 57 = .ok (.getfield 244, 3) := by decide +kernel
theorem d_X10_span_60 : decode prog_12_method_78_code 60 = .ok (.iadd, 1) := by decide +kernel
theorem d_X10_span_61 : decode prog_12_method_78_code 61 = .ok (.ireturn, 1) := by decide +kernel
theorem d_X10_liar_0 : decode prog_12_method_79_code 0 = .ok (.aload_n 0, 1) := by decide +kernel
theorem d_X10_liar_1 : decode prog_12_method_79_code 1 = .ok (.iconst (-1), 1) := by decide +kernel
theorem d_X10_liar_2 : decode prog_12_method_79_code 2 = .ok (.invokevirtual 249, 3) := by decide +kernel
theorem d_X10_liar_5 : decode prog_12_method_79_code 5 = .ok (.aload_n 0, 1) := by decide +kernel
theorem d_X10_liar_6 : decode prog_12_method_79_code 6 = .ok (.getfield 235, 3) := by decide +kernel
theorem d_X10_liar_9 : decode prog_12_method_79_code 9 = .ok (.ifCond .ne 7, 3) := by decide +kernel
theorem d_X10_liar_12 : decode prog_12_method_79_code 12 = .ok (.iconst 1, 1) := by decide +kernel
theorem d_X10_liar_13 : decode prog_12_method_79_code 13 = .ok (.goto 4, 3) := by decide +kernel
theorem d_X10_liar_16 : decode prog_12_method_79_code 16 = .ok (.iconst 0, 1) := by decide +kernel
theorem d_X10_liar_17 : decode prog_12_method_79_code 17 = .ok (.istore_n 1, 1) := by decide +kernel
theorem d_X10_liar_18 : decode prog_12_method_79_code 18 = .ok (.iconst 0, 1) := by decide +kernel
theorem d_X10_liar_19 : decode prog_12_method_79_code 19 = .ok (.istore_n 2, 1) := by decide +kernel
theorem d_X10_liar_20 : decode prog_12_method_79_code 20 = .ok (.iload_n 2, 1) := by decide +kernel
theorem d_X10_liar_21 : decode prog_12_method_79_code 21 = .ok (.aload_n 0, 1) := by decide +kernel
theorem d_X10_liar_22 : decode prog_12_method_79_code 22 = .ok (.getfield 7, 3) := by decide +kernel
theorem d_X10_liar_25 : decode prog_12_method_79_code 25 = .ok (.iconst 3, 1) := by decide +kernel
theorem d_X10_liar_26 : decode prog_12_method_79_code 26 = .ok (.iaload, 1) := by decide +kernel
theorem d_X10_liar_27 : decode prog_12_method_79_code 27 = .ok (.if_icmp .ge 27, 3) := by decide +kernel
theorem d_X10_liar_30 : decode prog_12_method_79_code 30 = .ok (.iload_n 1, 1) := by decide +kernel
theorem d_X10_liar_31 : decode prog_12_method_79_code 31 = .ok (.ifCond .eq 23, 3) := by decide +kernel
theorem d_X10_liar_34 : decode prog_12_method_79_code 34 = .ok (.aload_n 0, 1) := by decide +kernel
theorem d_X10_liar_35 : decode prog_12_method_79_code 35 = .ok (.iload_n 2, 1) := by decide +kernel
theorem d_X10_liar_36 : decode prog_12_method_79_code 36 = .ok (.invokevirtual 249, 3) := by decide +kernel
theorem d_X10_liar_39 : decode prog_12_method_79_code 39 = .ok (.aload_n 0, 1) := by decide +kernel
theorem d_X10_liar_40 : decode prog_12_method_79_code 40 = .ok (.getfield 235, 3) := by decide +kernel
theorem d_X10_liar_43 : decode prog_12_method_79_code 43 = .ok (.ifCond .le 5, 3) := by decide +kernel
theorem d_X10_liar_46 : decode prog_12_method_79_code 46 = .ok (.iload_n 2, 1) := by decide +kernel
theorem d_X10_liar_47 : decode prog_12_method_79_code 47 = .ok (.ireturn, 1) := by decide +kernel
theorem d_X10_liar_48 : decode prog_12_method_79_code 48 = .ok (.iinc 2 1, 3) := by decide +kernel
theorem d_X10_liar_51 : decode prog_12_method_79_code 51 = .ok (.goto (-31), 3) := by decide +kernel
theorem d_X10_liar_54 : decode prog_12_method_79_code 54 = .ok (.bipush (-3), 2) := by decide +kernel
theorem d_X10_liar_56 : decode prog_12_method_79_code 56 = .ok (.ireturn, 1) := by decide +kernel
theorem d_X10_seed_0 : decode prog_12_method_80_code 0 = .ok (.aload_n 0, 1) := by decide +kernel
theorem d_X10_seed_1 : decode prog_12_method_80_code 1 = .ok (.getfield 7, 3) := by decide +kernel
theorem d_X10_seed_4 : decode prog_12_method_80_code 4 = .ok (.bipush 8, 2) := by decide +kernel
theorem d_X10_seed_6 : decode prog_12_method_80_code 6 = .ok (.iaload, 1) := by decide +kernel
theorem d_X10_seed_7 : decode prog_12_method_80_code 7 = .ok (.istore_n 2, 1) := by decide +kernel
theorem d_X10_seed_8 : decode prog_12_method_80_code 8 = .ok (.aload_n 0, 1) := by decide +kernel
theorem d_X10_seed_9 : decode prog_12_method_80_code 9 = .ok (.getfield 7, 3) := by decide +kernel
theorem d_X10_seed_12 : decode prog_12_method_80_code 12 = .ok (.bipush 8, 2) := by decide +kernel
theorem d_X10_seed_14 : decode prog_12_method_80_code 14 = .ok (.iload_n 1, 1) := by decide +kernel
theorem d_X10_seed_15 : decode prog_12_method_80_code 15 = .ok (.iastore, 1) := by decide +kernel
theorem d_X10_seed_16 : decode prog_12_method_80_code 16 = .ok (.iload_n 2, 1) := by decide +kernel
theorem d_X10_seed_17 : decode prog_12_method_80_code 17 = .ok (.ireturn, 1) := by decide +kernel
theorem d_X10_draw_0 : decode prog_12_method_81_code 0 = .ok (.aload_n 0, 1) := by decide +kernel
theorem d_X10_draw_1 : decode prog_12_method_81_code 1 = .ok (.getfield 7, 3) := by decide +kernel
theorem d_X10_draw_4 : decode prog_12_method_81_code 4 = .ok (.iconst 2, 1) := by decide +kernel
theorem d_X10_draw_5 : decode prog_12_method_81_code 5 = .ok (.iaload, 1) := by decide +kernel
theorem d_X10_draw_6 : decode prog_12_method_81_code 6 = .ok (.ifCond .ne 6, 3) := by decide +kernel
theorem d_X10_draw_9 : decode prog_12_method_81_code 9 = .ok (.bipush (-3), 2) := by decide +kernel
theorem d_X10_draw_11 : decode prog_12_method_81_code 11 = .ok (.ireturn, 1) := by decide +kernel
theorem d_X10_draw_12 : decode prog_12_method_81_code 12 = .ok (.aload_n 0, 1) := by decide +kernel
theorem d_X10_draw_13 : decode prog_12_method_81_code 13 = .ok (.getfield 7, 3) := by decide +kernel
theorem d_X10_draw_16 : decode prog_12_method_81_code 16 = .ok (.bipush 8, 2) := by decide +kernel
theorem d_X10_draw_18 : decode prog_12_method_81_code 18 = .ok (.aload_n 0, 1) := by decide +kernel
theorem d_X10_draw_19 : decode prog_12_method_81_code 19 = .ok (.getfield 7, 3) := by decide +kernel
theorem d_X10_draw_22 : decode prog_12_method_81_code 22 = .ok (.bipush 8, 2) := by decide +kernel
theorem d_X10_draw_24 : decode prog_12_method_81_code 24 = .ok (.iaload, 1) := by decide +kernel
theorem d_X10_draw_25 : decode prog_12_method_81_code 25 = .ok (.ldc 252, 2) := by decide +kernel
theorem d_X10_draw_27 : decode prog_12_method_81_code 27 = .ok (.imul, 1) := by decide +kernel
theorem d_X10_draw_28 : decode prog_12_method_81_code 28 = .ok (.sipush 12345, 3) := by decide +kernel
theorem d_X10_draw_31 : decode prog_12_method_81_code 31 = .ok (.iadd, 1) := by decide +kernel
theorem d_X10_draw_32 : decode prog_12_method_81_code 32 = .ok (.iastore, 1) := by decide +kernel
theorem d_X10_draw_33 : decode prog_12_method_81_code 33 = .ok (.aload_n 0, 1) := by decide +kernel
theorem d_X10_draw_34 : decode prog_12_method_81_code 34 = .ok (.getfield 7, 3) := by decide +kernel
theorem d_X10_draw_37 : decode prog_12_method_81_code 37 = .ok (.bipush 8, 2) := by decide +kernel
theorem d_X10_draw_39 : decode prog_12_method_81_code 39 = .ok (.iaload, 1) := by decide +kernel
theorem d_X10_draw_40 : decode prog_12_method_81_code 40 = .ok (.bipush 16, 2) := by decide +kernel
theorem d_X10_draw_42 : decode prog_12_method_81_code 42 = .ok (.iushr, 1) := by decide +kernel
theorem d_X10_draw_43 : decode prog_12_method_81_code 43 = .ok (.aload_n 0, 1) := by decide +kernel
theorem d_X10_draw_44 : decode prog_12_method_81_code 44 = .ok (.getfield 7, 3) := by decide +kernel
theorem d_X10_draw_47 : decode prog_12_method_81_code 47 = .ok (.iconst 2, 1) := by decide +kernel
theorem d_X10_draw_48 : decode prog_12_method_81_code 48 = .ok (.iaload, 1) := by decide +kernel
theorem d_X10_draw_49 : decode prog_12_method_81_code 49 = .ok (.irem, 1) := by decide +kernel
theorem d_X10_draw_50 : decode prog_12_method_81_code 50 = .ok (.istore_n 1, 1) := by decide +kernel
theorem d_X10_draw_51 : decode prog_12_method_81_code 51 = .ok (.aload_n 0, 1) := by decide +kernel
theorem d_X10_draw_52 : decode prog_12_method_81_code 52 = .ok (.getfield 7, 3) := by decide +kernel
theorem d_X10_draw_55 : decode prog_12_method_81_code 55 = .ok (.bipush 45, 2) := by decide +kernel
theorem d_X10_draw_57 : decode prog_12_method_81_code 57 = .ok (.iconst 2, 1) := by decide +kernel
theorem d_X10_draw_58 : decode prog_12_method_81_code 58 = .ok (.iload_n 1, 1) := by decide +kernel
theorem d_X10_draw_59 : decode prog_12_method_81_code 59 = .ok (.imul, 1) := by decide +kernel
theorem d_X10_draw_60 : decode prog_12_method_81_code 60 = .ok (.iadd, 1) := by decide +kernel
theorem d_X10_draw_61 : decode prog_12_method_81_code 61 = .ok (.iconst 1, 1) := by decide +kernel
theorem d_X10_draw_62 : decode prog_12_method_81_code 62 = .ok (.iadd, 1) := by decide +kernel
theorem d_X10_draw_63 : decode prog_12_method_81_code 63 = .ok (.aload_n 0, 1) := by decide +kernel
theorem d_X10_draw_64 : decode prog_12_method_81_code 64 = .ok (.getfield 7, 3) := by decide +kernel
theorem d_X10_draw_67 : decode prog_12_method_81_code 67 = .ok (.bipush 45, 2) := by decide +kernel
theorem d_X10_draw_69 : decode prog_12_method_81_code 69 = .ok (.iconst 2, 1) := by decide +kernel
theorem d_X10_draw_70 : decode prog_12_method_81_code 70 = .ok (.iload_n 1, 1) := by decide +kernel
theorem d_X10_draw_71 : decode prog_12_method_81_code 71 = .ok (.imul, 1) := by decide +kernel
theorem d_X10_draw_72 : decode prog_12_method_81_code 72 = .ok (.iadd, 1) := by decide +kernel
theorem d_X10_draw_73 : decode prog_12_method_81_code 73 = .ok (.iconst 1, 1) := by decide +kernel
theorem d_X10_draw_74 : decode prog_12_method_81_code 74 = .ok (.iadd, 1) := by decide +kernel
theorem d_X10_draw_75 : decode prog_12_method_81_code 75 = .ok (.iaload, 1) := by decide +kernel
theorem d_X10_draw_76 : decode prog_12_method_81_code 76 = .ok (.iconst 1, 1) := by decide +kernel
theorem d_X10_draw_77 : decode prog_12_method_81_code 77 = .ok (.iadd, 1) := by decide +kernel
theorem d_X10_draw_78 : decode prog_12_method_81_code 78 = .ok (.iconst 3, 1) := by decide +kernel
theorem d_X10_draw_79 : decode prog_12_method_81_code 79 = .ok (.iand, 1) := by decide +kernel
theorem d_X10_draw_80 : decode prog_12_method_81_code 80 = .ok (.iastore, 1) := by decide +kernel
theorem d_X10_draw_81 : decode prog_12_method_81_code 81 = .ok (.iload_n 1, 1) := by decide +kernel
theorem d_X10_draw_82 : decode prog_12_method_81_code 82 = .ok (.ireturn, 1) := by decide +kernel
theorem d_X10_often_0 : decode prog_12_method_82_code 0 = .ok (.iload_n 1, 1) := by decide +kernel
theorem d_X10_often_1 : decode prog_12_method_82_code 1 = .ok (.i2l, 1) := by decide +kernel
theorem d_X10_often_2 : decode prog_12_method_82_code 2 = .ok (.lconst 1, 1) := by decide +kernel
theorem d_X10_often_3 : decode prog_12_method_82_code 3 = .ok (.ldc2_w 253, 3) := by decide +kernel
theorem d_X10_often_6 : decode prog_12_method_82_code 6 = .ok (.invokestatic 74, 3) := by decide +kernel
theorem d_X10_often_9 : decode prog_12_method_82_code 9 = .ok (.ifCond .ne 5, 3) := by decide +kernel
theorem d_X10_often_12 : decode prog_12_method_82_code 12 = .ok (.iconst (-1), 1) := by decide +kernel
theorem d_X10_often_13 : decode prog_12_method_82_code 13 = .ok (.ireturn, 1) := by decide +kernel
theorem d_X10_often_14 : decode prog_12_method_82_code 14 = .ok (.aload_n 0, 1) := by decide +kernel
theorem d_X10_often_15 : decode prog_12_method_82_code 15 = .ok (.invokevirtual 255, 3) := by decide +kernel
theorem d_X10_often_18 : decode prog_12_method_82_code 18 = .ok (.aload_n 0, 1) := by decide +kernel
theorem d_X10_often_19 : decode prog_12_method_82_code 19 = .ok (.invokevirtual 129, 3) := by decide +kernel
theorem d_X10_often_22 : decode prog_12_method_82_code 22 = .ok (.iconst 0, 1) := by decide +kernel
theorem d_X10_often_23 : decode prog_12_method_82_code 23 = .ok (.istore_n 2, 1) := by decide +kernel
theorem d_X10_often_24 : decode prog_12_method_82_code 24 = .ok (.iconst 0, 1) := by decide +kernel
theorem d_X10_often_25 : decode prog_12_method_82_code 25 = .ok (.istore_n 3, 1) := by decide +kernel
theorem d_X10_often_26 : decode prog_12_method_82_code 26 = .ok (.iload_n 3, 1) := by decide +kernel
theorem d_X10_often_27 : decode prog_12_method_82_code 27 = .ok (.iload_n 1, 1) := by decide +kernel
theorem d_X10_often_28 : decode prog_12_method_82_code 28 = .ok (.if_icmp .ge 43, 3) := by decide +kernel
theorem d_X10_often_31 : decode prog_12_method_82_code 31 = .ok (.aload_n 0, 1) := by decide +kernel
theorem d_X10_often_32 : decode prog_12_method_82_code 32 = .ok (.getfield 7, 3) := by decide +kernel
theorem d_X10_often_35 : decode prog_12_method_82_code 35 = .ok (.iconst 2, 1) := by decide +kernel
theorem d_X10_often_36 : decode prog_12_method_82_code 36 = .ok (.iaload, 1) := by decide +kernel
theorem d_X10_often_37 : decode prog_12_method_82_code 37 = .ok (.ifCond .le 34, 3) := by decide +kernel
theorem d_X10_often_40 : decode prog_12_method_82_code 40 = .ok (.aload_n 0, 1) := by decide +kernel
theorem d_X10_often_41 : decode prog_12_method_82_code 41 = .ok (.invokevirtual 258, 3) := by decide +kernel
theorem d_X10_often_44 : decode prog_12_method_82_code 44 = .ok (.istore 4, 2) := by decide +kernel
theorem d_X10_often_46 : decode prog_12_method_82_code 46 = .ok (.aload_n 0, 1) := by decide +kernel
theorem d_X10_often_47 : decode prog_12_method_82_code 47 = .ok (.invokevirtual 132, 3) := by decide +kernel
theorem d_X10_often_50 : decode prog_12_method_82_code 50 = .ok (.iload_n 2, 1) := by decide +kernel
theorem d_X10_often_51 : decode prog_12_method_82_code 51 = .ok (.aload_n 0, 1) := by decide +kernel
theorem d_X10_often_52 : decode prog_12_method_82_code 52 = .ok (.invokevirtual 169, 3) := by decide +kernel
theorem d_X10_often_55 : decode prog_12_method_82_code 55 = .ok (.ifCond .eq 7, 3) := by decide +kernel
theorem d_X10_often_58 : decode prog_12_method_82_code 58 = .ok (.iconst 1, 1) := by decide +kernel
theorem d_X10_often_59 : decode prog_12_method_82_code 59 = .ok (.goto 4, 3) := by decide +kernel
theorem d_X10_often_62 : decode prog_12_method_82_code 62 = .ok (.iconst 0, 1) := by decide +kernel
theorem d_X10_often_63 : decode prog_12_method_82_code 63 = .ok (.iadd, 1) := by decide +kernel
theorem d_X10_often_64 : decode prog_12_method_82_code 64 = .ok (.istore_n 2, 1) := by decide +kernel
theorem d_X10_often_65 : decode prog_12_method_82_code 65 = .ok (.iinc 3 1, 3) := by decide +kernel
theorem d_X10_often_68 : decode prog_12_method_82_code 68 = .ok (.goto (-42), 3) := by decide +kernel
theorem d_X10_often_71 : decode prog_12_method_82_code 71 = .ok (.aload_n 0, 1) := by decide +kernel
theorem d_X10_often_72 : decode prog_12_method_82_code 72 = .ok (.invokevirtual 261, 3) := by decide +kernel
theorem d_X10_often_75 : decode prog_12_method_82_code 75 = .ok (.iload_n 2, 1) := by decide +kernel
theorem d_X10_often_76 : decode prog_12_method_82_code 76 = .ok (.ireturn, 1) := by decide +kernel
theorem d_X10_lays_0 : decode prog_12_method_83_code 0 = .ok (.aload_n 0, 1) := by decide +kernel
theorem d_X10_lays_1 : decode prog_12_method_83_code 1 = .ok (.getfield 47, 3) := by decide +kernel
theorem d_X10_lays_4 : decode prog_12_method_83_code 4 = .ok (.iconst 3, 1) := by decide +kernel
theorem d_X10_lays_5 : decode prog_12_method_83_code 5 = .ok (.aload_n 0, 1) := by decide +kernel
theorem d_X10_lays_6 : decode prog_12_method_83_code 6 = .ok (.getfield 264, 3) := by decide +kernel
theorem d_X10_lays_9 : decode prog_12_method_83_code 9 = .ok (.imul, 1) := by decide +kernel
theorem d_X10_lays_10 : decode prog_12_method_83_code 10 = .ok (.iload_n 1, 1) := by decide +kernel
theorem d_X10_lays_11 : decode prog_12_method_83_code 11 = .ok (.iastore, 1) := by decide +kernel
theorem d_X10_lays_12 : decode prog_12_method_83_code 12 = .ok (.aload_n 0, 1) := by decide +kernel
theorem d_X10_lays_13 : decode prog_12_method_83_code 13 = .ok (.getfield 47, 3) := by decide +kernel
theorem d_X10_lays_16 : decode prog_12_method_83_code 16 = .ok (.iconst 3, 1) := by decide +kernel
theorem d_X10_lays_17 : decode prog_12_method_83_code 17 = .ok (.aload_n 0, 1) := by decide +kernel
theorem d_X10_lays_18 : decode prog_12_method_83_code 18 = .ok (.getfield 264, 3) := by decide +kernel
theorem d_X10_lays_21 : decode prog_12_method_83_code 21 = .ok (.imul, 1) := by decide +kernel
theorem d_X10_lays_22 : decode prog_12_method_83_code 22 = .ok (.iconst 1, 1) := by decide +kernel
theorem d_X10_lays_23 : decode prog_12_method_83_code 23 = .ok (.iadd, 1) := by decide +kernel
theorem d_X10_lays_24 : decode prog_12_method_83_code 24 = .ok (.aload_n 0, 1) := by decide +kernel
theorem d_X10_lays_25 : decode prog_12_method_83_code 25 = .ok (.getfield 146, 3) := by decide +kernel
theorem d_X10_lays_28 : decode prog_12_method_83_code 28 = .ok (.iastore, 1) := by decide +kernel
theorem d_X10_lays_29 : decode prog_12_method_83_code 29 = .ok (.aload_n 0, 1) := by decide +kernel
theorem d_X10_lays_30 : decode prog_12_method_83_code 30 = .ok (.getfield 47, 3) := by decide +kernel
theorem d_X10_lays_33 : decode prog_12_method_83_code 33 = .ok (.iconst 3, 1) := by decide +kernel
theorem d_X10_lays_34 : decode prog_12_method_83_code 34 = .ok (.aload_n 0, 1) := by decide +kernel
theorem d_X10_lays_35 : decode prog_12_method_83_code 35 = .ok (.getfield 264, 3) := by decide +kernel
theorem d_X10_lays_38 : decode prog_12_method_83_code 38 = .ok (.imul, 1) := by decide +kernel
theorem d_X10_lays_39 : decode prog_12_method_83_code 39 = .ok (.iconst 2, 1) := by decide +kernel
theorem d_X10_lays_40 : decode prog_12_method_83_code 40 = .ok (.iadd, 1) := by decide +kernel
theorem d_X10_lays_41 : decode prog_12_method_83_code 41 = .ok (.aload_n 0, 1) := by decide +kernel
theorem d_X10_lays_42 : decode prog_12_method_83_code 42 = .ok (.getfield 143, 3) := by decide +kernel
theorem d_X10_lays_45 : decode prog_12_method_83_code 45 = .ok (.iastore, 1) := by decide +kernel
theorem d_X10_lays_46 : decode prog_12_method_83_code 46 = .ok (.aload_n 0, 1) := by decide +kernel
theorem d_X10_lays_47 : decode prog_12_method_83_code 47 = .ok (.dup, 1) := by decide +kernel
theorem d_X10_lays_48 : decode prog_12_method_83_code 48 = .ok (.getfield 264, 3) := by decide +kernel
theorem d_X10_lays_51 : decode prog_12_method_83_code 51 = .ok (.iconst 1, 1) := by decide +kernel
theorem d_X10_lays_52 : decode prog_12_method_83_code 52 = .ok (.iadd, 1) := by decide +kernel
theorem d_X10_lays_53 : decode prog_12_method_83_code 53 = .ok (.putfield 264, 3) := by decide +kernel
theorem d_X10_lays_56 : decode prog_12_method_83_code 56 = .ok (.return_, 1) := by decide +kernel
theorem d_X10_prove_0 : decode prog_12_method_84_code 0 = .ok (.iload_n 1, 1) := by decide +kernel
theorem d_X10_prove_1 : decode prog_12_method_84_code 1 = .ok (.invokestatic 163, 3) := by decide +kernel
theorem d_X10_prove_4 : decode prog_12_method_84_code 4 = .ok (.ifCond .ne 5, 3) := by decide +kernel
theorem d_X10_prove_7 : decode prog_12_method_84_code 7 = .ok (.iconst (-1), 1) := by decide +kernel
theorem d_X10_prove_8 : decode prog_12_method_84_code 8 = .ok (.ireturn, 1) := by decide +kernel
theorem d_X10_prove_9 : decode prog_12_method_84_code 9 = .ok (.aload_n 0, 1) := by decide +kernel
theorem d_X10_prove_10 : decode prog_12_method_84_code 10 = .ok (.invokevirtual 166, 3) := by decide +kernel
theorem d_X10_prove_13 : decode prog_12_method_84_code 13 = .ok (.aload_n 0, 1) := by decide +kernel
theorem d_X10_prove_14 : decode prog_12_method_84_code 14 = .ok (.iload_n 1, 1) := by decide +kernel
theorem d_X10_prove_15 : decode prog_12_method_84_code 15 = .ok (.putfield 146, 3) := by decide +kernel
theorem d_X10_prove_18 : decode prog_12_method_84_code 18 = .ok (.aload_n 0, 1) := by decide +kernel
theorem d_X10_prove_19 : decode prog_12_method_84_code 19 = .ok (.iconst 0, 1) := by decide +kernel
theorem d_X10_prove_20 : decode prog_12_method_84_code 20 = .ok (.putfield 143, 3) := by decide +kernel
theorem d_X10_prove_23 : decode prog_12_method_84_code 23 = .ok (.aload_n 0, 1) := by decide +kernel
theorem d_X10_prove_24 : decode prog_12_method_84_code 24 = .ok (.iconst 0, 1) := by decide +kernel
theorem d_X10_prove_25 : decode prog_12_method_84_code 25 = .ok (.putfield 264, 3) := by decide +kernel
theorem d_X10_prove_28 : decode prog_12_method_84_code 28 = .ok (.aload_n 0, 1) := by decide +kernel
theorem d_X10_prove_29 : decode prog_12_method_84_code 29 = .ok (.bipush (-9), 2) := by decide +kernel
theorem d_X10_prove_31 : decode prog_12_method_84_code 31 = .ok (.invokevirtual 267, 3) := by decide +kernel
theorem d_X10_prove_34 : decode prog_12_method_84_code 34 = .ok (.iconst 0, 1) := by decide +kernel
theorem d_X10_prove_35 : decode prog_12_method_84_code 35 = .ok (.istore_n 2, 1) := by decide +kernel
theorem d_X10_prove_36 : decode prog_12_method_84_code 36 = .ok (.iload_n 2, 1) := by decide +kernel
theorem d_X10_prove_37 : decode prog_12_method_84_code 37 = .ok (.aload_n 0, 1) := by decide +kernel
theorem d_X10_prove_38 : decode prog_12_method_84_code 38 = .ok (.getfield 135, 3) := by decide +kernel
theorem d_X10_prove_41 : decode prog_12_method_84_code 41 = .ok (.if_icmp .ge 40, 3) := by decide +kernel
theorem d_X10_prove_44 : decode prog_12_method_84_code 44 = .ok (.aload_n 0, 1) := by decide +kernel
theorem d_X10_prove_45 : decode prog_12_method_84_code 45 = .ok (.aload_n 0, 1) := by decide +kernel
theorem d_X10_prove_46 : decode prog_12_method_84_code 46 = .ok (.getfield 25, 3) := by decide +kernel
theorem d_X10_prove_49 : decode prog_12_method_84_code 49 = .ok (.iload_n 2, 1) := by decide +kernel
theorem d_X10_prove_50 : decode prog_12_method_84_code 50 = .ok (.iaload, 1) := by decide +kernel
theorem d_X10_prove_51 : decode prog_12_method_84_code 51 = .ok (.aload_n 0, 1) := by decide +kernel
theorem d_X10_prove_52 : decode prog_12_method_84_code 52 = .ok (.getfield 28, 3) := by decide +kernel
theorem d_X10_prove_55 : decode prog_12_method_84_code 55 = .ok (.iload_n 2, 1) := by decide +kernel
theorem d_X10_prove_56 : decode prog_12_method_84_code 56 = .ok (.iaload, 1) := by decide +kernel
theorem d_X10_prove_57 : decode prog_12_method_84_code 57 = .ok (.invokevirtual 149, 3) := by decide +kernel
theorem d_X10_prove_60 : decode prog_12_method_84_code 60 = .ok (.aload_n 0, 1) := by decide +kernel
theorem d_X10_prove_61 : decode prog_12_method_84_code 61 = .ok (.aload_n 0, 1) := by decide +kernel
theorem d_X10_prove_62 : decode prog_12_method_84_code 62 = .ok (.getfield 7, 3) := by decide +kernel
theorem d_X10_prove_65 : decode prog_12_method_84_code 65 = .ok (.bipush 45, 2) := by decide +kernel
theorem d_X10_prove_67 : decode prog_12_method_84_code 67 = .ok (.iconst 2, 1) := by decide +kernel
theorem d_X10_prove_68 : decode prog_12_method_84_code 68 = .ok (.iload_n 2, 1) := by decide +kernel
theorem d_X10_prove_69 : decode prog_12_method_84_code 69 = .ok (.imul, 1) := by decide +kernel
theorem d_X10_prove_70 : decode prog_12_method_84_code 70 = .ok (.iadd, 1) := by decide +kernel
theorem d_X10_prove_71 : decode prog_12_method_84_code 71 = .ok (.iaload, 1) := by decide +kernel
theorem d_X10_prove_72 : decode prog_12_method_84_code 72 = .ok (.invokevirtual 267, 3) := by decide +kernel
theorem d_X10_prove_75 : decode prog_12_method_84_code 75 = .ok (.iinc 2 1, 3) := by decide +kernel
theorem d_X10_prove_78 : decode prog_12_method_84_code 78 = .ok (.goto (-42), 3) := by decide +kernel
theorem d_X10_prove_81 : decode prog_12_method_84_code 81 = .ok (.aload_n 0, 1) := by decide +kernel
theorem d_X10_prove_82 : decode prog_12_method_84_code 82 = .ok (.aload_n 0, 1) := by decide +kernel
theorem d_X10_prove_83 : decode prog_12_method_84_code 83 = .ok (.getfield 7, 3) := by decide +kernel
theorem d_X10_prove_86 : decode prog_12_method_84_code 86 = .ok (.bipush 6, 2) := by decide +kernel
theorem d_X10_prove_88 : decode prog_12_method_84_code 88 = .ok (.iaload, 1) := by decide +kernel
theorem d_X10_prove_89 : decode prog_12_method_84_code 89 = .ok (.iconst 0, 1) := by decide +kernel
theorem d_X10_prove_90 : decode prog_12_method_84_code 90 = .ok (.invokevirtual 149, 3) := by decide +kernel
theorem d_X10_prove_93 : decode prog_12_method_84_code 93 = .ok (.aload_n 0, 1) := by decide +kernel
theorem d_X10_prove_94 : decode prog_12_method_84_code 94 = .ok (.bipush 9, 2) := by decide +kernel
theorem d_X10_prove_96 : decode prog_12_method_84_code 96 = .ok (.invokevirtual 267, 3) := by decide +kernel
theorem d_X10_prove_99 : decode prog_12_method_84_code 99 = .ok (.aload_n 0, 1) := by decide +kernel
theorem d_X10_prove_100 : decode prog_12_method_84_code 100 = .ok (.getfield 264, 3) := by decide +kernel
theorem d_X10_prove_103 : decode prog_12_method_84_code 103 = .ok (.ireturn, 1) := by decide +kernel
theorem d_X10_isRow_0 : decode prog_12_method_85_code 0 = .ok (.iload_n 1, 1) := by decide +kernel
theorem d_X10_isRow_1 : decode prog_12_method_85_code 1 = .ok (.i2l, 1) := by decide +kernel
theorem d_X10_isRow_2 : decode prog_12_method_85_code 2 = .ok (.lconst 0, 1) := by decide +kernel
theorem d_X10_isRow_3 : decode prog_12_method_85_code 3 = .ok (.aload_n 0, 1) := by decide +kernel
theorem d_X10_isRow_4 : decode prog_12_method_85_code 4 = .ok (.getfield 264, 3) := by decide +kernel
theorem d_X10_isRow_7 : decode prog_12_method_85_code 7 = .ok (.iconst 1, 1) := by decide +kernel
theorem d_X10_isRow_8 : decode prog_12_method_85_code 8 = .ok (.isub, 1) := by decide +kernel
theorem d_X10_isRow_9 : decode prog_12_method_85_code 9 = .ok (.i2l, 1) := by decide +kernel
theorem d_X10_isRow_10 : decode prog_12_method_85_code 10 = .ok (.invokestatic 74, 3) := by decide +kernel
theorem d_X10_isRow_13 : decode prog_12_method_85_code 13 = .ok (.ifCond .eq 19, 3) := by decide +kernel
theorem d_X10_isRow_16 : decode prog_12_method_85_code 16 = .ok (.iload_n 2, 1) := by decide +kernel
theorem d_X10_isRow_17 : decode prog_12_method_85_code 17 = .ok (.i2l, 1) := by decide +kernel
theorem d_X10_isRow_18 : decode prog_12_method_85_code 18 = .ok (.lconst 0, 1) := by decide +kernel
theorem d_X10_isRow_19 : decode prog_12_method_85_code 19 = .ok (.ldc2_w 247, 3) := by decide +kernel
theorem d_X10_isRow_22 : decode prog_12_method_85_code 22 = .ok (.invokestatic 74, 3) := by decide +kernel
theorem d_X10_isRow_25 : decode prog_12_method_85_code 25 = .ok (.ifCond .eq 7, 3) := by decide +kernel
theorem d_X10_isRow_28 : decode prog_12_method_85_code 28 = .ok (.iconst 1, 1) := by decide +kernel
theorem d_X10_isRow_29 : decode prog_12_method_85_code 29 = .ok (.goto 4, 3) := by decide +kernel
theorem d_X10_isRow_32 : decode prog_12_method_85_code 32 = .ok (.iconst 0, 1) := by decide +kernel
theorem d_X10_isRow_33 : decode prog_12_method_85_code 33 = .ok (.ireturn, 1) := by decide +kernel
theorem d_X10_row_0 : decode prog_12_method_86_code 0 = .ok (.aload_n 0, 1) := by decide +kernel
theorem d_X10_row_1 : decode prog_12_method_86_code 1 = .ok (.iload_n 1, 1) := by decide +kernel
theorem d_X10_row_2 : decode prog_12_method_86_code 2 = .ok (.iload_n 2, 1) := by decide +kernel
theorem d_X10_row_3 : decode prog_12_method_86_code 3 = .ok (.invokevirtual 270, 3) := by decide +kernel
theorem d_X10_row_6 : decode prog_12_method_86_code 6 = .ok (.ifCond .eq 16, 3) := by decide +kernel
theorem d_X10_row_9 : decode prog_12_method_86_code 9 = .ok (.aload_n 0, 1) := by decide +kernel
theorem d_X10_row_10 : decode prog_12_method_86_code 10 = .ok (.getfield 47, 3) := by decide +kernel
theorem d_X10_row_13 : decode prog_12_method_86_code 13 = .ok (.iconst 3, 1) := by decide +kernel
theorem d_X10_row_14 : decode prog_12_method_86_code 14 = .ok (.iload_n 1, 1) := by decide +kernel
theorem d_X10_row_15 : decode prog_12_method_86_code 15 = .ok (.imul, 1) := by decide +kernel
theorem d_X10_row_16 : decode prog_12_method_86_code 16 = .ok (.iload_n 2, 1) := by decide +kernel
theorem d_X10_row_17 : decode prog_12_method_86_code 17 = .ok (.iadd, 1) := by decide +kernel
theorem d_X10_row_18 : decode prog_12_method_86_code 18 = .ok (.iaload, 1) := by decide +kernel
theorem d_X10_row_19 : decode prog_12_method_86_code 19 = .ok (.goto 5, 3) := by decide +kernel
theorem d_X10_row_22 : decode prog_12_method_86_code 22 = .ok (.bipush (-9), 2) := by decide +kernel
theorem d_X10_row_24 : decode prog_12_method_86_code 24 = .ok (.ireturn, 1) := by decide +kernel
theorem d_X10_alterRow_0 : decode prog_12_method_87_code 0 = .ok (.aload_n 0, 1) := by decide +kernel
theorem d_X10_alterRow_1 : decode prog_12_method_87_code 1 = .ok (.iload_n 1, 1) := by decide +kernel
theorem d_X10_alterRow_2 : decode prog_12_method_87_code 2 = .ok (.iload_n 2, 1) := by decide +kernel
theorem d_X10_alterRow_3 : decode prog_12_method_87_code 3 = .ok (.invokevirtual 270, 3) := by decide +kernel
theorem d_X10_alterRow_6 : decode prog_12_method_87_code 6 = .ok (.ifCond .ne 5, 3) := by decide +kernel
theorem d_X10_alterRow_9 : decode prog_12_method_87_code 9 = .ok (.iconst 0, 1) := by decide +kernel
theorem d_X10_alterRow_10 : decode prog_12_method_87_code 10 = .ok (.ireturn, 1) := by decide +kernel
theorem d_X10_alterRow_11 : decode prog_12_method_87_code 11 = .ok (.aload_n 0, 1) := by decide +kernel
theorem d_X10_alterRow_12 : decode prog_12_method_87_code 12 = .ok (.getfield 47, 3) := by decide +kernel
theorem d_X10_alterRow_15 : decode prog_12_method_87_code 15 = .ok (.iconst 3, 1) := by decide +kernel
theorem d_X10_alterRow_16 : decode prog_12_method_87_code 16 = .ok (.iload_n 1, 1) := by decide +kernel
theorem d_X10_alterRow_17 : decode prog_12_method_87_code 17 = .ok (.imul, 1) := by decide +kernel
theorem d_X10_alterRow_18 : decode prog_12_method_87_code 18 = .ok (.iload_n 2, 1) := by decide +kernel
theorem d_X10_alterRow_19 : decode prog_12_method_87_code 19 = .ok (.iadd, 1) := by decide +kernel
theorem d_X10_alterRow_20 : decode prog_12_method_87_code 20 = .ok (.iaload, 1) := by decide +kernel
theorem d_X10_alterRow_21 : decode prog_12_method_87_code 21 = .ok (.istore 4, 2) := by decide +kernel
theorem d_X10_alterRow_23 : decode prog_12_method_87_code 23 = .ok (.aload_n 0, 1) := by decide +kernel
theorem d_X10_alterRow_24 : decode prog_12_method_87_code 24 = .ok (.getfield 47, 3) := by decide +kernel
theorem d_X10_alterRow_27 : decode prog_12_method_87_code 27 = .ok (.iconst 3, 1) := by decide +kernel
theorem d_X10_alterRow_28 : decode prog_12_method_87_code 28 = .ok (.iload_n 1, 1) := by decide +kernel
theorem d_X10_alterRow_29 : decode prog_12_method_87_code 29 = .ok (.imul, 1) := by decide +kernel
theorem d_X10_alterRow_30 : decode prog_12_method_87_code 30 = .ok (.iload_n 2, 1) := by decide +kernel
theorem d_X10_alterRow_31 : decode prog_12_method_87_code 31 = .ok (.iadd, 1) := by decide +kernel
theorem d_X10_alterRow_32 : decode prog_12_method_87_code 32 = .ok (.iload_n 3, 1) := by decide +kernel
theorem d_X10_alterRow_33 : decode prog_12_method_87_code 33 = .ok (.iastore, 1) := by decide +kernel
theorem d_X10_alterRow_34 : decode prog_12_method_87_code 34 = .ok (.iload 4, 2) := by decide +kernel
theorem d_X10_alterRow_36 : decode prog_12_method_87_code 36 = .ok (.iload_n 3, 1) := by decide +kernel
theorem d_X10_alterRow_37 : decode prog_12_method_87_code 37 = .ok (.if_icmp .ne 7, 3) := by decide +kernel
theorem d_X10_alterRow_40 : decode prog_12_method_87_code 40 = .ok (.iconst 1, 1) := by decide +kernel
theorem d_X10_alterRow_41 : decode prog_12_method_87_code 41 = .ok (.goto 4, 3) := by decide +kernel
theorem d_X10_alterRow_44 : decode prog_12_method_87_code 44 = .ok (.iconst 2, 1) := by decide +kernel
theorem d_X10_alterRow_45 : decode prog_12_method_87_code 45 = .ok (.ireturn, 1) := by decide +kernel
theorem d_X10_judge_0 : decode prog_12_method_88_code 0 = .ok (.aload_n 0, 1) := by decide +kernel
theorem d_X10_judge_1 : decode prog_12_method_88_code 1 = .ok (.invokevirtual 166, 3) := by decide +kernel
theorem d_X10_judge_4 : decode prog_12_method_88_code 4 = .ok (.iconst 0, 1) := by decide +kernel
theorem d_X10_judge_5 : decode prog_12_method_88_code 5 = .ok (.istore_n 1, 1) := by decide +kernel
theorem d_X10_judge_6 : decode prog_12_method_88_code 6 = .ok (.iconst 0, 1) := by decide +kernel
theorem d_X10_judge_7 : decode prog_12_method_88_code 7 = .ok (.istore_n 2, 1) := by decide +kernel
theorem d_X10_judge_8 : decode prog_12_method_88_code 8 = .ok (.iload_n 2, 1) := by decide +kernel
theorem d_X10_judge_9 : decode prog_12_method_88_code 9 = .ok (.aload_n 0, 1) := by decide +kernel
theorem d_X10_judge_10 : decode prog_12_method_88_code 10 = .ok (.getfield 264, 3) := by decide +kernel
theorem d_X10_judge_13 : decode prog_12_method_88_code 13 = .ok (.if_icmp .ge 270, 3) := by decide +kernel
theorem d_X10_judge_16 : decode prog_12_method_88_code 16 = .ok (.iload_n 1, 1) := by decide +kernel
theorem d_X10_judge_17 : decode prog_12_method_88_code 17 = .ok (.ifCond .ne 266, 3) := by decide +kernel
theorem d_X10_judge_20 : decode prog_12_method_88_code 20 = .ok (.iload_n 2, 1) := by decide +kernel
theorem d_X10_judge_21 : decode prog_12_method_88_code 21 = .ok (.aload_n 0, 1) := by decide +kernel
theorem d_X10_judge_22 : decode prog_12_method_88_code 22 = .ok (.getfield 135, 3) := by decide +kernel
theorem d_X10_judge_25 : decode prog_12_method_88_code 25 = .ok (.iconst 1, 1) := by decide +kernel
theorem d_X10_judge_26 : decode prog_12_method_88_code 26 = .ok (.iadd, 1) := by decide +kernel
theorem d_X10_judge_27 : decode prog_12_method_88_code 27 = .ok (.if_icmp .gt 7, 3) := by decide +kernel
theorem d_X10_judge_30 : decode prog_12_method_88_code 30 = .ok (.iconst 1, 1) := by decide +kernel
theorem d_X10_judge_31 : decode prog_12_method_88_code 31 = .ok (.goto 4, 3) := by decide +kernel
theorem d_X10_judge_34 : decode prog_12_method_88_code 34 = .ok (.iconst 0, 1) := by decide +kernel
theorem d_X10_judge_35 : decode prog_12_method_88_code 35 = .ok (.istore_n 3, 1) := by decide +kernel
theorem d_X10_judge_36 : decode prog_12_method_88_code 36 = .ok (.iload_n 2, 1) := by decide +kernel
theorem d_X10_judge_37 : decode prog_12_method_88_code 37 = .ok (.ifCond .ne 59, 3) := by decide +kernel
theorem d_X10_judge_40 : decode prog_12_method_88_code 40 = .ok (.aload_n 0, 1) := by decide +kernel
theorem d_X10_judge_41 : decode prog_12_method_88_code 41 = .ok (.getfield 47, 3) := by decide +kernel
theorem d_X10_judge_44 : decode prog_12_method_88_code 44 = .ok (.iconst 0, 1) := by decide +kernel
theorem d_X10_judge_45 : decode prog_12_method_88_code 45 = .ok (.iaload, 1) := by decide +kernel
theorem d_X10_judge_46 : decode prog_12_method_88_code 46 = .ok (.bipush (-9), 2) := by decide +kernel
theorem d_X10_judge_48 : decode prog_12_method_88_code 48 = .ok (.if_icmp .ne 28, 3) := by decide +kernel
theorem d_X10_judge_51 : decode prog_12_method_88_code 51 = .ok (.aload_n 0, 1) := by decide +kernel
theorem d_X10_judge_52 : decode prog_12_method_88_code 52 = .ok (.getfield 47, 3) := by decide +kernel
theorem d_X10_judge_55 : decode prog_12_method_88_code 55 = .ok (.iconst 1, 1) := by decide +kernel
theorem d_X10_judge_56 : decode prog_12_method_88_code 56 = .ok (.iaload, 1) := by decide +kernel
theorem d_X10_judge_57 : decode prog_12_method_88_code 57 = .ok (.invokestatic 163, 3) := by decide +kernel
theorem d_X10_judge_60 : decode prog_12_method_88_code 60 = .ok (.ifCond .eq 16, 3) := by decide +kernel
theorem d_X10_judge_63 : decode prog_12_method_88_code 63 = .ok (.aload_n 0, 1) := by decide +kernel
theorem d_X10_judge_64 : decode prog_12_method_88_code 64 = .ok (.getfield 47, 3) := by decide +kernel
theorem d_X10_judge_67 : decode prog_12_method_88_code 67 = .ok (.iconst 2, 1) := by decide +kernel
theorem d_X10_judge_68 : decode prog_12_method_88_code 68 = .ok (.iaload, 1) := by decide +kernel
theorem d_X10_judge_69 : decode prog_12_method_88_code 69 = .ok (.ifCond .ne 7, 3) := by decide +kernel
theorem d_X10_judge_72 : decode prog_12_method_88_code 72 = .ok (.iconst 1, 1) := by decide +kernel
theorem d_X10_judge_73 : decode prog_12_method_88_code 73 = .ok (.goto 4, 3) := by decide +kernel
theorem d_X10_judge_76 : decode prog_12_method_88_code 76 = .ok (.iconst 0, 1) := by decide +kernel
theorem d_X10_judge_77 : decode prog_12_method_88_code 77 = .ok (.istore_n 3, 1) := by decide +kernel
theorem d_X10_judge_78 : decode prog_12_method_88_code 78 = .ok (.aload_n 0, 1) := by decide +kernel
theorem d_X10_judge_79 : decode prog_12_method_88_code 79 = .ok (.aload_n 0, 1) := by decide +kernel
theorem d_X10_judge_80 : decode prog_12_method_88_code 80 = .ok (.getfield 47, 3) := by decide +kernel
theorem d_X10_judge_83 : decode prog_12_method_88_code 83 = .ok (.iconst 1, 1) := by decide +kernel
theorem d_X10_judge_84 : decode prog_12_method_88_code 84 = .ok (.iaload, 1) := by decide +kernel
theorem d_X10_judge_85 : decode prog_12_method_88_code 85 = .ok (.putfield 146, 3) := by decide +kernel
theorem d_X10_judge_88 : decode prog_12_method_88_code 88 = .ok (.aload_n 0, 1) := by decide +kernel
theorem d_X10_judge_89 : decode prog_12_method_88_code 89 = .ok (.iconst 0, 1) := by decide +kernel
theorem d_X10_judge_90 : decode prog_12_method_88_code 90 = .ok (.putfield 143, 3) := by decide +kernel
theorem d_X10_judge_93 : decode prog_12_method_88_code 93 = .ok (.goto 142, 3) := by decide +kernel
theorem d_X10_judge_96 : decode prog_12_method_88_code 96 = .ok (.iload_n 3, 1) := by decide +kernel
theorem d_X10_judge_97 : decode prog_12_method_88_code 97 = .ok (.ifCond .eq 138, 3) := by decide +kernel
theorem d_X10_judge_100 : decode prog_12_method_88_code 100 = .ok (.iload_n 2, 1) := by decide +kernel
theorem d_X10_judge_101 : decode prog_12_method_88_code 101 = .ok (.aload_n 0, 1) := by decide +kernel
theorem d_X10_judge_102 : decode prog_12_method_88_code 102 = .ok (.getfield 135, 3) := by decide +kernel
theorem d_X10_judge_105 : decode prog_12_method_88_code 105 = .ok (.iconst 1, 1) := by decide +kernel
theorem d_X10_judge_106 : decode prog_12_method_88_code 106 = .ok (.iadd, 1) := by decide +kernel
theorem d_X10_judge_107 : decode prog_12_method_88_code 107 = .ok (.if_icmp .ne 7, 3) := by decide +kernel
theorem d_X10_judge_110 : decode prog_12_method_88_code 110 = .ok (.iconst 1, 1) := by decide +kernel
theorem d_X10_judge_111 : decode prog_12_method_88_code 111 = .ok (.goto 4, 3) := by decide +kernel
theorem d_X10_judge_114 : decode prog_12_method_88_code 114 = .ok (.iconst 0, 1) := by decide +kernel
theorem d_X10_judge_115 : decode prog_12_method_88_code 115 = .ok (.istore 4, 2) := by decide +kernel
theorem d_X10_judge_117 : decode prog_12_method_88_code 117 = .ok (.aload_n 0, 1) := by decide +kernel
theorem d_X10_judge_118 : decode prog_12_method_88_code 118 = .ok (.iload 4, 2) := by decide +kernel
theorem d_X10_judge_120 : decode prog_12_method_88_code 120 = .ok (.ifCond .eq 13, 3) := by decide +kernel
theorem d_X10_judge_123 : decode prog_12_method_88_code 123 = .ok (.aload_n 0, 1) := by decide +kernel
theorem d_X10_judge_124 : decode prog_12_method_88_code 124 = .ok (.getfield 7, 3) := by decide +kernel
theorem d_X10_judge_127 : decode prog_12_method_88_code 127 = .ok (.bipush 6, 2) := by decide +kernel
theorem d_X10_judge_129 : decode prog_12_method_88_code 129 = .ok (.iaload, 1) := by decide +kernel
theorem d_X10_judge_130 : decode prog_12_method_88_code 130 = .ok (.goto 11, 3) := by decide +kernel
theorem d_X10_judge_133 : decode prog_12_method_88_code 133 = .ok (.aload_n 0, 1) := by decide +kernel
theorem d_X10_judge_134 : decode prog_12_method_88_code 134 = .ok (.getfield 25, 3) := by decide +kernel
theorem d_X10_judge_137 : decode prog_12_method_88_code 137 = .ok (.iload_n 2, 1) := by decide +kernel
theorem d_X10_judge_138 : decode prog_12_method_88_code 138 = .ok (.iconst 1, 1) := by decide +kernel
theorem d_X10_judge_139 : decode prog_12_method_88_code 139 = .ok (.isub, 1) := by decide +kernel
theorem d_X10_judge_140 : decode prog_12_method_88_code 140 = .ok (.iaload, 1) := by decide +kernel
theorem d_X10_judge_141 : decode prog_12_method_88_code 141 = .ok (.iload 4, 2) := by decide +kernel
theorem d_X10_judge_143 : decode prog_12_method_88_code 143 = .ok (.ifCond .eq 7, 3) := by decide +kernel
theorem d_X10_judge_146 : decode prog_12_method_88_code 146 = .ok (.iconst 0, 1) := by decide +kernel
theorem d_X10_judge_147 : decode prog_12_method_88_code 147 = .ok (.goto 11, 3) := by decide +kernel
theorem d_X10_judge_150 : decode prog_12_method_88_code 150 = .ok (.aload_n 0, 1) := by decide +kernel
theorem d_X10_judge_151 : decode prog_12_method_88_code 151 = .ok (.getfield 28, 3) := by decide +kernel
theorem d_X10_judge_154 : decode prog_12_method_88_code 154 = .ok (.iload_n 2, 1) := by decide +kernel
theorem d_X10_judge_155 : decode prog_12_method_88_code 155 = .ok (.iconst 1, 1) := by decide +kernel
theorem d_X10_judge_156 : decode prog_12_method_88_code 156 = .ok (.isub, 1) := by decide +kernel
theorem d_X10_judge_157 : decode prog_12_method_88_code 157 = .ok (.iaload, 1) := by decide +kernel
theorem d_X10_judge_158 : decode prog_12_method_88_code 158 = .ok (.invokevirtual 149, 3) := by decide +kernel
theorem d_X10_judge_161 : decode prog_12_method_88_code 161 = .ok (.aload_n 0, 1) := by decide +kernel
theorem d_X10_judge_162 : decode prog_12_method_88_code 162 = .ok (.getfield 47, 3) := by decide +kernel
theorem d_X10_judge_165 : decode prog_12_method_88_code 165 = .ok (.iconst 3, 1) := by decide +kernel
theorem d_X10_judge_166 : decode prog_12_method_88_code 166 = .ok (.iload_n 2, 1) := by decide +kernel
theorem d_X10_judge_167 : decode prog_12_method_88_code 167 = .ok (.imul, 1) := by decide +kernel
theorem d_X10_judge_168 : decode prog_12_method_88_code 168 = .ok (.iaload, 1) := by decide +kernel
theorem d_X10_judge_169 : decode prog_12_method_88_code 169 = .ok (.iload 4, 2) := by decide +kernel
theorem d_X10_judge_171 : decode prog_12_method_88_code 171 = .ok (.ifCond .eq 8, 3) := by decide +kernel
theorem d_X10_judge_174 : decode prog_12_method_88_code 174 = .ok (.bipush 9, 2) := by decide +kernel
theorem d_X10_judge_176 : decode prog_12_method_88_code 176 = .ok (.goto 16, 3) := by decide +kernel
theorem d_X10_judge_179 : decode prog_12_method_88_code 179 = .ok (.aload_n 0, 1) := by decide +kernel
theorem d_X10_judge_180 : decode prog_12_method_88_code 180 = .ok (.getfield 7, 3) := by decide +kernel
theorem d_X10_judge_183 : decode prog_12_method_88_code 183 = .ok (.bipush 45, 2) := by decide +kernel
theorem d_X10_judge_185 : decode prog_12_method_88_code 185 = .ok (.iconst 2, 1) := by decide +kernel
theorem d_X10_judge_186 : decode prog_12_method_88_code 186 = .ok (.iload_n 2, 1) := by decide +kernel
theorem d_X10_judge_187 : decode prog_12_method_88_code 187 = .ok (.imul, 1) := by decide +kernel
theorem d_X10_judge_188 : decode prog_12_method_88_code 188 = .ok (.iadd, 1) := by decide +kernel
theorem d_X10_judge_189 : decode prog_12_method_88_code 189 = .ok (.iconst 2, 1) := by decide +kernel
theorem d_X10_judge_190 : decode prog_12_method_88_code 190 = .ok (.isub, 1) := by decide +kernel
theorem d_X10_judge_191 : decode prog_12_method_88_code 191 = .ok (.iaload, 1) := by decide +kernel
theorem d_X10_judge_192 : decode prog_12_method_88_code 192 = .ok (.if_icmp .ne 41, 3) := by decide +kernel
theorem d_X10_judge_195 : decode prog_12_method_88_code 195 = .ok (.aload_n 0, 1) := by decide +kernel
theorem d_X10_judge_196 : decode prog_12_method_88_code 196 = .ok (.getfield 47, 3) := by decide +kernel
theorem d_X10_judge_199 : decode prog_12_method_88_code 199 = .ok (.iconst 3, 1) := by decide +kernel
theorem d_X10_judge_200 : decode prog_12_method_88_code 200 = .ok (.iload_n 2, 1) := by decide +kernel
theorem d_X10_judge_201 : decode prog_12_method_88_code 201 = .ok (.imul, 1) := by decide +kernel
theorem d_X10_judge_202 : decode prog_12_method_88_code 202 = .ok (.iconst 1, 1) := by decide +kernel
theorem d_X10_judge_203 : decode prog_12_method_88_code 203 = .ok (.iadd, 1) := by decide +kernel
theorem d_X10_judge_204 : decode prog_12_method_88_code 204 = .ok (.iaload, 1) := by decide +kernel
theorem d_X10_judge_205 : decode prog_12_method_88_code 205 = .ok (.aload_n 0, 1) := by decide +kernel
theorem d_X10_judge_206 : decode prog_12_method_88_code 206 = .ok (.getfield 146, 3) := by decide +kernel
theorem d_X10_judge_209 : decode prog_12_method_88_code 209 = .ok (.if_icmp .ne 24, 3) := by decide +kernel
theorem d_X10_judge_212 : decode prog_12_method_88_code 212 = .ok (.aload_n 0, 1) := by decide +kernel
theorem d_X10_judge_213 : decode prog_12_method_88_code 213 = .ok (.getfield 47, 3) := by decide +kernel
theorem d_X10_judge_216 : decode prog_12_method_88_code 216 = .ok (.iconst 3, 1) := by decide +kernel
theorem d_X10_judge_217 : decode prog_12_method_88_code 217 = .ok (.iload_n 2, 1) := by decide +kernel
theorem d_X10_judge_218 : decode prog_12_method_88_code 218 = .ok (.imul, 1) := by decide +kernel
theorem d_X10_judge_219 : decode prog_12_method_88_code 219 = .ok (.iconst 2, 1) := by decide +kernel
theorem d_X10_judge_220 : decode prog_12_method_88_code 220 = .ok (.iadd, 1) := by decide +kernel
theorem d_X10_judge_221 : decode prog_12_method_88_code 221 = .ok (.iaload, 1) := by decide +kernel
theorem d_X10_judge_222 : decode prog_12_method_88_code 222 = .ok (.aload_n 0, 1) := by decide +kernel
theorem d_X10_judge_223 : decode prog_12_method_88_code 223 = .ok (.getfield 143, 3) := by decide +kernel
theorem d_X10_judge_226 : decode prog_12_method_88_code 226 = .ok (.if_icmp .ne 7, 3) := by decide +kernel
theorem d_X10_judge_229 : decode prog_12_method_88_code 229 = .ok (.iconst 1, 1) := by decide +kernel
theorem d_X10_judge_230 : decode prog_12_method_88_code 230 = .ok (.goto 4, 3) := by decide +kernel
theorem d_X10_judge_233 : decode prog_12_method_88_code 233 = .ok (.iconst 0, 1) := by decide +kernel
theorem d_X10_judge_234 : decode prog_12_method_88_code 234 = .ok (.istore_n 3, 1) := by decide +kernel
theorem d_X10_judge_235 : decode prog_12_method_88_code 235 = .ok (.iload_n 3, 1) := by decide +kernel
theorem d_X10_judge_236 : decode prog_12_method_88_code 236 = .ok (.ifCond .eq 27, 3) := by decide +kernel
theorem d_X10_judge_239 : decode prog_12_method_88_code 239 = .ok (.iload_n 2, 1) := by decide +kernel
theorem d_X10_judge_240 : decode prog_12_method_88_code 240 = .ok (.aload_n 0, 1) := by decide +kernel
theorem d_X10_judge_241 : decode prog_12_method_88_code 241 = .ok (.getfield 264, 3) := by decide +kernel
theorem d_X10_judge_244 : decode prog_12_method_88_code 244 = .ok (.iconst 1, 1) := by decide +kernel
theorem d_X10_judge_245 : decode prog_12_method_88_code 245 = .ok (.isub, 1) := by decide +kernel
theorem d_X10_judge_246 : decode prog_12_method_88_code 246 = .ok (.if_icmp .lt 13, 3) := by decide +kernel
theorem d_X10_judge_249 : decode prog_12_method_88_code 249 = .ok (.iload_n 2, 1) := by decide +kernel
theorem d_X10_judge_250 : decode prog_12_method_88_code 250 = .ok (.aload_n 0, 1) := by decide +kernel
theorem d_X10_judge_251 : decode prog_12_method_88_code 251 = .ok (.getfield 135, 3) := by decide +kernel
theorem d_X10_judge_254 : decode prog_12_method_88_code 254 = .ok (.iconst 1, 1) := by decide +kernel
theorem d_X10_judge_255 : decode prog_12_method_88_code 255 = .ok (.iadd, 1) := by decide +kernel
theorem d_X10_judge_256 : decode prog_12_method_88_code 256 = .ok (.if_icmp .ne 7, 3) := by decide +kernel
theorem d_X10_judge_259 : decode prog_12_method_88_code 259 = .ok (.iconst 1, 1) := by decide +kernel
theorem d_X10_judge_260 : decode prog_12_method_88_code 260 = .ok (.goto 4, 3) := by decide +kernel
theorem d_X10_judge_263 : decode prog_12_method_88_code 263 = .ok (.iconst 0, 1) := by decide +kernel
theorem d_X10_judge_264 : decode prog_12_method_88_code 264 = .ok (.istore_n 3, 1) := by decide +kernel
theorem d_X10_judge_265 : decode prog_12_method_88_code 265 = .ok (.iload_n 3, 1) := by decide +kernel
theorem d_X10_judge_266 : decode prog_12_method_88_code 266 = .ok (.ifCond .eq 7, 3) := by decide +kernel
theorem d_X10_judge_269 : decode prog_12_method_88_code 269 = .ok (.iconst 0, 1) := by decide +kernel
theorem d_X10_judge_270 : decode prog_12_method_88_code 270 = .ok (.goto 6, 3) := by decide +kernel
theorem d_X10_judge_273 : decode prog_12_method_88_code 273 = .ok (.iload_n 2, 1) := by decide +kernel
theorem d_X10_judge_274 : decode prog_12_method_88_code 274 = .ok (.iconst 1, 1) := by decide +kernel
theorem d_X10_judge_275 : decode prog_12_method_88_code 275 = .ok (.iadd, 1) := by decide +kernel
theorem d_X10_judge_276 : decode prog_12_method_88_code 276 = .ok (.istore_n 1, 1) := by decide +kernel
theorem d_X10_judge_277 : decode prog_12_method_88_code 277 = .ok (.iinc 2 1, 3) := by decide +kernel
theorem d_X10_judge_280 : decode prog_12_method_88_code 280 = .ok (.goto (-272), 3) := by decide +kernel
theorem d_X10_judge_283 : decode prog_12_method_88_code 283 = .ok (.iload_n 1, 1) := by decide +kernel
theorem d_X10_judge_284 : decode prog_12_method_88_code 284 = .ok (.ireturn, 1) := by decide +kernel
theorem d_X10_feed_0 : decode prog_12_method_89_code 0 = .ok (.iload_n 3, 1) := by decide +kernel
theorem d_X10_feed_1 : decode prog_12_method_89_code 1 = .ok (.i2l, 1) := by decide +kernel
theorem d_X10_feed_2 : decode prog_12_method_89_code 2 = .ok (.lconst 1, 1) := by decide +kernel
theorem d_X10_feed_3 : decode prog_12_method_89_code 3 = .ok (.ldc2_w 273, 3) := by decide +kernel
theorem d_X10_feed_6 : decode prog_12_method_89_code 6 = .ok (.invokestatic 74, 3) := by decide +kernel
theorem d_X10_feed_9 : decode prog_12_method_89_code 9 = .ok (.ifCond .ne 5, 3) := by decide +kernel
theorem d_X10_feed_12 : decode prog_12_method_89_code 12 = .ok (.iconst (-1), 1) := by decide +kernel
theorem d_X10_feed_13 : decode prog_12_method_89_code 13 = .ok (.ireturn, 1) := by decide +kernel
theorem d_X10_feed_14 : decode prog_12_method_89_code 14 = .ok (.aload_n 0, 1) := by decide +kernel
theorem d_X10_feed_15 : decode prog_12_method_89_code 15 = .ok (.getfield 275, 3) := by decide +kernel
theorem d_X10_feed_18 : decode prog_12_method_89_code 18 = .ok (.iload_n 3, 1) := by decide +kernel
theorem d_X10_feed_19 : decode prog_12_method_89_code 19 = .ok (.iadd, 1) := by decide +kernel
theorem d_X10_feed_20 : decode prog_12_method_89_code 20 = .ok (.sipush 200, 3) := by decide +kernel
theorem d_X10_feed_23 : decode prog_12_method_89_code 23 = .ok (.if_icmp .le 6, 3) := by decide +kernel
theorem d_X10_feed_26 : decode prog_12_method_89_code 26 = .ok (.bipush (-2), 2) := by decide +kernel
theorem d_X10_feed_28 : decode prog_12_method_89_code 28 = .ok (.ireturn, 1) := by decide +kernel
theorem d_X10_feed_29 : decode prog_12_method_89_code 29 = .ok (.iconst 0, 1) := by decide +kernel
theorem d_X10_feed_30 : decode prog_12_method_89_code 30 = .ok (.istore 4, 2) := by decide +kernel
theorem d_X10_feed_32 : decode prog_12_method_89_code 32 = .ok (.iload 4, 2) := by decide +kernel
theorem d_X10_feed_34 : decode prog_12_method_89_code 34 = .ok (.iload_n 3, 1) := by decide +kernel
theorem d_X10_feed_35 : decode prog_12_method_89_code 35 = .ok (.if_icmp .ge 40, 3) := by decide +kernel
theorem d_X10_feed_38 : decode prog_12_method_89_code 38 = .ok (.aload_n 0, 1) := by decide +kernel
theorem d_X10_feed_39 : decode prog_12_method_89_code 39 = .ok (.getfield 50, 3) := by decide +kernel
theorem d_X10_feed_42 : decode prog_12_method_89_code 42 = .ok (.aload_n 0, 1) := by decide +kernel
theorem d_X10_feed_43 : decode prog_12_method_89_code 43 = .ok (.getfield 275, 3) := by decide +kernel
theorem d_X10_feed_46 : decode prog_12_method_89_code 46 = .ok (.lload_n 1, 1) := by decide +kernel
theorem d_X10_feed_47 : decode prog_12_method_89_code 47 = .ok (.bipush 8, 2) := by decide +kernel
theorem d_X10_feed_49 : decode prog_12_method_89_code 49 = .ok (.iload 4, 2) := by decide +kernel
theorem d_X10_feed_51 : decode prog_12_method_89_code 51 = .ok (.imul, 1) := by decide +kernel
theorem d_X10_feed_52 : decode prog_12_method_89_code 52 = .ok (.lshr, 1) := by decide +kernel
theorem d_X10_feed_53 : decode prog_12_method_89_code 53 = .ok (.ldc2_w 278, 3) := by decide +kernel
theorem d_X10_feed_56 : decode prog_12_method_89_code 56 = .ok (.land, 1) := by decide +kernel
theorem d_X10_feed_57 : decode prog_12_method_89_code 57 = .ok (.l2i, 1) := by decide +kernel
theorem d_X10_feed_58 : decode prog_12_method_89_code 58 = .ok (.iastore, 1) := by decide +kernel
theorem d_X10_feed_59 : decode prog_12_method_89_code 59 = .ok (.aload_n 0, 1) := by decide +kernel
theorem d_X10_feed_60 : decode prog_12_method_89_code 60 = .ok (.dup, 1) := by decide +kernel
theorem d_X10_feed_61 : decode prog_12_method_89_code 61 = .ok (.getfield 275, 3) := by decide +kernel
theorem d_X10_feed_64 : decode prog_12_method_89_code 64 = .ok (.iconst 1, 1) := by decide +kernel
theorem d_X10_feed_65 : decode prog_12_method_89_code 65 = .ok (.iadd, 1) := by decide +kernel
theorem d_X10_feed_66 : decode prog_12_method_89_code 66 = .ok (.putfield 275, 3) := by decide +kernel
theorem d_X10_feed_69 : decode prog_12_method_89_code 69 = .ok (.iinc 4 1, 3) := by decide +kernel
theorem d_X10_feed_72 : decode prog_12_method_89_code 72 = .ok (.goto (-40), 3) := by decide +kernel
theorem d_X10_feed_75 : decode prog_12_method_89_code 75 = .ok (.aload_n 0, 1) := by decide +kernel
theorem d_X10_feed_76 : decode prog_12_method_89_code 76 = .ok (.getfield 275, 3) := by decide +kernel
theorem d_X10_feed_79 : decode prog_12_method_89_code 79 = .ok (.ireturn, 1) := by decide +kernel
theorem d_X10_byteAt_0 : decode prog_12_method_90_code 0 = .ok (.iload_n 1, 1) := by decide +kernel
theorem d_X10_byteAt_1 : decode prog_12_method_90_code 1 = .ok (.aload_n 0, 1) := by decide +kernel
theorem d_X10_byteAt_2 : decode prog_12_method_90_code 2 = .ok (.getfield 275, 3) := by decide +kernel
theorem d_X10_byteAt_5 : decode prog_12_method_90_code 5 = .ok (.if_icmp .ge 12, 3) := by decide +kernel
theorem d_X10_byteAt_8 : decode prog_12_method_90_code 8 = .ok (.aload_n 0, 1) := by decide +kernel
theorem d_X10_byteAt_9 : decode prog_12_method_90_code 9 = .ok (.getfield 50, 3) := by decide +kernel
theorem d_X10_byteAt_12 : decode prog_12_method_90_code 12 = .ok (.iload_n 1, 1) := by decide +kernel
theorem d_X10_byteAt_13 : decode prog_12_method_90_code 13 = .ok (.iaload, 1) := by decide +kernel
theorem d_X10_byteAt_14 : decode prog_12_method_90_code 14 = .ok (.goto 4, 3) := by decide +kernel
theorem d_X10_byteAt_17 : decode prog_12_method_90_code 17 = .ok (.iconst (-1), 1) := by decide +kernel
theorem d_X10_byteAt_18 : decode prog_12_method_90_code 18 = .ok (.ireturn, 1) := by decide +kernel
theorem d_X10_isLetter_0 : decode prog_12_method_91_code 0 = .ok (.iload_n 0, 1) := by decide +kernel
theorem d_X10_isLetter_1 : decode prog_12_method_91_code 1 = .ok (.i2l, 1) := by decide +kernel
theorem d_X10_isLetter_2 : decode prog_12_method_91_code 2 = .ok (.ldc2_w 280, 3) := by decide +kernel
theorem d_X10_isLetter_5 : decode prog_12_method_91_code 5 = .ok (.ldc2_w 282, 3) := by decide +kernel
theorem d_X10_isLetter_8 : decode prog_12_method_91_code 8 = .ok (.invokestatic 74, 3) := by decide +kernel
theorem d_X10_isLetter_11 : decode prog_12_method_91_code 11 = .ok (.ireturn, 1) := by decide +kernel
theorem d_X10_isDigit_0 : decode prog_12_method_92_code 0 = .ok (.iload_n 0, 1) := by decide +kernel
theorem d_X10_isDigit_1 : decode prog_12_method_92_code 1 = .ok (.i2l, 1) := by decide +kernel
theorem d_X10_isDigit_2 : decode prog_12_method_92_code 2 = .ok (.ldc2_w 284, 3) := by decide +kernel
theorem d_X10_isDigit_5 : decode prog_12_method_92_code 5 = .ok (.ldc2_w 286, 3) := by decide +kernel
theorem d_X10_isDigit_8 : decode prog_12_method_92_code 8 = .ok (.invokestatic 74, 3) := by decide +kernel
theorem d_X10_isDigit_11 : decode prog_12_method_92_code 11 = .ok (.ireturn, 1) := by decide +kernel
theorem d_X10_token_0 : decode prog_12_method_93_code 0 = .ok (.aload_n 0, 1) := by decide +kernel
theorem d_X10_token_1 : decode prog_12_method_93_code 1 = .ok (.aload_n 0, 1) := by decide +kernel
theorem d_X10_token_2 : decode prog_12_method_93_code 2 = .ok (.getfield 288, 3) := by decide +kernel
theorem d_X10_token_5 : decode prog_12_method_93_code 5 = .ok (.putfield 291, 3) := by decide +kernel
theorem d_X10_token_8 : decode prog_12_method_93_code 8 = .ok (.aload_n 0, 1) := by decide +kernel
theorem d_X10_token_9 : decode prog_12_method_93_code 9 = .ok (.aload_n 0, 1) := by decide +kernel
theorem d_X10_token_10 : decode prog_12_method_93_code 10 = .ok (.getfield 291, 3) := by decide +kernel
theorem d_X10_token_13 : decode prog_12_method_93_code 13 = .ok (.invokevirtual 294, 3) := by decide +kernel
theorem d_X10_token_16 : decode prog_12_method_93_code 16 = .ok (.bipush 32, 2) := by decide +kernel
theorem d_X10_token_18 : decode prog_12_method_93_code 18 = .ok (.if_icmp .ne 16, 3) := by decide +kernel
theorem d_X10_token_21 : decode prog_12_method_93_code 21 = .ok (.aload_n 0, 1) := by decide +kernel
theorem d_X10_token_22 : decode prog_12_method_93_code 22 = .ok (.dup, 1) := by decide +kernel
theorem d_X10_token_23 : decode prog_12_method_93_code 23 = .ok (.getfield 291, 3) := by decide +kernel
theorem d_X10_token_26 : decode prog_12_method_93_code 26 = .ok (.iconst 1, 1) := by decide +kernel
theorem d_X10_token_27 : decode prog_12_method_93_code 27 = .ok (.iadd, 1) := by decide +kernel
theorem d_X10_token_28 : decode prog_12_method_93_code 28 = .ok (.putfield 291, 3) := by decide +kernel
theorem d_X10_token_31 : decode prog_12_method_93_code 31 = .ok (.goto (-23), 3) := by decide +kernel
theorem d_X10_token_34 : decode prog_12_method_93_code 34 = .ok (.aload_n 0, 1) := by decide +kernel
theorem d_X10_token_35 : decode prog_12_method_93_code 35 = .ok (.aload_n 0, 1) := by decide +kernel
theorem d_X10_token_36 : decode prog_12_method_93_code 36 = .ok (.getfield 291, 3) := by decide +kernel
theorem d_X10_token_39 : decode prog_12_method_93_code 39 = .ok (.invokevirtual 294, 3) := by decide +kernel
theorem d_X10_token_42 : decode prog_12_method_93_code 42 = .ok (.invokestatic 297, 3) := by decide +kernel
theorem d_X10_token_45 : decode prog_12_method_93_code 45 = .ok (.istore_n 1, 1) := by decide +kernel
theorem d_X10_token_46 : decode prog_12_method_93_code 46 = .ok (.aload_n 0, 1) := by decide +kernel
theorem d_X10_token_47 : decode prog_12_method_93_code 47 = .ok (.aload_n 0, 1) := by decide +kernel
theorem d_X10_token_48 : decode prog_12_method_93_code 48 = .ok (.getfield 291, 3) := by decide +kernel
theorem d_X10_token_51 : decode prog_12_method_93_code 51 = .ok (.invokevirtual 294, 3) := by decide +kernel
theorem d_X10_token_54 : decode prog_12_method_93_code 54 = .ok (.invokestatic 300, 3) := by decide +kernel
theorem d_X10_token_57 : decode prog_12_method_93_code 57 = .ok (.istore_n 2, 1) := by decide +kernel
theorem d_X10_token_58 : decode prog_12_method_93_code 58 = .ok (.aload_n 0, 1) := by decide +kernel
theorem d_X10_token_59 : decode prog_12_method_93_code 59 = .ok (.aload_n 0, 1) := by decide +kernel
theorem d_X10_token_60 : decode prog_12_method_93_code 60 = .ok (.getfield 291, 3) := by decide +kernel
theorem d_X10_token_63 : decode prog_12_method_93_code 63 = .ok (.aload_n 0, 1) := by decide +kernel
theorem d_X10_token_64 : decode prog_12_method_93_code 64 = .ok (.getfield 275, 3) := by decide +kernel
theorem d_X10_token_67 : decode prog_12_method_93_code 67 = .ok (.if_icmp .ge 12, 3) := by decide +kernel
theorem d_X10_token_70 : decode prog_12_method_93_code 70 = .ok (.aload_n 0, 1) := by decide +kernel
theorem d_X10_token_71 : decode prog_12_method_93_code 71 = .ok (.getfield 291, 3) := by decide +kernel
theorem d_X10_token_74 : decode prog_12_method_93_code 74 = .ok (.iconst 1, 1) := by decide +kernel
theorem d_X10_token_75 : decode prog_12_method_93_code 75 = .ok (.iadd, 1) := by decide +kernel
theorem d_X10_token_76 : decode prog_12_method_93_code 76 = .ok (.goto 7, 3) := by decide +kernel
theorem d_X10_token_79 : decode prog_12_method_93_code 79 = .ok (.aload_n 0, 1) := by decide +kernel
theorem d_X10_token_80 : decode prog_12_method_93_code 80 = .ok (.getfield 291, 3) := by decide +kernel
theorem d_X10_token_83 : decode prog_12_method_93_code 83 = .ok (.putfield 288, 3) := by decide +kernel
theorem d_X10_token_86 : decode prog_12_method_93_code 86 = .ok (.iload_n 1, 1) := by decide +kernel
theorem d_X10_token_87 : decode prog_12_method_93_code 87 = .ok (.ifCond .eq 17, 3) := by decide +kernel
theorem d_X10_token_90 : decode prog_12_method_93_code 90 = .ok (.aload_n 0, 1) := by decide +kernel
theorem d_X10_token_91 : decode prog_12_method_93_code 91 = .ok (.aload_n 0, 1) := by decide +kernel
theorem d_X10_token_92 : decode prog_12_method_93_code 92 = .ok (.getfield 288, 3) := by decide +kernel
theorem d_X10_token_95 : decode prog_12_method_93_code 95 = .ok (.invokevirtual 294, 3) := by decide +kernel
theorem d_X10_token_98 : decode prog_12_method_93_code 98 = .ok (.invokestatic 297, 3) := by decide +kernel
theorem d_X10_token_101 : decode prog_12_method_93_code 101 = .ok (.ifCond .ne 21, 3) := by decide +kernel
theorem d_X10_token_104 : decode prog_12_method_93_code 104 = .ok (.iload_n 2, 1) := by decide +kernel
theorem d_X10_token_105 : decode prog_12_method_93_code 105 = .ok (.ifCond .eq 30, 3) := by decide +kernel
theorem d_X10_token_108 : decode prog_12_method_93_code 108 = .ok (.aload_n 0, 1) := by decide +kernel
theorem d_X10_token_109 : decode prog_12_method_93_code 109 = .ok (.aload_n 0, 1) := by decide +kernel
theorem d_X10_token_110 : decode prog_12_method_93_code 110 = .ok (.getfield 288, 3) := by decide +kernel
theorem d_X10_token_113 : decode prog_12_method_93_code 113 = .ok (.invokevirtual 294, 3) := by decide +kernel
theorem d_X10_token_116 : decode prog_12_method_93_code 116 = .ok (.invokestatic 300, 3) := by decide +kernel
theorem d_X10_token_119 : decode prog_12_method_93_code 119 = .ok (.ifCond .eq 16, 3) := by decide +kernel
theorem d_X10_token_122 : decode prog_12_method_93_code 122 = .ok (.aload_n 0, 1) := by decide +kernel
theorem d_X10_token_123 : decode prog_12_method_93_code 123 = .ok (.dup, 1) := by decide +kernel
theorem d_X10_token_124 : decode prog_12_method_93_code 124 = .ok (.getfield 288, 3) := by decide +kernel
theorem d_X10_token_127 : decode prog_12_method_93_code 127 = .ok (.iconst 1, 1) := by decide +kernel
theorem d_X10_token_128 : decode prog_12_method_93_code 128 = .ok (.iadd, 1) := by decide +kernel
theorem d_X10_token_129 : decode prog_12_method_93_code 129 = .ok (.putfield 288, 3) := by decide +kernel
theorem d_X10_token_132 : decode prog_12_method_93_code 132 = .ok (.goto (-46), 3) := by decide +kernel
theorem d_X10_token_135 : decode prog_12_method_93_code 135 = .ok (.return_, 1) := by decide +kernel
theorem d_X10_wants_0 : decode prog_12_method_94_code 0 = .ok (.aload_n 0, 1) := by decide +kernel
theorem d_X10_wants_1 : decode prog_12_method_94_code 1 = .ok (.aload_n 0, 1) := by decide +kernel
theorem d_X10_wants_2 : decode prog_12_method_94_code 2 = .ok (.getfield 303, 3) := by decide +kernel
theorem d_X10_wants_5 : decode prog_12_method_94_code 5 = .ok (.ifCond .ne 7, 3) := by decide +kernel
theorem d_X10_wants_8 : decode prog_12_method_94_code 8 = .ok (.iload_n 1, 1) := by decide +kernel
theorem d_X10_wants_9 : decode prog_12_method_94_code 9 = .ok (.ifCond .ne 7, 3) := by decide +kernel
theorem d_X10_wants_12 : decode prog_12_method_94_code 12 = .ok (.iconst 1, 1) := by decide +kernel
theorem d_X10_wants_13 : decode prog_12_method_94_code 13 = .ok (.goto 4, 3) := by decide +kernel
theorem d_X10_wants_16 : decode prog_12_method_94_code 16 = .ok (.iconst 0, 1) := by decide +kernel
theorem d_X10_wants_17 : decode prog_12_method_94_code 17 = .ok (.putfield 303, 3) := by decide +kernel
theorem d_X10_wants_20 : decode prog_12_method_94_code 20 = .ok (.aload_n 0, 1) := by decide +kernel
theorem d_X10_wants_21 : decode prog_12_method_94_code 21 = .ok (.getfield 303, 3) := by decide +kernel
theorem d_X10_wants_24 : decode prog_12_method_94_code 24 = .ok (.ifCond .ne 7, 3) := by decide +kernel
theorem d_X10_wants_27 : decode prog_12_method_94_code 27 = .ok (.aload_n 0, 1) := by decide +kernel
theorem d_X10_wants_28 : decode prog_12_method_94_code 28 = .ok (.invokevirtual 307, 3) := by decide +kernel
theorem d_X10_wants_31 : decode prog_12_method_94_code 31 = .ok (.return_, 1) := by decide +kernel
theorem d_X10_word_0 : decode prog_12_method_95_code 0 = .ok (.lconst 0, 1) := by decide +kernel
theorem d_X10_word_1 : decode prog_12_method_95_code 1 = .ok (.lstore_n 1, 1) := by decide +kernel
theorem d_X10_word_2 : decode prog_12_method_95_code 2 = .ok (.aload_n 0, 1) := by decide +kernel
theorem d_X10_word_3 : decode prog_12_method_95_code 3 = .ok (.getfield 291, 3) := by decide +kernel
theorem d_X10_word_6 : decode prog_12_method_95_code 6 = .ok (.istore_n 3, 1) := by decide +kernel
theorem d_X10_word_7 : decode prog_12_method_95_code 7 = .ok (.iload_n 3, 1) := by decide +kernel
theorem d_X10_word_8 : decode prog_12_method_95_code 8 = .ok (.aload_n 0, 1) := by decide +kernel
theorem d_X10_word_9 : decode prog_12_method_95_code 9 = .ok (.getfield 288, 3) := by decide +kernel
theorem d_X10_word_12 : decode prog_12_method_95_code 12 = .ok (.if_icmp .ge 38, 3) := by decide +kernel
theorem d_X10_word_15 : decode prog_12_method_95_code 15 = .ok (.lload_n 1, 1) := by decide +kernel
theorem d_X10_word_16 : decode prog_12_method_95_code 16 = .ok (.ldc2_w 310, 3) := by decide +kernel
theorem d_X10_word_19 : decode prog_12_method_95_code 19 = .ok (.lcmp, 1) := by decide +kernel
theorem d_X10_word_20 : decode prog_12_method_95_code 20 = .ok (.ifCond .le 7, 3) := by decide +kernel
theorem d_X10_word_23 : decode prog_12_method_95_code 23 = .ok (.lload_n 1, 1) := by decide +kernel
theorem d_X10_word_24 : decode prog_12_method_95_code 24 = .ok (.goto 19, 3) := by decide +kernel
theorem d_X10_word_27 : decode prog_12_method_95_code 27 = .ok (.ldc2_w 312, 3) := by decide +kernel
theorem d_X10_word_30 : decode prog_12_method_95_code 30 = .ok (.lload_n 1, 1) := by decide +kernel
theorem d_X10_word_31 : decode prog_12_method_95_code 31 = .ok (.lmul, 1) := by decide +kernel
theorem d_X10_word_32 : decode prog_12_method_95_code 32 = .ok (.aload_n 0, 1) := by decide +kernel
theorem d_X10_word_33 : decode prog_12_method_95_code 33 = .ok (.getfield 50, 3) := by decide +kernel
theorem d_X10_word_36 : decode prog_12_method_95_code 36 = .ok (.iload_n 3, 1) := by decide +kernel
theorem d_X10_word_37 : decode prog_12_method_95_code 37 = .ok (.iaload, 1) := by decide +kernel
theorem d_X10_word_38 : decode prog_12_method_95_code 38 = .ok (.bipush 96, 2) := by decide +kernel
theorem d_X10_word_40 : decode prog_12_method_95_code 40 = .ok (.isub, 1) := by decide +kernel
theorem d_X10_word_41 : decode prog_12_method_95_code 41 = .ok (.i2l, 1) := by decide +kernel
theorem d_X10_word_42 : decode prog_12_method_95_code 42 = .ok (.ladd, 1) := by decide +kernel
theorem d_X10_word_43 : decode prog_12_method_95_code 43 = .ok (.lstore_n 1, 1) := by decide +kernel
theorem d_X10_word_44 : decode prog_12_method_95_code 44 = .ok (.iinc 3 1, 3) := by decide +kernel
theorem d_X10_word_47 : decode prog_12_method_95_code 47 = .ok (.goto (-40), 3) := by decide +kernel
theorem d_X10_word_50 : decode prog_12_method_95_code 50 = .ok (.aload_n 0, 1) := by decide +kernel
theorem d_X10_word_51 : decode prog_12_method_95_code 51 = .ok (.getfield 303, 3) := by decide +kernel
theorem d_X10_word_54 : decode prog_12_method_95_code 54 = .ok (.ifCond .ne 17, 3) := by decide +kernel
theorem d_X10_word_57 : decode prog_12_method_95_code 57 = .ok (.aload_n 0, 1) := by decide +kernel
theorem d_X10_word_58 : decode prog_12_method_95_code 58 = .ok (.aload_n 0, 1) := by decide +kernel
theorem d_X10_word_59 : decode prog_12_method_95_code 59 = .ok (.getfield 291, 3) := by decide +kernel
theorem d_X10_word_62 : decode prog_12_method_95_code 62 = .ok (.invokevirtual 294, 3) := by decide +kernel
theorem d_X10_word_65 : decode prog_12_method_95_code 65 = .ok (.invokestatic 297, 3) := by decide +kernel
theorem d_X10_word_68 : decode prog_12_method_95_code 68 = .ok (.ifCond .ne 7, 3) := by decide +kernel
theorem d_X10_word_71 : decode prog_12_method_95_code 71 = .ok (.lconst 0, 1) := by decide +kernel
theorem d_X10_word_72 : decode prog_12_method_95_code 72 = .ok (.goto 4, 3) := by decide +kernel
theorem d_X10_word_75 : decode prog_12_method_95_code 75 = .ok (.lload_n 1, 1) := by decide +kernel
theorem d_X10_word_76 : decode prog_12_method_95_code 76 = .ok (.lreturn, 1) := by decide +kernel
theorem d_X10_number_0 : decode prog_12_method_96_code 0 = .ok (.aload_n 0, 1) := by decide +kernel
theorem d_X10_number_1 : decode prog_12_method_96_code 1 = .ok (.aload_n 0, 1) := by decide +kernel
theorem d_X10_number_2 : decode prog_12_method_96_code 2 = .ok (.getfield 291, 3) := by decide +kernel
theorem d_X10_number_5 : decode prog_12_method_96_code 5 = .ok (.invokevirtual 294, 3) := by decide +kernel
theorem d_X10_number_8 : decode prog_12_method_96_code 8 = .ok (.invokestatic 300, 3) := by decide +kernel
theorem d_X10_number_11 : decode prog_12_method_96_code 11 = .ok (.ifCond .eq 20, 3) := by decide +kernel
theorem d_X10_number_14 : decode prog_12_method_96_code 14 = .ok (.aload_n 0, 1) := by decide +kernel
theorem d_X10_number_15 : decode prog_12_method_96_code 15 = .ok (.getfield 288, 3) := by decide +kernel
theorem d_X10_number_18 : decode prog_12_method_96_code 18 = .ok (.aload_n 0, 1) := by decide +kernel
theorem d_X10_number_19 : decode prog_12_method_96_code 19 = .ok (.getfield 291, 3) := by decide +kernel
theorem d_X10_number_22 : decode prog_12_method_96_code 22 = .ok (.isub, 1) := by decide +kernel
theorem d_X10_number_23 : decode prog_12_method_96_code 23 = .ok (.iconst 5, 1) := by decide +kernel
theorem d_X10_number_24 : decode prog_12_method_96_code 24 = .ok (.if_icmp .ge 7, 3) := by decide +kernel
theorem d_X10_number_27 : decode prog_12_method_96_code 27 = .ok (.iconst 1, 1) := by decide +kernel
theorem d_X10_number_28 : decode prog_12_method_96_code 28 = .ok (.goto 4, 3) := by decide +kernel
theorem d_X10_number_31 : decode prog_12_method_96_code 31 = .ok (.iconst 0, 1) := by decide +kernel
theorem d_X10_number_32 : decode prog_12_method_96_code 32 = .ok (.istore_n 2, 1) := by decide +kernel
theorem d_X10_number_33 : decode prog_12_method_96_code 33 = .ok (.aload_n 0, 1) := by decide +kernel
theorem d_X10_number_34 : decode prog_12_method_96_code 34 = .ok (.iconst 0, 1) := by decide +kernel
theorem d_X10_number_35 : decode prog_12_method_96_code 35 = .ok (.putfield 314, 3) := by decide +kernel
theorem d_X10_number_38 : decode prog_12_method_96_code 38 = .ok (.aload_n 0, 1) := by decide +kernel
theorem d_X10_number_39 : decode prog_12_method_96_code 39 = .ok (.getfield 291, 3) := by decide +kernel
theorem d_X10_number_42 : decode prog_12_method_96_code 42 = .ok (.istore_n 3, 1) := by decide +kernel
theorem d_X10_number_43 : decode prog_12_method_96_code 43 = .ok (.iload_n 3, 1) := by decide +kernel
theorem d_X10_number_44 : decode prog_12_method_96_code 44 = .ok (.aload_n 0, 1) := by decide +kernel
theorem d_X10_number_45 : decode prog_12_method_96_code 45 = .ok (.getfield 288, 3) := by decide +kernel
theorem d_X10_number_48 : decode prog_12_method_96_code 48 = .ok (.if_icmp .ge 34, 3) := by decide +kernel
theorem d_X10_number_51 : decode prog_12_method_96_code 51 = .ok (.iload_n 2, 1) := by decide +kernel
theorem d_X10_number_52 : decode prog_12_method_96_code 52 = .ok (.ifCond .eq 30, 3) := by decide +kernel
theorem d_X10_number_55 : decode prog_12_method_96_code 55 = .ok (.aload_n 0, 1) := by decide +kernel
theorem d_X10_number_56 : decode prog_12_method_96_code 56 = .ok (.bipush 10, 2) := by decide +kernel
theorem d_X10_number_58 : decode prog_12_method_96_code 58 = .ok (.aload_n 0, 1) := by decide +kernel
theorem d_X10_number_59 : decode prog_12_method_96_code 59 = .ok (.getfield 314, 3) := by decide +kernel
theorem d_X10_number_62 : decode prog_12_method_96_code 62 = .ok (.imul, 1) := by decide +kernel
theorem d_X10_number_63 : decode prog_12_method_96_code 63 = .ok (.aload_n 0, 1) := by decide +kernel
theorem d_X10_number_64 : decode prog_12_method_96_code 64 = .ok (.getfield 50, 3) := by decide +kernel
theorem d_X10_number_67 : decode prog_12_method_96_code 67 = .ok (.iload_n 3, 1) := by decide +kernel
theorem d_X10_number_68 : decode prog_12_method_96_code 68 = .ok (.iaload, 1) := by decide +kernel
theorem d_X10_number_69 : decode prog_12_method_96_code 69 = .ok (.iadd, 1) := by decide +kernel
theorem d_X10_number_70 : decode prog_12_method_96_code 70 = .ok (.bipush 48, 2) := by decide +kernel
theorem d_X10_number_72 : decode prog_12_method_96_code 72 = .ok (.isub, 1) := by decide +kernel
theorem d_X10_number_73 : decode prog_12_method_96_code 73 = .ok (.putfield 314, 3) := by decide +kernel
theorem d_X10_number_76 : decode prog_12_method_96_code 76 = .ok (.iinc 3 1, 3) := by decide +kernel
theorem d_X10_number_79 : decode prog_12_method_96_code 79 = .ok (.goto (-36), 3) := by decide +kernel
theorem d_X10_number_82 : decode prog_12_method_96_code 82 = .ok (.aload_n 0, 1) := by decide +kernel
theorem d_X10_number_83 : decode prog_12_method_96_code 83 = .ok (.iload_n 2, 1) := by decide +kernel
theorem d_X10_number_84 : decode prog_12_method_96_code 84 = .ok (.ifCond .eq 15, 3) := by decide +kernel
theorem d_X10_number_87 : decode prog_12_method_96_code 87 = .ok (.aload_n 0, 1) := by decide +kernel
theorem d_X10_number_88 : decode prog_12_method_96_code 88 = .ok (.getfield 314, 3) := by decide +kernel
theorem d_X10_number_91 : decode prog_12_method_96_code 91 = .ok (.iload_n 1, 1) := by decide +kernel
theorem d_X10_number_92 : decode prog_12_method_96_code 92 = .ok (.if_icmp .gt 7, 3) := by decide +kernel
theorem d_X10_number_95 : decode prog_12_method_96_code 95 = .ok (.iconst 1, 1) := by decide +kernel
theorem d_X10_number_96 : decode prog_12_method_96_code 96 = .ok (.goto 4, 3) := by decide +kernel
theorem d_X10_number_99 : decode prog_12_method_96_code 99 = .ok (.iconst 0, 1) := by decide +kernel
theorem d_X10_number_100 : decode prog_12_method_96_code 100 = .ok (.invokevirtual 317, 3) := by decide +kernel
theorem d_X10_number_103 : decode prog_12_method_96_code 103 = .ok (.return_, 1) := by decide +kernel
theorem d_X10_kindHere_0 : decode prog_12_method_97_code 0 = .ok (.aload_n 0, 1) := by decide +kernel
theorem d_X10_kindHere_1 : decode prog_12_method_97_code 1 = .ok (.invokevirtual 321, 3) := by decide +kernel
theorem d_X10_kindHere_4 : decode prog_12_method_97_code 4 = .ok (.lstore_n 1, 1) := by decide +kernel
theorem d_X10_kindHere_5 : decode prog_12_method_97_code 5 = .ok (.lload_n 1, 1) := by decide +kernel
theorem d_X10_kindHere_6 : decode prog_12_method_97_code 6 = .ok (.ldc2_w 325, 3) := by decide +kernel
theorem d_X10_kindHere_9 : decode prog_12_method_97_code 9 = .ok (.lcmp, 1) := by decide +kernel
theorem d_X10_kindHere_10 : decode prog_12_method_97_code 10 = .ok (.ifCond .ne 7, 3) := by decide +kernel
theorem d_X10_kindHere_13 : decode prog_12_method_97_code 13 = .ok (.iconst 0, 1) := by decide +kernel
theorem d_X10_kindHere_14 : decode prog_12_method_97_code 14 = .ok (.goto 64, 3) := by decide +kernel
theorem d_X10_kindHere_17 : decode prog_12_method_97_code 17 = .ok (.lload_n 1, 1) := by decide +kernel
theorem d_X10_kindHere_18 : decode prog_12_method_97_code 18 = .ok (.ldc2_w 327, 3) := by decide +kernel
theorem d_X10_kindHere_21 : decode prog_12_method_97_code 21 = .ok (.lcmp, 1) := by decide +kernel
theorem d_X10_kindHere_22 : decode prog_12_method_97_code 22 = .ok (.ifCond .ne 7, 3) := by decide +kernel
theorem d_X10_kindHere_25 : decode prog_12_method_97_code 25 = .ok (.iconst 1, 1) := by decide +kernel
theorem d_X10_kindHere_26 : decode prog_12_method_97_code 26 = .ok (.goto 52, 3) := by decide +kernel
theorem d_X10_kindHere_29 : decode prog_12_method_97_code 29 = .ok (.lload_n 1, 1) := by decide +kernel
theorem d_X10_kindHere_30 : decode prog_12_method_97_code 30 = .ok (.ldc2_w 329, 3) := by decide +kernel
theorem d_X10_kindHere_33 : decode prog_12_method_97_code 33 = .ok (.lcmp, 1) := by decide +kernel
theorem d_X10_kindHere_34 : decode prog_12_method_97_code 34 = .ok (.ifCond .ne 7, 3) := by decide +kernel
theorem d_X10_kindHere_37 : decode prog_12_method_97_code 37 = .ok (.iconst 2, 1) := by decide +kernel
theorem d_X10_kindHere_38 : decode prog_12_method_97_code 38 = .ok (.goto 40, 3) := by decide +kernel
theorem d_X10_kindHere_41 : decode prog_12_method_97_code 41 = .ok (.lload_n 1, 1) := by decide +kernel
theorem d_X10_kindHere_42 : decode prog_12_method_97_code 42 = .ok (.ldc2_w 331, 3) := by decide +kernel
theorem d_X10_kindHere_45 : decode prog_12_method_97_code 45 = .ok (.lcmp, 1) := by decide +kernel
theorem d_X10_kindHere_46 : decode prog_12_method_97_code 46 = .ok (.ifCond .ne 7, 3) := by decide +kernel
theorem d_X10_kindHere_49 : decode prog_12_method_97_code 49 = .ok (.iconst 3, 1) := by decide +kernel
theorem d_X10_kindHere_50 : decode prog_12_method_97_code 50 = .ok (.goto 28, 3) := by decide +kernel
theorem d_X10_kindHere_53 : decode prog_12_method_97_code 53 = .ok (.lload_n 1, 1) := by decide +kernel
theorem d_X10_kindHere_54 : decode prog_12_method_97_code 54 = .ok (.ldc2_w 333, 3) := by decide +kernel
theorem d_X10_kindHere_57 : decode prog_12_method_97_code 57 = .ok (.lcmp, 1) := by decide +kernel
theorem d_X10_kindHere_58 : decode prog_12_method_97_code 58 = .ok (.ifCond .ne 7, 3) := by decide +kernel
theorem d_X10_kindHere_61 : decode prog_12_method_97_code 61 = .ok (.iconst 4, 1) := by decide +kernel
theorem d_X10_kindHere_62 : decode prog_12_method_97_code 62 = .ok (.goto 16, 3) := by decide +kernel
theorem d_X10_kindHere_65 : decode prog_12_method_97_code 65 = .ok (.lload_n 1, 1) := by decide +kernel
theorem d_X10_kindHere_66 : decode prog_12_method_97_code 66 = .ok (.ldc2_w 335, 3) := by decide +kernel
theorem d_X10_kindHere_69 : decode prog_12_method_97_code 69 = .ok (.lcmp, 1) := by decide +kernel
theorem d_X10_kindHere_70 : decode prog_12_method_97_code 70 = .ok (.ifCond .ne 7, 3) := by decide +kernel
theorem d_X10_kindHere_73 : decode prog_12_method_97_code 73 = .ok (.iconst 5, 1) := by decide +kernel
theorem d_X10_kindHere_74 : decode prog_12_method_97_code 74 = .ok (.goto 4, 3) := by decide +kernel
theorem d_X10_kindHere_77 : decode prog_12_method_97_code 77 = .ok (.iconst (-1), 1) := by decide +kernel
theorem d_X10_kindHere_78 : decode prog_12_method_97_code 78 = .ok (.ireturn, 1) := by decide +kernel
theorem d_X10_factHere_0 : decode prog_12_method_98_code 0 = .ok (.aload_n 0, 1) := by decide +kernel
theorem d_X10_factHere_1 : decode prog_12_method_98_code 1 = .ok (.invokevirtual 321, 3) := by decide +kernel
theorem d_X10_factHere_4 : decode prog_12_method_98_code 4 = .ok (.lstore_n 1, 1) := by decide +kernel
theorem d_X10_factHere_5 : decode prog_12_method_98_code 5 = .ok (.lload_n 1, 1) := by decide +kernel
theorem d_X10_factHere_6 : decode prog_12_method_98_code 6 = .ok (.ldc2_w 337, 3) := by decide +kernel
theorem d_X10_factHere_9 : decode prog_12_method_98_code 9 = .ok (.lcmp, 1) := by decide +kernel
theorem d_X10_factHere_10 : decode prog_12_method_98_code 10 = .ok (.ifCond .ne 7, 3) := by decide +kernel
theorem d_X10_factHere_13 : decode prog_12_method_98_code 13 = .ok (.iconst (-1), 1) := by decide +kernel
theorem d_X10_factHere_14 : decode prog_12_method_98_code 14 = .ok (.goto 56, 3) := by decide +kernel
theorem d_X10_factHere_17 : decode prog_12_method_98_code 17 = .ok (.lload_n 1, 1) := by decide +kernel
theorem d_X10_factHere_18 : decode prog_12_method_98_code 18 = .ok (.ldc2_w 339, 3) := by decide +kernel
theorem d_X10_factHere_21 : decode prog_12_method_98_code 21 = .ok (.lcmp, 1) := by decide +kernel
theorem d_X10_factHere_22 : decode prog_12_method_98_code 22 = .ok (.ifCond .ne 8, 3) := by decide +kernel
theorem d_X10_factHere_25 : decode prog_12_method_98_code 25 = .ok (.bipush (-2), 2) := by decide +kernel
theorem d_X10_factHere_27 : decode prog_12_method_98_code 27 = .ok (.goto 43, 3) := by decide +kernel
theorem d_X10_factHere_30 : decode prog_12_method_98_code 30 = .ok (.lload_n 1, 1) := by decide +kernel
theorem d_X10_factHere_31 : decode prog_12_method_98_code 31 = .ok (.ldc2_w 341, 3) := by decide +kernel
theorem d_X10_factHere_34 : decode prog_12_method_98_code 34 = .ok (.lcmp, 1) := by decide +kernel
theorem d_X10_factHere_35 : decode prog_12_method_98_code 35 = .ok (.ifCond .ne 8, 3) := by decide +kernel
theorem d_X10_factHere_38 : decode prog_12_method_98_code 38 = .ok (.bipush (-3), 2) := by decide +kernel
theorem d_X10_factHere_40 : decode prog_12_method_98_code 40 = .ok (.goto 30, 3) := by decide +kernel
theorem d_X10_factHere_43 : decode prog_12_method_98_code 43 = .ok (.lload_n 1, 1) := by decide +kernel
theorem d_X10_factHere_44 : decode prog_12_method_98_code 44 = .ok (.ldc2_w 343, 3) := by decide +kernel
theorem d_X10_factHere_47 : decode prog_12_method_98_code 47 = .ok (.lcmp, 1) := by decide +kernel
theorem d_X10_factHere_48 : decode prog_12_method_98_code 48 = .ok (.ifCond .ne 8, 3) := by decide +kernel
theorem d_X10_factHere_51 : decode prog_12_method_98_code 51 = .ok (.bipush (-4), 2) := by decide +kernel
theorem d_X10_factHere_53 : decode prog_12_method_98_code 53 = .ok (.goto 17, 3) := by decide +kernel
theorem d_X10_factHere_56 : decode prog_12_method_98_code 56 = .ok (.lload_n 1, 1) := by decide +kernel
theorem d_X10_factHere_57 : decode prog_12_method_98_code 57 = .ok (.ldc2_w 345, 3) := by decide +kernel
theorem d_X10_factHere_60 : decode prog_12_method_98_code 60 = .ok (.lcmp, 1) := by decide +kernel
theorem d_X10_factHere_61 : decode prog_12_method_98_code 61 = .ok (.ifCond .ne 8, 3) := by decide +kernel
theorem d_X10_factHere_64 : decode prog_12_method_98_code 64 = .ok (.bipush (-5), 2) := by decide +kernel
theorem d_X10_factHere_66 : decode prog_12_method_98_code 66 = .ok (.goto 4, 3) := by decide +kernel
theorem d_X10_factHere_69 : decode prog_12_method_98_code 69 = .ok (.iconst 0, 1) := by decide +kernel
theorem d_X10_factHere_70 : decode prog_12_method_98_code 70 = .ok (.ireturn, 1) := by decide +kernel
theorem d_X10_writes_0 : decode prog_12_method_99_code 0 = .ok (.aload_n 0, 1) := by decide +kernel
theorem d_X10_writes_1 : decode prog_12_method_99_code 1 = .ok (.getfield 303, 3) := by decide +kernel
theorem d_X10_writes_4 : decode prog_12_method_99_code 4 = .ok (.ifCond .ne 26, 3) := by decide +kernel
theorem d_X10_writes_7 : decode prog_12_method_99_code 7 = .ok (.aload_n 0, 1) := by decide +kernel
theorem d_X10_writes_8 : decode prog_12_method_99_code 8 = .ok (.getfield 7, 3) := by decide +kernel
theorem d_X10_writes_11 : decode prog_12_method_99_code 11 = .ok (.bipush 97, 2) := by decide +kernel
theorem d_X10_writes_13 : decode prog_12_method_99_code 13 = .ok (.aload_n 0, 1) := by decide +kernel
theorem d_X10_writes_14 : decode prog_12_method_99_code 14 = .ok (.getfield 347, 3) := by decide +kernel
theorem d_X10_writes_17 : decode prog_12_method_99_code 17 = .ok (.iadd, 1) := by decide +kernel
theorem d_X10_writes_18 : decode prog_12_method_99_code 18 = .ok (.iload_n 1, 1) := by decide +kernel
theorem d_X10_writes_19 : decode prog_12_method_99_code 19 = .ok (.iastore, 1) := by decide +kernel
theorem d_X10_writes_20 : decode prog_12_method_99_code 20 = .ok (.aload_n 0, 1) := by decide +kernel
theorem d_X10_writes_21 : decode prog_12_method_99_code 21 = .ok (.dup, 1) := by decide +kernel
theorem d_X10_writes_22 : decode prog_12_method_99_code 22 = .ok (.getfield 347, 3) := by decide +kernel
theorem d_X10_writes_25 : decode prog_12_method_99_code 25 = .ok (.iconst 1, 1) := by decide +kernel
theorem d_X10_writes_26 : decode prog_12_method_99_code 26 = .ok (.iadd, 1) := by decide +kernel
theorem d_X10_writes_27 : decode prog_12_method_99_code 27 = .ok (.putfield 347, 3) := by decide +kernel
theorem d_X10_writes_30 : decode prog_12_method_99_code 30 = .ok (.return_, 1) := by decide +kernel
theorem d_X10_valueHere_0 : decode prog_12_method_100_code 0 = .ok (.aload_n 0, 1) := by decide +kernel
theorem d_X10_valueHere_1 : decode prog_12_method_100_code 1 = .ok (.invokevirtual 350, 3) := by decide +kernel
theorem d_X10_valueHere_4 : decode prog_12_method_100_code 4 = .ok (.istore_n 1, 1) := by decide +kernel
theorem d_X10_valueHere_5 : decode prog_12_method_100_code 5 = .ok (.iload_n 1, 1) := by decide +kernel
theorem d_X10_valueHere_6 : decode prog_12_method_100_code 6 = .ok (.ifCond .ge 16, 3) := by decide +kernel
theorem d_X10_valueHere_9 : decode prog_12_method_100_code 9 = .ok (.aload_n 0, 1) := by decide +kernel
theorem d_X10_valueHere_10 : decode prog_12_method_100_code 10 = .ok (.iconst 1, 1) := by decide +kernel
theorem d_X10_valueHere_11 : decode prog_12_method_100_code 11 = .ok (.invokevirtual 317, 3) := by decide +kernel
theorem d_X10_valueHere_14 : decode prog_12_method_100_code 14 = .ok (.aload_n 0, 1) := by decide +kernel
theorem d_X10_valueHere_15 : decode prog_12_method_100_code 15 = .ok (.iload_n 1, 1) := by decide +kernel
theorem d_X10_valueHere_16 : decode prog_12_method_100_code 16 = .ok (.invokevirtual 353, 3) := by decide +kernel
theorem d_X10_valueHere_19 : decode prog_12_method_100_code 19 = .ok (.goto 25, 3) := by decide +kernel
theorem d_X10_valueHere_22 : decode prog_12_method_100_code 22 = .ok (.aload_n 0, 1) := by decide +kernel
theorem d_X10_valueHere_23 : decode prog_12_method_100_code 23 = .ok (.getfield 303, 3) := by decide +kernel
theorem d_X10_valueHere_26 : decode prog_12_method_100_code 26 = .ok (.ifCond .ne 18, 3) := by decide +kernel
theorem d_X10_valueHere_29 : decode prog_12_method_100_code 29 = .ok (.aload_n 0, 1) := by decide +kernel
theorem d_X10_valueHere_30 : decode prog_12_method_100_code 30 = .ok (.sipush 9999, 3) := by decide +kernel
theorem d_X10_valueHere_33 : decode prog_12_method_100_code 33 = .ok (.invokevirtual 356, 3) := by decide +kernel
theorem d_X10_valueHere_36 : decode prog_12_method_100_code 36 = .ok (.aload_n 0, 1) := by decide +kernel
theorem d_X10_valueHere_37 : decode prog_12_method_100_code 37 = .ok (.aload_n 0, 1) := by decide +kernel
theorem d_X10_valueHere_38 : decode prog_12_method_100_code 38 = .ok (.getfield 314, 3) := by decide +kernel
theorem d_X10_valueHere_41 : decode prog_12_method_100_code 41 = .ok (.invokevirtual 353, 3) := by decide +kernel
theorem d_X10_valueHere_44 : decode prog_12_method_100_code 44 = .ok (.return_, 1) := by decide +kernel
theorem d_X10_comparison_0 : decode prog_12_method_101_code 0 = .ok (.aload_n 0, 1) := by decide +kernel
theorem d_X10_comparison_1 : decode prog_12_method_101_code 1 = .ok (.invokevirtual 359, 3) := by decide +kernel
theorem d_X10_comparison_4 : decode prog_12_method_101_code 4 = .ok (.aload_n 0, 1) := by decide +kernel
theorem d_X10_comparison_5 : decode prog_12_method_101_code 5 = .ok (.getfield 303, 3) := by decide +kernel
theorem d_X10_comparison_8 : decode prog_12_method_101_code 8 = .ok (.ifCond .eq 7, 3) := by decide +kernel
theorem d_X10_comparison_11 : decode prog_12_method_101_code 11 = .ok (.iconst (-1), 1) := by decide +kernel
theorem d_X10_comparison_12 : decode prog_12_method_101_code 12 = .ok (.goto 11, 3) := by decide +kernel
theorem d_X10_comparison_15 : decode prog_12_method_101_code 15 = .ok (.aload_n 0, 1) := by decide +kernel
theorem d_X10_comparison_16 : decode prog_12_method_101_code 16 = .ok (.aload_n 0, 1) := by decide +kernel
theorem d_X10_comparison_17 : decode prog_12_method_101_code 17 = .ok (.getfield 291, 3) := by decide +kernel
theorem d_X10_comparison_20 : decode prog_12_method_101_code 20 = .ok (.invokevirtual 294, 3) := by decide +kernel
theorem d_X10_comparison_23 : decode prog_12_method_101_code 23 = .ok (.istore_n 1, 1) := by decide +kernel
theorem d_X10_comparison_24 : decode prog_12_method_101_code 24 = .ok (.aload_n 0, 1) := by decide +kernel
theorem d_X10_comparison_25 : decode prog_12_method_101_code 25 = .ok (.iload_n 1, 1) := by decide +kernel
theorem d_X10_comparison_26 : decode prog_12_method_101_code 26 = .ok (.bipush 60, 2) := by decide +kernel
theorem d_X10_comparison_28 : decode prog_12_method_101_code 28 = .ok (.if_icmp .eq 15, 3) := by decide +kernel
theorem d_X10_comparison_31 : decode prog_12_method_101_code 31 = .ok (.iload_n 1, 1) := by decide +kernel
theorem d_X10_comparison_32 : decode prog_12_method_101_code 32 = .ok (.bipush 61, 2) := by decide +kernel
theorem d_X10_comparison_34 : decode prog_12_method_101_code 34 = .ok (.if_icmp .eq 9, 3) := by decide +kernel
theorem d_X10_comparison_37 : decode prog_12_method_101_code 37 = .ok (.iload_n 1, 1) := by decide +kernel
theorem d_X10_comparison_38 : decode prog_12_method_101_code 38 = .ok (.bipush 62, 2) := by decide +kernel
theorem d_X10_comparison_40 : decode prog_12_method_101_code 40 = .ok (.if_icmp .ne 7, 3) := by decide +kernel
theorem d_X10_comparison_43 : decode prog_12_method_101_code 43 = .ok (.iconst 1, 1) := by decide +kernel
theorem d_X10_comparison_44 : decode prog_12_method_101_code 44 = .ok (.goto 4, 3) := by decide +kernel
theorem d_X10_comparison_47 : decode prog_12_method_101_code 47 = .ok (.iconst 0, 1) := by decide +kernel
theorem d_X10_comparison_48 : decode prog_12_method_101_code 48 = .ok (.invokevirtual 317, 3) := by decide +kernel
theorem d_X10_comparison_51 : decode prog_12_method_101_code 51 = .ok (.aload_n 0, 1) := by decide +kernel
theorem d_X10_comparison_52 : decode prog_12_method_101_code 52 = .ok (.invokevirtual 359, 3) := by decide +kernel
theorem d_X10_comparison_55 : decode prog_12_method_101_code 55 = .ok (.aload_n 0, 1) := by decide +kernel
theorem d_X10_comparison_56 : decode prog_12_method_101_code 56 = .ok (.iload_n 1, 1) := by decide +kernel
theorem d_X10_comparison_57 : decode prog_12_method_101_code 57 = .ok (.bipush 60, 2) := by decide +kernel
theorem d_X10_comparison_59 : decode prog_12_method_101_code 59 = .ok (.if_icmp .ne 8, 3) := by decide +kernel
theorem d_X10_comparison_62 : decode prog_12_method_101_code 62 = .ok (.bipush (-11), 2) := by decide +kernel
theorem d_X10_comparison_64 : decode prog_12_method_101_code 64 = .ok (.goto 16, 3) := by decide +kernel
theorem d_X10_comparison_67 : decode prog_12_method_101_code 67 = .ok (.iload_n 1, 1) := by decide +kernel
theorem d_X10_comparison_68 : decode prog_12_method_101_code 68 = .ok (.bipush 61, 2) := by decide +kernel
theorem d_X10_comparison_70 : decode prog_12_method_101_code 70 = .ok (.if_icmp .ne 8, 3) := by decide +kernel
theorem d_X10_comparison_73 : decode prog_12_method_101_code 73 = .ok (.bipush (-12), 2) := by decide +kernel
theorem d_X10_comparison_75 : decode prog_12_method_101_code 75 = .ok (.goto 5, 3) := by decide +kernel
theorem d_X10_comparison_78 : decode prog_12_method_101_code 78 = .ok (.bipush (-13), 2) := by decide +kernel
theorem d_X10_comparison_80 : decode prog_12_method_101_code 80 = .ok (.invokevirtual 353, 3) := by decide +kernel
theorem d_X10_comparison_83 : decode prog_12_method_101_code 83 = .ok (.return_, 1) := by decide +kernel
theorem d_X10_one_0 : decode prog_12_method_102_code 0 = .ok (.iconst 0, 1) := by decide +kernel
theorem d_X10_one_1 : decode prog_12_method_102_code 1 = .ok (.istore_n 1, 1) := by decide +kernel
theorem d_X10_one_2 : decode prog_12_method_102_code 2 = .ok (.aload_n 0, 1) := by decide +kernel
theorem d_X10_one_3 : decode prog_12_method_102_code 3 = .ok (.invokevirtual 321, 3) := by decide +kernel
theorem d_X10_one_6 : decode prog_12_method_102_code 6 = .ok (.ldc2_w 362, 3) := by decide +kernel
theorem d_X10_one_9 : decode prog_12_method_102_code 9 = .ok (.lcmp, 1) := by decide +kernel
theorem d_X10_one_10 : decode prog_12_method_102_code 10 = .ok (.ifCond .ne 21, 3) := by decide +kernel
theorem d_X10_one_13 : decode prog_12_method_102_code 13 = .ok (.iload_n 1, 1) := by decide +kernel
theorem d_X10_one_14 : decode prog_12_method_102_code 14 = .ok (.ifCond .ne 7, 3) := by decide +kernel
theorem d_X10_one_17 : decode prog_12_method_102_code 17 = .ok (.iconst 1, 1) := by decide +kernel
theorem d_X10_one_18 : decode prog_12_method_102_code 18 = .ok (.goto 4, 3) := by decide +kernel
theorem d_X10_one_21 : decode prog_12_method_102_code 21 = .ok (.iconst 0, 1) := by decide +kernel
theorem d_X10_one_22 : decode prog_12_method_102_code 22 = .ok (.istore_n 1, 1) := by decide +kernel
theorem d_X10_one_23 : decode prog_12_method_102_code 23 = .ok (.aload_n 0, 1) := by decide +kernel
theorem d_X10_one_24 : decode prog_12_method_102_code 24 = .ok (.iconst 1, 1) := by decide +kernel
theorem d_X10_one_25 : decode prog_12_method_102_code 25 = .ok (.invokevirtual 317, 3) := by decide +kernel
theorem d_X10_one_28 : decode prog_12_method_102_code 28 = .ok (.goto (-26), 3) := by decide +kernel
theorem d_X10_one_31 : decode prog_12_method_102_code 31 = .ok (.aload_n 0, 1) := by decide +kernel
theorem d_X10_one_32 : decode prog_12_method_102_code 32 = .ok (.getfield 303, 3) := by decide +kernel
theorem d_X10_one_35 : decode prog_12_method_102_code 35 = .ok (.ifCond .ne 89, 3) := by decide +kernel
theorem d_X10_one_38 : decode prog_12_method_102_code 38 = .ok (.aload_n 0, 1) := by decide +kernel
theorem d_X10_one_39 : decode prog_12_method_102_code 39 = .ok (.aload_n 0, 1) := by decide +kernel
theorem d_X10_one_40 : decode prog_12_method_102_code 40 = .ok (.getfield 291, 3) := by decide +kernel
theorem d_X10_one_43 : decode prog_12_method_102_code 43 = .ok (.invokevirtual 294, 3) := by decide +kernel
theorem d_X10_one_46 : decode prog_12_method_102_code 46 = .ok (.bipush 40, 2) := by decide +kernel
theorem d_X10_one_48 : decode prog_12_method_102_code 48 = .ok (.if_icmp .ne 76, 3) := by decide +kernel
theorem d_X10_one_51 : decode prog_12_method_102_code 51 = .ok (.aload_n 0, 1) := by decide +kernel
theorem d_X10_one_52 : decode prog_12_method_102_code 52 = .ok (.aload_n 0, 1) := by decide +kernel
theorem d_X10_one_53 : decode prog_12_method_102_code 53 = .ok (.getfield 364, 3) := by decide +kernel
theorem d_X10_one_56 : decode prog_12_method_102_code 56 = .ok (.iconst 3, 1) := by decide +kernel
theorem d_X10_one_57 : decode prog_12_method_102_code 57 = .ok (.if_icmp .ge 7, 3) := by decide +kernel
theorem d_X10_one_60 : decode prog_12_method_102_code 60 = .ok (.iconst 1, 1) := by decide +kernel
theorem d_X10_one_61 : decode prog_12_method_102_code 61 = .ok (.goto 4, 3) := by decide +kernel
theorem d_X10_one_64 : decode prog_12_method_102_code 64 = .ok (.iconst 0, 1) := by decide +kernel
theorem d_X10_one_65 : decode prog_12_method_102_code 65 = .ok (.invokevirtual 317, 3) := by decide +kernel
theorem d_X10_one_68 : decode prog_12_method_102_code 68 = .ok (.aload_n 0, 1) := by decide +kernel
theorem d_X10_one_69 : decode prog_12_method_102_code 69 = .ok (.dup, 1) := by decide +kernel
theorem d_X10_one_70 : decode prog_12_method_102_code 70 = .ok (.getfield 364, 3) := by decide +kernel
theorem d_X10_one_73 : decode prog_12_method_102_code 73 = .ok (.iconst 1, 1) := by decide +kernel
theorem d_X10_one_74 : decode prog_12_method_102_code 74 = .ok (.iadd, 1) := by decide +kernel
theorem d_X10_one_75 : decode prog_12_method_102_code 75 = .ok (.putfield 364, 3) := by decide +kernel
theorem d_X10_one_78 : decode prog_12_method_102_code 78 = .ok (.aload_n 0, 1) := by decide +kernel
theorem d_X10_one_79 : decode prog_12_method_102_code 79 = .ok (.invokevirtual 367, 3) := by decide +kernel
theorem d_X10_one_82 : decode prog_12_method_102_code 82 = .ok (.aload_n 0, 1) := by decide +kernel
theorem d_X10_one_83 : decode prog_12_method_102_code 83 = .ok (.dup, 1) := by decide +kernel
theorem d_X10_one_84 : decode prog_12_method_102_code 84 = .ok (.getfield 364, 3) := by decide +kernel
theorem d_X10_one_87 : decode prog_12_method_102_code 87 = .ok (.iconst 1, 1) := by decide +kernel
theorem d_X10_one_88 : decode prog_12_method_102_code 88 = .ok (.isub, 1) := by decide +kernel
theorem d_X10_one_89 : decode prog_12_method_102_code 89 = .ok (.putfield 364, 3) := by decide +kernel
theorem d_X10_one_92 : decode prog_12_method_102_code 92 = .ok (.aload_n 0, 1) := by decide +kernel
theorem d_X10_one_93 : decode prog_12_method_102_code 93 = .ok (.aload_n 0, 1) := by decide +kernel
theorem d_X10_one_94 : decode prog_12_method_102_code 94 = .ok (.getfield 303, 3) := by decide +kernel
theorem d_X10_one_97 : decode prog_12_method_102_code 97 = .ok (.ifCond .ne 20, 3) := by decide +kernel
theorem d_X10_one_100 : decode prog_12_method_102_code 100 = .ok (.aload_n 0, 1) := by decide +kernel
theorem d_X10_one_101 : decode prog_12_method_102_code 101 = .ok (.aload_n 0, 1) := by decide +kernel
theorem d_X10_one_102 : decode prog_12_method_102_code 102 = .ok (.getfield 291, 3) := by decide +kernel
theorem d_X10_one_105 : decode prog_12_method_102_code 105 = .ok (.invokevirtual 294, 3) := by decide +kernel
theorem d_X10_one_108 : decode prog_12_method_102_code 108 = .ok (.bipush 41, 2) := by decide +kernel
theorem d_X10_one_110 : decode prog_12_method_102_code 110 = .ok (.if_icmp .ne 7, 3) := by decide +kernel
theorem d_X10_one_113 : decode prog_12_method_102_code 113 = .ok (.iconst 1, 1) := by decide +kernel
theorem d_X10_one_114 : decode prog_12_method_102_code 114 = .ok (.goto 4, 3) := by decide +kernel
theorem d_X10_one_117 : decode prog_12_method_102_code 117 = .ok (.iconst 0, 1) := by decide +kernel
theorem d_X10_one_118 : decode prog_12_method_102_code 118 = .ok (.invokevirtual 317, 3) := by decide +kernel
theorem d_X10_one_121 : decode prog_12_method_102_code 121 = .ok (.goto 7, 3) := by decide +kernel
theorem d_X10_one_124 : decode prog_12_method_102_code 124 = .ok (.aload_n 0, 1) := by decide +kernel
theorem d_X10_one_125 : decode prog_12_method_102_code 125 = .ok (.invokevirtual 370, 3) := by decide +kernel
theorem d_X10_one_128 : decode prog_12_method_102_code 128 = .ok (.iload_n 1, 1) := by decide +kernel
theorem d_X10_one_129 : decode prog_12_method_102_code 129 = .ok (.ifCond .eq 9, 3) := by decide +kernel
theorem d_X10_one_132 : decode prog_12_method_102_code 132 = .ok (.aload_n 0, 1) := by decide +kernel
theorem d_X10_one_133 : decode prog_12_method_102_code 133 = .ok (.bipush (-20), 2) := by decide +kernel
theorem d_X10_one_135 : decode prog_12_method_102_code 135 = .ok (.invokevirtual 353, 3) := by decide +kernel
theorem d_X10_one_138 : decode prog_12_method_102_code 138 = .ok (.return_, 1) := by decide +kernel
theorem d_X10_all_0 : decode prog_12_method_103_code 0 = .ok (.aload_n 0, 1) := by decide +kernel
theorem d_X10_all_1 : decode prog_12_method_103_code 1 = .ok (.invokevirtual 373, 3) := by decide +kernel
theorem d_X10_all_4 : decode prog_12_method_103_code 4 = .ok (.aload_n 0, 1) := by decide +kernel
theorem d_X10_all_5 : decode prog_12_method_103_code 5 = .ok (.invokevirtual 321, 3) := by decide +kernel
theorem d_X10_all_8 : decode prog_12_method_103_code 8 = .ok (.ldc2_w 376, 3) := by decide +kernel
theorem d_X10_all_11 : decode prog_12_method_103_code 11 = .ok (.lcmp, 1) := by decide +kernel
theorem d_X10_all_12 : decode prog_12_method_103_code 12 = .ok (.ifCond .ne 21, 3) := by decide +kernel
theorem d_X10_all_15 : decode prog_12_method_103_code 15 = .ok (.aload_n 0, 1) := by decide +kernel
theorem d_X10_all_16 : decode prog_12_method_103_code 16 = .ok (.iconst 1, 1) := by decide +kernel
theorem d_X10_all_17 : decode prog_12_method_103_code 17 = .ok (.invokevirtual 317, 3) := by decide +kernel
theorem d_X10_all_20 : decode prog_12_method_103_code 20 = .ok (.aload_n 0, 1) := by decide +kernel
theorem d_X10_all_21 : decode prog_12_method_103_code 21 = .ok (.invokevirtual 373, 3) := by decide +kernel
theorem d_X10_all_24 : decode prog_12_method_103_code 24 = .ok (.aload_n 0, 1) := by decide +kernel
theorem d_X10_all_25 : decode prog_12_method_103_code 25 = .ok (.bipush (-21), 2) := by decide +kernel
theorem d_X10_all_27 : decode prog_12_method_103_code 27 = .ok (.invokevirtual 353, 3) := by decide +kernel
theorem d_X10_all_30 : decode prog_12_method_103_code 30 = .ok (.goto (-26), 3) := by decide +kernel
theorem d_X10_all_33 : decode prog_12_method_103_code 33 = .ok (.return_, 1) := by decide +kernel
theorem d_X10_condition_0 : decode prog_12_method_104_code 0 = .ok (.aload_n 0, 1) := by decide +kernel
theorem d_X10_condition_1 : decode prog_12_method_104_code 1 = .ok (.getfield 303, 3) := by decide +kernel
theorem d_X10_condition_4 : decode prog_12_method_104_code 4 = .ok (.ifCond .eq 4, 3) := by decide +kernel
theorem d_X10_condition_7 : decode prog_12_method_104_code 7 = .ok (.return_, 1) := by decide +kernel
theorem d_X10_condition_8 : decode prog_12_method_104_code 8 = .ok (.aload_n 0, 1) := by decide +kernel
theorem d_X10_condition_9 : decode prog_12_method_104_code 9 = .ok (.invokevirtual 378, 3) := by decide +kernel
theorem d_X10_condition_12 : decode prog_12_method_104_code 12 = .ok (.aload_n 0, 1) := by decide +kernel
theorem d_X10_condition_13 : decode prog_12_method_104_code 13 = .ok (.invokevirtual 321, 3) := by decide +kernel
theorem d_X10_condition_16 : decode prog_12_method_104_code 16 = .ok (.ldc2_w 381, 3) := by decide +kernel
theorem d_X10_condition_19 : decode prog_12_method_104_code 19 = .ok (.lcmp, 1) := by decide +kernel
theorem d_X10_condition_20 : decode prog_12_method_104_code 20 = .ok (.ifCond .ne 21, 3) := by decide +kernel
theorem d_X10_condition_23 : decode prog_12_method_104_code 23 = .ok (.aload_n 0, 1) := by decide +kernel
theorem d_X10_condition_24 : decode prog_12_method_104_code 24 = .ok (.iconst 1, 1) := by decide +kernel
theorem d_X10_condition_25 : decode prog_12_method_104_code 25 = .ok (.invokevirtual 317, 3) := by decide +kernel
theorem d_X10_condition_28 : decode prog_12_method_104_code 28 = .ok (.aload_n 0, 1) := by decide +kernel
theorem d_X10_condition_29 : decode prog_12_method_104_code 29 = .ok (.invokevirtual 378, 3) := by decide +kernel
theorem d_X10_condition_32 : decode prog_12_method_104_code 32 = .ok (.aload_n 0, 1) := by decide +kernel
theorem d_X10_condition_33 : decode prog_12_method_104_code 33 = .ok (.bipush (-22), 2) := by decide +kernel
theorem d_X10_condition_35 : decode prog_12_method_104_code 35 = .ok (.invokevirtual 353, 3) := by decide +kernel
theorem d_X10_condition_38 : decode prog_12_method_104_code 38 = .ok (.goto (-26), 3) := by decide +kernel
theorem d_X10_condition_41 : decode prog_12_method_104_code 41 = .ok (.return_, 1) := by decide +kernel
theorem d_X10_rule_0 : decode prog_12_method_105_code 0 = .ok (.aload_n 0, 1) := by decide +kernel
theorem d_X10_rule_1 : decode prog_12_method_105_code 1 = .ok (.invokevirtual 383, 3) := by decide +kernel
theorem d_X10_rule_4 : decode prog_12_method_105_code 4 = .ok (.istore_n 1, 1) := by decide +kernel
theorem d_X10_rule_5 : decode prog_12_method_105_code 5 = .ok (.aload_n 0, 1) := by decide +kernel
theorem d_X10_rule_6 : decode prog_12_method_105_code 6 = .ok (.iload_n 1, 1) := by decide +kernel
theorem d_X10_rule_7 : decode prog_12_method_105_code 7 = .ok (.ifCond .lt 18, 3) := by decide +kernel
theorem d_X10_rule_10 : decode prog_12_method_105_code 10 = .ok (.aload_n 0, 1) := by decide +kernel
theorem d_X10_rule_11 : decode prog_12_method_105_code 11 = .ok (.getfield 7, 3) := by decide +kernel
theorem d_X10_rule_14 : decode prog_12_method_105_code 14 = .ok (.iconst 1, 1) := by decide +kernel
theorem d_X10_rule_15 : decode prog_12_method_105_code 15 = .ok (.iaload, 1) := by decide +kernel
theorem d_X10_rule_16 : decode prog_12_method_105_code 16 = .ok (.bipush 8, 2) := by decide +kernel
theorem d_X10_rule_18 : decode prog_12_method_105_code 18 = .ok (.if_icmp .ge 7, 3) := by decide +kernel
theorem d_X10_rule_21 : decode prog_12_method_105_code 21 = .ok (.iconst 1, 1) := by decide +kernel
theorem d_X10_rule_22 : decode prog_12_method_105_code 22 = .ok (.goto 4, 3) := by decide +kernel
theorem d_X10_rule_25 : decode prog_12_method_105_code 25 = .ok (.iconst 0, 1) := by decide +kernel
theorem d_X10_rule_26 : decode prog_12_method_105_code 26 = .ok (.invokevirtual 317, 3) := by decide +kernel
theorem d_X10_rule_29 : decode prog_12_method_105_code 29 = .ok (.aload_n 0, 1) := by decide +kernel
theorem d_X10_rule_30 : decode prog_12_method_105_code 30 = .ok (.invokevirtual 321, 3) := by decide +kernel
theorem d_X10_rule_33 : decode prog_12_method_105_code 33 = .ok (.ldc2_w 386, 3) := by decide +kernel
theorem d_X10_rule_36 : decode prog_12_method_105_code 36 = .ok (.lcmp, 1) := by decide +kernel
theorem d_X10_rule_37 : decode prog_12_method_105_code 37 = .ok (.ifCond .ne 12, 3) := by decide +kernel
theorem d_X10_rule_40 : decode prog_12_method_105_code 40 = .ok (.aload_n 0, 1) := by decide +kernel
theorem d_X10_rule_41 : decode prog_12_method_105_code 41 = .ok (.iconst 1, 1) := by decide +kernel
theorem d_X10_rule_42 : decode prog_12_method_105_code 42 = .ok (.invokevirtual 317, 3) := by decide +kernel
theorem d_X10_rule_45 : decode prog_12_method_105_code 45 = .ok (.aload_n 0, 1) := by decide +kernel
theorem d_X10_rule_46 : decode prog_12_method_105_code 46 = .ok (.invokevirtual 367, 3) := by decide +kernel
theorem d_X10_rule_49 : decode prog_12_method_105_code 49 = .ok (.aload_n 0, 1) := by decide +kernel
theorem d_X10_rule_50 : decode prog_12_method_105_code 50 = .ok (.invokevirtual 321, 3) := by decide +kernel
theorem d_X10_rule_53 : decode prog_12_method_105_code 53 = .ok (.lstore_n 2, 1) := by decide +kernel
theorem d_X10_rule_54 : decode prog_12_method_105_code 54 = .ok (.lload_n 2, 1) := by decide +kernel
theorem d_X10_rule_55 : decode prog_12_method_105_code 55 = .ok (.ldc2_w 388, 3) := by decide +kernel
theorem d_X10_rule_58 : decode prog_12_method_105_code 58 = .ok (.lcmp, 1) := by decide +kernel
theorem d_X10_rule_59 : decode prog_12_method_105_code 59 = .ok (.ifCond .ne 7, 3) := by decide +kernel
theorem d_X10_rule_62 : decode prog_12_method_105_code 62 = .ok (.iconst 0, 1) := by decide +kernel
theorem d_X10_rule_63 : decode prog_12_method_105_code 63 = .ok (.goto 28, 3) := by decide +kernel
theorem d_X10_rule_66 : decode prog_12_method_105_code 66 = .ok (.lload_n 2, 1) := by decide +kernel
theorem d_X10_rule_67 : decode prog_12_method_105_code 67 = .ok (.ldc2_w 390, 3) := by decide +kernel
theorem d_X10_rule_70 : decode prog_12_method_105_code 70 = .ok (.lcmp, 1) := by decide +kernel
theorem d_X10_rule_71 : decode prog_12_method_105_code 71 = .ok (.ifCond .ne 7, 3) := by decide +kernel
theorem d_X10_rule_74 : decode prog_12_method_105_code 74 = .ok (.iconst 1, 1) := by decide +kernel
theorem d_X10_rule_75 : decode prog_12_method_105_code 75 = .ok (.goto 16, 3) := by decide +kernel
theorem d_X10_rule_78 : decode prog_12_method_105_code 78 = .ok (.lload_n 2, 1) := by decide +kernel
theorem d_X10_rule_79 : decode prog_12_method_105_code 79 = .ok (.ldc2_w 392, 3) := by decide +kernel
theorem d_X10_rule_82 : decode prog_12_method_105_code 82 = .ok (.lcmp, 1) := by decide +kernel
theorem d_X10_rule_83 : decode prog_12_method_105_code 83 = .ok (.ifCond .ne 7, 3) := by decide +kernel
theorem d_X10_rule_86 : decode prog_12_method_105_code 86 = .ok (.iconst 2, 1) := by decide +kernel
theorem d_X10_rule_87 : decode prog_12_method_105_code 87 = .ok (.goto 4, 3) := by decide +kernel
theorem d_X10_rule_90 : decode prog_12_method_105_code 90 = .ok (.iconst (-1), 1) := by decide +kernel
theorem d_X10_rule_91 : decode prog_12_method_105_code 91 = .ok (.istore 4, 2) := by decide +kernel
theorem d_X10_rule_93 : decode prog_12_method_105_code 93 = .ok (.aload_n 0, 1) := by decide +kernel
theorem d_X10_rule_94 : decode prog_12_method_105_code 94 = .ok (.iload 4, 2) := by decide +kernel
theorem d_X10_rule_96 : decode prog_12_method_105_code 96 = .ok (.ifCond .lt 7, 3) := by decide +kernel
theorem d_X10_rule_99 : decode prog_12_method_105_code 99 = .ok (.iconst 1, 1) := by decide +kernel
theorem d_X10_rule_100 : decode prog_12_method_105_code 100 = .ok (.goto 4, 3) := by decide +kernel
theorem d_X10_rule_103 : decode prog_12_method_105_code 103 = .ok (.iconst 0, 1) := by decide +kernel
theorem d_X10_rule_104 : decode prog_12_method_105_code 104 = .ok (.invokevirtual 317, 3) := by decide +kernel
theorem d_X10_rule_107 : decode prog_12_method_105_code 107 = .ok (.aload_n 0, 1) := by decide +kernel
theorem d_X10_rule_108 : decode prog_12_method_105_code 108 = .ok (.iconst 0, 1) := by decide +kernel
theorem d_X10_rule_109 : decode prog_12_method_105_code 109 = .ok (.putfield 314, 3) := by decide +kernel
theorem d_X10_rule_112 : decode prog_12_method_105_code 112 = .ok (.iload 4, 2) := by decide +kernel
theorem d_X10_rule_114 : decode prog_12_method_105_code 114 = .ok (.ifCond .lt 22, 3) := by decide +kernel
theorem d_X10_rule_117 : decode prog_12_method_105_code 117 = .ok (.iload 4, 2) := by decide +kernel
theorem d_X10_rule_119 : decode prog_12_method_105_code 119 = .ok (.iconst 2, 1) := by decide +kernel
theorem d_X10_rule_120 : decode prog_12_method_105_code 120 = .ok (.if_icmp .eq 16, 3) := by decide +kernel
theorem d_X10_rule_123 : decode prog_12_method_105_code 123 = .ok (.aload_n 0, 1) := by decide +kernel
theorem d_X10_rule_124 : decode prog_12_method_105_code 124 = .ok (.getfield 303, 3) := by decide +kernel
theorem d_X10_rule_127 : decode prog_12_method_105_code 127 = .ok (.ifCond .ne 9, 3) := by decide +kernel
theorem d_X10_rule_130 : decode prog_12_method_105_code 130 = .ok (.aload_n 0, 1) := by decide +kernel
theorem d_X10_rule_131 : decode prog_12_method_105_code 131 = .ok (.bipush 99, 2) := by decide +kernel
theorem d_X10_rule_133 : decode prog_12_method_105_code 133 = .ok (.invokevirtual 356, 3) := by decide +kernel
theorem d_X10_rule_136 : decode prog_12_method_105_code 136 = .ok (.aload_n 0, 1) := by decide +kernel
theorem d_X10_rule_137 : decode prog_12_method_105_code 137 = .ok (.getfield 314, 3) := by decide +kernel
theorem d_X10_rule_140 : decode prog_12_method_105_code 140 = .ok (.istore 5, 2) := by decide +kernel
theorem d_X10_rule_142 : decode prog_12_method_105_code 142 = .ok (.aload_n 0, 1) := by decide +kernel
theorem d_X10_rule_143 : decode prog_12_method_105_code 143 = .ok (.aload_n 0, 1) := by decide +kernel
theorem d_X10_rule_144 : decode prog_12_method_105_code 144 = .ok (.getfield 303, 3) := by decide +kernel
theorem d_X10_rule_147 : decode prog_12_method_105_code 147 = .ok (.ifCond .ne 20, 3) := by decide +kernel
theorem d_X10_rule_150 : decode prog_12_method_105_code 150 = .ok (.aload_n 0, 1) := by decide +kernel
theorem d_X10_rule_151 : decode prog_12_method_105_code 151 = .ok (.aload_n 0, 1) := by decide +kernel
theorem d_X10_rule_152 : decode prog_12_method_105_code 152 = .ok (.getfield 291, 3) := by decide +kernel
theorem d_X10_rule_155 : decode prog_12_method_105_code 155 = .ok (.invokevirtual 294, 3) := by decide +kernel
theorem d_X10_rule_158 : decode prog_12_method_105_code 158 = .ok (.bipush 59, 2) := by decide +kernel
theorem d_X10_rule_160 : decode prog_12_method_105_code 160 = .ok (.if_icmp .ne 7, 3) := by decide +kernel
theorem d_X10_rule_163 : decode prog_12_method_105_code 163 = .ok (.iconst 1, 1) := by decide +kernel
theorem d_X10_rule_164 : decode prog_12_method_105_code 164 = .ok (.goto 4, 3) := by decide +kernel
theorem d_X10_rule_167 : decode prog_12_method_105_code 167 = .ok (.iconst 0, 1) := by decide +kernel
theorem d_X10_rule_168 : decode prog_12_method_105_code 168 = .ok (.invokevirtual 317, 3) := by decide +kernel
theorem d_X10_rule_171 : decode prog_12_method_105_code 171 = .ok (.aload_n 0, 1) := by decide +kernel
theorem d_X10_rule_172 : decode prog_12_method_105_code 172 = .ok (.getfield 303, 3) := by decide +kernel
theorem d_X10_rule_175 : decode prog_12_method_105_code 175 = .ok (.ifCond .ne 71, 3) := by decide +kernel
theorem d_X10_rule_178 : decode prog_12_method_105_code 178 = .ok (.bipush 65, 2) := by decide +kernel
theorem d_X10_rule_180 : decode prog_12_method_105_code 180 = .ok (.iconst 4, 1) := by decide +kernel
theorem d_X10_rule_181 : decode prog_12_method_105_code 181 = .ok (.aload_n 0, 1) := by decide +kernel
theorem d_X10_rule_182 : decode prog_12_method_105_code 182 = .ok (.getfield 7, 3) := by decide +kernel
theorem d_X10_rule_185 : decode prog_12_method_105_code 185 = .ok (.iconst 1, 1) := by decide +kernel
theorem d_X10_rule_186 : decode prog_12_method_105_code 186 = .ok (.iaload, 1) := by decide +kernel
theorem d_X10_rule_187 : decode prog_12_method_105_code 187 = .ok (.imul, 1) := by decide +kernel
theorem d_X10_rule_188 : decode prog_12_method_105_code 188 = .ok (.iadd, 1) := by decide +kernel
theorem d_X10_rule_189 : decode prog_12_method_105_code 189 = .ok (.istore 6, 2) := by decide +kernel
theorem d_X10_rule_191 : decode prog_12_method_105_code 191 = .ok (.aload_n 0, 1) := by decide +kernel
theorem d_X10_rule_192 : decode prog_12_method_105_code 192 = .ok (.getfield 7, 3) := by decide +kernel
theorem d_X10_rule_195 : decode prog_12_method_105_code 195 = .ok (.iload 6, 2) := by decide +kernel
theorem d_X10_rule_197 : decode prog_12_method_105_code 197 = .ok (.iconst 0, 1) := by decide +kernel
theorem d_X10_rule_198 : decode prog_12_method_105_code 198 = .ok (.iadd, 1) := by decide +kernel
theorem d_X10_rule_199 : decode prog_12_method_105_code 199 = .ok (.iload_n 1, 1) := by decide +kernel
theorem d_X10_rule_200 : decode prog_12_method_105_code 200 = .ok (.iastore, 1) := by decide +kernel
theorem d_X10_rule_201 : decode prog_12_method_105_code 201 = .ok (.aload_n 0, 1) := by decide +kernel
theorem d_X10_rule_202 : decode prog_12_method_105_code 202 = .ok (.getfield 7, 3) := by decide +kernel
theorem d_X10_rule_205 : decode prog_12_method_105_code 205 = .ok (.iload 6, 2) := by decide +kernel
theorem d_X10_rule_207 : decode prog_12_method_105_code 207 = .ok (.iconst 1, 1) := by decide +kernel
theorem d_X10_rule_208 : decode prog_12_method_105_code 208 = .ok (.iadd, 1) := by decide +kernel
theorem d_X10_rule_209 : decode prog_12_method_105_code 209 = .ok (.iload 4, 2) := by decide +kernel
theorem d_X10_rule_211 : decode prog_12_method_105_code 211 = .ok (.iastore, 1) := by decide +kernel
theorem d_X10_rule_212 : decode prog_12_method_105_code 212 = .ok (.aload_n 0, 1) := by decide +kernel
theorem d_X10_rule_213 : decode prog_12_method_105_code 213 = .ok (.getfield 7, 3) := by decide +kernel
theorem d_X10_rule_216 : decode prog_12_method_105_code 216 = .ok (.iload 6, 2) := by decide +kernel
theorem d_X10_rule_218 : decode prog_12_method_105_code 218 = .ok (.iconst 2, 1) := by decide +kernel
theorem d_X10_rule_219 : decode prog_12_method_105_code 219 = .ok (.iadd, 1) := by decide +kernel
theorem d_X10_rule_220 : decode prog_12_method_105_code 220 = .ok (.iload 5, 2) := by decide +kernel
theorem d_X10_rule_222 : decode prog_12_method_105_code 222 = .ok (.iastore, 1) := by decide +kernel
theorem d_X10_rule_223 : decode prog_12_method_105_code 223 = .ok (.aload_n 0, 1) := by decide +kernel
theorem d_X10_rule_224 : decode prog_12_method_105_code 224 = .ok (.getfield 7, 3) := by decide +kernel
theorem d_X10_rule_227 : decode prog_12_method_105_code 227 = .ok (.iload 6, 2) := by decide +kernel
theorem d_X10_rule_229 : decode prog_12_method_105_code 229 = .ok (.iconst 3, 1) := by decide +kernel
theorem d_X10_rule_230 : decode prog_12_method_105_code 230 = .ok (.iadd, 1) := by decide +kernel
theorem d_X10_rule_231 : decode prog_12_method_105_code 231 = .ok (.aload_n 0, 1) := by decide +kernel
theorem d_X10_rule_232 : decode prog_12_method_105_code 232 = .ok (.getfield 347, 3) := by decide +kernel
theorem d_X10_rule_235 : decode prog_12_method_105_code 235 = .ok (.iastore, 1) := by decide +kernel
theorem d_X10_rule_236 : decode prog_12_method_105_code 236 = .ok (.aload_n 0, 1) := by decide +kernel
theorem d_X10_rule_237 : decode prog_12_method_105_code 237 = .ok (.getfield 7, 3) := by decide +kernel
theorem d_X10_rule_240 : decode prog_12_method_105_code 240 = .ok (.iconst 1, 1) := by decide +kernel
theorem d_X10_rule_241 : decode prog_12_method_105_code 241 = .ok (.dup2, 1) := by decide +kernel
theorem d_X10_rule_242 : decode prog_12_method_105_code 242 = .ok (.iaload, 1) := by decide +kernel
theorem d_X10_rule_243 : decode prog_12_method_105_code 243 = .ok (.iconst 1, 1) := by decide +kernel
theorem d_X10_rule_244 : decode prog_12_method_105_code 244 = .ok (.iadd, 1) := by decide +kernel
theorem d_X10_rule_245 : decode prog_12_method_105_code 245 = .ok (.iastore, 1) := by decide +kernel
theorem d_X10_rule_246 : decode prog_12_method_105_code 246 = .ok (.return_, 1) := by decide +kernel
theorem d_X10_rules_0 : decode prog_12_method_106_code 0 = .ok (.aload_n 0, 1) := by decide +kernel
theorem d_X10_rules_1 : decode prog_12_method_106_code 1 = .ok (.invokevirtual 255, 3) := by decide +kernel
theorem d_X10_rules_4 : decode prog_12_method_106_code 4 = .ok (.aload_n 0, 1) := by decide +kernel
theorem d_X10_rules_5 : decode prog_12_method_106_code 5 = .ok (.getfield 7, 3) := by decide +kernel
theorem d_X10_rules_8 : decode prog_12_method_106_code 8 = .ok (.iconst 1, 1) := by decide +kernel
theorem d_X10_rules_9 : decode prog_12_method_106_code 9 = .ok (.iconst 0, 1) := by decide +kernel
theorem d_X10_rules_10 : decode prog_12_method_106_code 10 = .ok (.iastore, 1) := by decide +kernel
theorem d_X10_rules_11 : decode prog_12_method_106_code 11 = .ok (.aload_n 0, 1) := by decide +kernel
theorem d_X10_rules_12 : decode prog_12_method_106_code 12 = .ok (.iconst 0, 1) := by decide +kernel
theorem d_X10_rules_13 : decode prog_12_method_106_code 13 = .ok (.putfield 347, 3) := by decide +kernel
theorem d_X10_rules_16 : decode prog_12_method_106_code 16 = .ok (.aload_n 0, 1) := by decide +kernel
theorem d_X10_rules_17 : decode prog_12_method_106_code 17 = .ok (.iconst 0, 1) := by decide +kernel
theorem d_X10_rules_18 : decode prog_12_method_106_code 18 = .ok (.putfield 364, 3) := by decide +kernel
theorem d_X10_rules_21 : decode prog_12_method_106_code 21 = .ok (.aload_n 0, 1) := by decide +kernel
theorem d_X10_rules_22 : decode prog_12_method_106_code 22 = .ok (.iconst 0, 1) := by decide +kernel
theorem d_X10_rules_23 : decode prog_12_method_106_code 23 = .ok (.putfield 288, 3) := by decide +kernel
theorem d_X10_rules_26 : decode prog_12_method_106_code 26 = .ok (.aload_n 0, 1) := by decide +kernel
theorem d_X10_rules_27 : decode prog_12_method_106_code 27 = .ok (.iconst 0, 1) := by decide +kernel
theorem d_X10_rules_28 : decode prog_12_method_106_code 28 = .ok (.putfield 303, 3) := by decide +kernel
theorem d_X10_rules_31 : decode prog_12_method_106_code 31 = .ok (.aload_n 0, 1) := by decide +kernel
theorem d_X10_rules_32 : decode prog_12_method_106_code 32 = .ok (.invokevirtual 307, 3) := by decide +kernel
theorem d_X10_rules_35 : decode prog_12_method_106_code 35 = .ok (.aload_n 0, 1) := by decide +kernel
theorem d_X10_rules_36 : decode prog_12_method_106_code 36 = .ok (.getfield 303, 3) := by decide +kernel
theorem d_X10_rules_39 : decode prog_12_method_106_code 39 = .ok (.ifCond .ne 21, 3) := by decide +kernel
theorem d_X10_rules_42 : decode prog_12_method_106_code 42 = .ok (.aload_n 0, 1) := by decide +kernel
theorem d_X10_rules_43 : decode prog_12_method_106_code 43 = .ok (.getfield 291, 3) := by decide +kernel
theorem d_X10_rules_46 : decode prog_12_method_106_code 46 = .ok (.aload_n 0, 1) := by decide +kernel
theorem d_X10_rules_47 : decode prog_12_method_106_code 47 = .ok (.getfield 275, 3) := by decide +kernel
theorem d_X10_rules_50 : decode prog_12_method_106_code 50 = .ok (.if_icmp .ge 10, 3) := by decide +kernel
theorem d_X10_rules_53 : decode prog_12_method_106_code 53 = .ok (.aload_n 0, 1) := by decide +kernel
theorem d_X10_rules_54 : decode prog_12_method_106_code 54 = .ok (.invokevirtual 394, 3) := by decide +kernel
theorem d_X10_rules_57 : decode prog_12_method_106_code 57 = .ok (.goto (-22), 3) := by decide +kernel
theorem d_X10_rules_60 : decode prog_12_method_106_code 60 = .ok (.aload_n 0, 1) := by decide +kernel
theorem d_X10_rules_61 : decode prog_12_method_106_code 61 = .ok (.iconst 0, 1) := by decide +kernel
theorem d_X10_rules_62 : decode prog_12_method_106_code 62 = .ok (.putfield 275, 3) := by decide +kernel
theorem d_X10_rules_65 : decode prog_12_method_106_code 65 = .ok (.aload_n 0, 1) := by decide +kernel
theorem d_X10_rules_66 : decode prog_12_method_106_code 66 = .ok (.getfield 303, 3) := by decide +kernel
theorem d_X10_rules_69 : decode prog_12_method_106_code 69 = .ok (.ifCond .eq 15, 3) := by decide +kernel
theorem d_X10_rules_72 : decode prog_12_method_106_code 72 = .ok (.aload_n 0, 1) := by decide +kernel
theorem d_X10_rules_73 : decode prog_12_method_106_code 73 = .ok (.invokevirtual 261, 3) := by decide +kernel
theorem d_X10_rules_76 : decode prog_12_method_106_code 76 = .ok (.bipush (-100), 2) := by decide +kernel
theorem d_X10_rules_78 : decode prog_12_method_106_code 78 = .ok (.aload_n 0, 1) := by decide +kernel
theorem d_X10_rules_79 : decode prog_12_method_106_code 79 = .ok (.getfield 291, 3) := by decide +kernel
theorem d_X10_rules_82 : decode prog_12_method_106_code 82 = .ok (.isub, 1) := by decide +kernel
theorem d_X10_rules_83 : decode prog_12_method_106_code 83 = .ok (.ireturn, 1) := by decide +kernel
theorem d_X10_rules_84 : decode prog_12_method_106_code 84 = .ok (.aload_n 0, 1) := by decide +kernel
theorem d_X10_rules_85 : decode prog_12_method_106_code 85 = .ok (.getfield 7, 3) := by decide +kernel
theorem d_X10_rules_88 : decode prog_12_method_106_code 88 = .ok (.iconst 1, 1) := by decide +kernel
theorem d_X10_rules_89 : decode prog_12_method_106_code 89 = .ok (.iaload, 1) := by decide +kernel
theorem d_X10_rules_90 : decode prog_12_method_106_code 90 = .ok (.ireturn, 1) := by decide +kernel
theorem d_X10_isOne_0 : decode prog_12_method_107_code 0 = .ok (.iload_n 0, 1) := by decide +kernel
theorem d_X10_isOne_1 : decode prog_12_method_107_code 1 = .ok (.i2l, 1) := by decide +kernel
theorem d_X10_isOne_2 : decode prog_12_method_107_code 2 = .ok (.lconst 0, 1) := by decide +kernel
theorem d_X10_isOne_3 : decode prog_12_method_107_code 3 = .ok (.ldc2_w 127, 3) := by decide +kernel
theorem d_X10_isOne_6 : decode prog_12_method_107_code 6 = .ok (.invokestatic 74, 3) := by decide +kernel
theorem d_X10_isOne_9 : decode prog_12_method_107_code 9 = .ok (.ireturn, 1) := by decide +kernel
theorem d_X10_sheet_0 : decode prog_12_method_108_code 0 = .ok (.iload_n 1, 1) := by decide +kernel
theorem d_X10_sheet_1 : decode prog_12_method_108_code 1 = .ok (.invokestatic 397, 3) := by decide +kernel
theorem d_X10_sheet_4 : decode prog_12_method_108_code 4 = .ok (.ifCond .eq 27, 3) := by decide +kernel
theorem d_X10_sheet_7 : decode prog_12_method_108_code 7 = .ok (.iload_n 2, 1) := by decide +kernel
theorem d_X10_sheet_8 : decode prog_12_method_108_code 8 = .ok (.i2l, 1) := by decide +kernel
theorem d_X10_sheet_9 : decode prog_12_method_108_code 9 = .ok (.ldc2_w 400, 3) := by decide +kernel
theorem d_X10_sheet_12 : decode prog_12_method_108_code 12 = .ok (.ldc2_w 402, 3) := by decide +kernel
theorem d_X10_sheet_15 : decode prog_12_method_108_code 15 = .ok (.invokestatic 74, 3) := by decide +kernel
theorem d_X10_sheet_18 : decode prog_12_method_108_code 18 = .ok (.ifCond .eq 13, 3) := by decide +kernel
theorem d_X10_sheet_21 : decode prog_12_method_108_code 21 = .ok (.iload_n 2, 1) := by decide +kernel
theorem d_X10_sheet_22 : decode prog_12_method_108_code 22 = .ok (.ifCond .lt 11, 3) := by decide +kernel
theorem d_X10_sheet_25 : decode prog_12_method_108_code 25 = .ok (.iload_n 3, 1) := by decide +kernel
theorem d_X10_sheet_26 : decode prog_12_method_108_code 26 = .ok (.bipush 40, 2) := by decide +kernel
theorem d_X10_sheet_28 : decode prog_12_method_108_code 28 = .ok (.if_icmp .le 5, 3) := by decide +kernel
theorem d_X10_sheet_31 : decode prog_12_method_108_code 31 = .ok (.iconst (-1), 1) := by decide +kernel
theorem d_X10_sheet_32 : decode prog_12_method_108_code 32 = .ok (.ireturn, 1) := by decide +kernel
theorem d_X10_sheet_33 : decode prog_12_method_108_code 33 = .ok (.iload_n 2, 1) := by decide +kernel
theorem d_X10_sheet_34 : decode prog_12_method_108_code 34 = .ok (.ifCond .lt 10, 3) := by decide +kernel
theorem d_X10_sheet_37 : decode prog_12_method_108_code 37 = .ok (.iload_n 3, 1) := by decide +kernel
theorem d_X10_sheet_38 : decode prog_12_method_108_code 38 = .ok (.ifCond .ge 6, 3) := by decide +kernel
theorem d_X10_sheet_41 : decode prog_12_method_108_code 41 = .ok (.bipush (-14), 2) := by decide +kernel
theorem d_X10_sheet_43 : decode prog_12_method_108_code 43 = .ok (.ireturn, 1) := by decide +kernel
theorem d_X10_sheet_44 : decode prog_12_method_108_code 44 = .ok (.aload_n 0, 1) := by decide +kernel
theorem d_X10_sheet_45 : decode prog_12_method_108_code 45 = .ok (.getfield 53, 3) := by decide +kernel
theorem d_X10_sheet_48 : decode prog_12_method_108_code 48 = .ok (.iload_n 1, 1) := by decide +kernel
theorem d_X10_sheet_49 : decode prog_12_method_108_code 49 = .ok (.iload_n 2, 1) := by decide +kernel
theorem d_X10_sheet_50 : decode prog_12_method_108_code 50 = .ok (.iastore, 1) := by decide +kernel
theorem d_X10_sheet_51 : decode prog_12_method_108_code 51 = .ok (.aload_n 0, 1) := by decide +kernel
theorem d_X10_sheet_52 : decode prog_12_method_108_code 52 = .ok (.getfield 56, 3) := by decide +kernel
theorem d_X10_sheet_55 : decode prog_12_method_108_code 55 = .ok (.iload_n 1, 1) := by decide +kernel
theorem d_X10_sheet_56 : decode prog_12_method_108_code 56 = .ok (.iload_n 2, 1) := by decide +kernel
theorem d_X10_sheet_57 : decode prog_12_method_108_code 57 = .ok (.ifCond .ge 7, 3) := by decide +kernel
theorem d_X10_sheet_60 : decode prog_12_method_108_code 60 = .ok (.iconst 0, 1) := by decide +kernel
theorem d_X10_sheet_61 : decode prog_12_method_108_code 61 = .ok (.goto 4, 3) := by decide +kernel
theorem d_X10_sheet_64 : decode prog_12_method_108_code 64 = .ok (.iload_n 3, 1) := by decide +kernel
theorem d_X10_sheet_65 : decode prog_12_method_108_code 65 = .ok (.iastore, 1) := by decide +kernel
theorem d_X10_sheet_66 : decode prog_12_method_108_code 66 = .ok (.iconst 0, 1) := by decide +kernel
theorem d_X10_sheet_67 : decode prog_12_method_108_code 67 = .ok (.istore 4, 2) := by decide +kernel
theorem d_X10_sheet_69 : decode prog_12_method_108_code 69 = .ok (.iload 4, 2) := by decide +kernel
theorem d_X10_sheet_71 : decode prog_12_method_108_code 71 = .ok (.bipush 40, 2) := by decide +kernel
theorem d_X10_sheet_73 : decode prog_12_method_108_code 73 = .ok (.if_icmp .ge 22, 3) := by decide +kernel
theorem d_X10_sheet_76 : decode prog_12_method_108_code 76 = .ok (.aload_n 0, 1) := by decide +kernel
theorem d_X10_sheet_77 : decode prog_12_method_108_code 77 = .ok (.getfield 59, 3) := by decide +kernel
theorem d_X10_sheet_80 : decode prog_12_method_108_code 80 = .ok (.bipush 40, 2) := by decide +kernel
theorem d_X10_sheet_82 : decode prog_12_method_108_code 82 = .ok (.iload_n 1, 1) := by decide +kernel
theorem d_X10_sheet_83 : decode prog_12_method_108_code 83 = .ok (.imul, 1) := by decide +kernel
theorem d_X10_sheet_84 : decode prog_12_method_108_code 84 = .ok (.iload 4, 2) := by decide +kernel
theorem d_X10_sheet_86 : decode prog_12_method_108_code 86 = .ok (.iadd, 1) := by decide +kernel
theorem d_X10_sheet_87 : decode prog_12_method_108_code 87 = .ok (.iconst 0, 1) := by decide +kernel
theorem d_X10_sheet_88 : decode prog_12_method_108_code 88 = .ok (.iastore, 1) := by decide +kernel
theorem d_X10_sheet_89 : decode prog_12_method_108_code 89 = .ok (.iinc 4 1, 3) := by decide +kernel
theorem d_X10_sheet_92 : decode prog_12_method_108_code 92 = .ok (.goto (-23), 3) := by decide +kernel
theorem d_X10_sheet_95 : decode prog_12_method_108_code 95 = .ok (.iconst 1, 1) := by decide +kernel
theorem d_X10_sheet_96 : decode prog_12_method_108_code 96 = .ok (.ireturn, 1) := by decide +kernel
theorem d_X10_narrowed_0 : decode prog_12_method_109_code 0 = .ok (.iload_n 0, 1) := by decide +kernel
theorem d_X10_narrowed_1 : decode prog_12_method_109_code 1 = .ok (.ifCond .ne 8, 3) := by decide +kernel
theorem d_X10_narrowed_4 : decode prog_12_method_109_code 4 = .ok (.iload_n 1, 1) := by decide +kernel
theorem d_X10_narrowed_5 : decode prog_12_method_109_code 5 = .ok (.i2b, 1) := by decide +kernel
theorem d_X10_narrowed_6 : decode prog_12_method_109_code 6 = .ok (.goto 31, 3) := by decide +kernel
theorem d_X10_narrowed_9 : decode prog_12_method_109_code 9 = .ok (.iload_n 0, 1) := by decide +kernel
theorem d_X10_narrowed_10 : decode prog_12_method_109_code 10 = .ok (.iconst 1, 1) := by decide +kernel
theorem d_X10_narrowed_11 : decode prog_12_method_109_code 11 = .ok (.if_icmp .ne 8, 3) := by decide +kernel
theorem d_X10_narrowed_14 : decode prog_12_method_109_code 14 = .ok (.iload_n 1, 1) := by decide +kernel
theorem d_X10_narrowed_15 : decode prog_12_method_109_code 15 = .ok (.i2s, 1) := by decide +kernel
theorem d_X10_narrowed_16 : decode prog_12_method_109_code 16 = .ok (.goto 21, 3) := by decide +kernel
theorem d_X10_narrowed_19 : decode prog_12_method_109_code 19 = .ok (.iload_n 0, 1) := by decide +kernel
theorem d_X10_narrowed_20 : decode prog_12_method_109_code 20 = .ok (.iconst 4, 1) := by decide +kernel
theorem d_X10_narrowed_21 : decode prog_12_method_109_code 21 = .ok (.if_icmp .ne 15, 3) := by decide +kernel
theorem d_X10_narrowed_24 : decode prog_12_method_109_code 24 = .ok (.iload_n 1, 1) := by decide +kernel
theorem d_X10_narrowed_25 : decode prog_12_method_109_code 25 = .ok (.ifCond .ne 7, 3) := by decide +kernel
theorem d_X10_narrowed_28 : decode prog_12_method_109_code 28 = .ok (.iconst 0, 1) := by decide +kernel
theorem d_X10_narrowed_29 : decode prog_12_method_109_code 29 = .ok (.goto 8, 3) := by decide +kernel
theorem d_X10_narrowed_32 : decode prog_12_method_109_code 32 = .ok (.iconst 1, 1) := by decide +kernel
theorem d_X10_narrowed_33 : decode prog_12_method_109_code 33 = .ok (.goto 4, 3) := by decide +kernel
theorem d_X10_narrowed_36 : decode prog_12_method_109_code 36 = .ok (.iload_n 1, 1) := by decide +kernel
theorem d_X10_narrowed_37 : decode prog_12_method_109_code 37 = .ok (.ireturn, 1) := by decide +kernel
theorem d_X10_write_0 : decode prog_12_method_110_code 0 = .ok (.iload_n 1, 1) := by decide +kernel
theorem d_X10_write_1 : decode prog_12_method_110_code 1 = .ok (.invokestatic 397, 3) := by decide +kernel
theorem d_X10_write_4 : decode prog_12_method_110_code 4 = .ok (.ifCond .ne 5, 3) := by decide +kernel
theorem d_X10_write_7 : decode prog_12_method_110_code 7 = .ok (.iconst (-1), 1) := by decide +kernel
theorem d_X10_write_8 : decode prog_12_method_110_code 8 = .ok (.ireturn, 1) := by decide +kernel
theorem d_X10_write_9 : decode prog_12_method_110_code 9 = .ok (.aload_n 0, 1) := by decide +kernel
theorem d_X10_write_10 : decode prog_12_method_110_code 10 = .ok (.getfield 53, 3) := by decide +kernel
theorem d_X10_write_13 : decode prog_12_method_110_code 13 = .ok (.iload_n 1, 1) := by decide +kernel
theorem d_X10_write_14 : decode prog_12_method_110_code 14 = .ok (.iaload, 1) := by decide +kernel
theorem d_X10_write_15 : decode prog_12_method_110_code 15 = .ok (.ifCond .ge 6, 3) := by decide +kernel
theorem d_X10_write_18 : decode prog_12_method_110_code 18 = .ok (.bipush (-11), 2) := by decide +kernel
theorem d_X10_write_20 : decode prog_12_method_110_code 20 = .ok (.ireturn, 1) := by decide +kernel
theorem d_X10_write_21 : decode prog_12_method_110_code 21 = .ok (.iload_n 2, 1) := by decide +kernel
theorem d_X10_write_22 : decode prog_12_method_110_code 22 = .ok (.i2l, 1) := by decide +kernel
theorem d_X10_write_23 : decode prog_12_method_110_code 23 = .ok (.lconst 0, 1) := by decide +kernel
theorem d_X10_write_24 : decode prog_12_method_110_code 24 = .ok (.aload_n 0, 1) := by decide +kernel
theorem d_X10_write_25 : decode prog_12_method_110_code 25 = .ok (.getfield 56, 3) := by decide +kernel
theorem d_X10_write_28 : decode prog_12_method_110_code 28 = .ok (.iload_n 1, 1) := by decide +kernel
theorem d_X10_write_29 : decode prog_12_method_110_code 29 = .ok (.iaload, 1) := by decide +kernel
theorem d_X10_write_30 : decode prog_12_method_110_code 30 = .ok (.iconst 1, 1) := by decide +kernel
theorem d_X10_write_31 : decode prog_12_method_110_code 31 = .ok (.isub, 1) := by decide +kernel
theorem d_X10_write_32 : decode prog_12_method_110_code 32 = .ok (.i2l, 1) := by decide +kernel
theorem d_X10_write_33 : decode prog_12_method_110_code 33 = .ok (.invokestatic 74, 3) := by decide +kernel
theorem d_X10_write_36 : decode prog_12_method_110_code 36 = .ok (.ifCond .ne 6, 3) := by decide +kernel
theorem d_X10_write_39 : decode prog_12_method_110_code 39 = .ok (.bipush (-12), 2) := by decide +kernel
theorem d_X10_write_41 : decode prog_12_method_110_code 41 = .ok (.ireturn, 1) := by decide +kernel
theorem d_X10_write_42 : decode prog_12_method_110_code 42 = .ok (.aload_n 0, 1) := by decide +kernel
theorem d_X10_write_43 : decode prog_12_method_110_code 43 = .ok (.getfield 59, 3) := by decide +kernel
theorem d_X10_write_46 : decode prog_12_method_110_code 46 = .ok (.bipush 40, 2) := by decide +kernel
theorem d_X10_write_48 : decode prog_12_method_110_code 48 = .ok (.iload_n 1, 1) := by decide +kernel
theorem d_X10_write_49 : decode prog_12_method_110_code 49 = .ok (.imul, 1) := by decide +kernel
theorem d_X10_write_50 : decode prog_12_method_110_code 50 = .ok (.iload_n 2, 1) := by decide +kernel
theorem d_X10_write_51 : decode prog_12_method_110_code 51 = .ok (.iadd, 1) := by decide +kernel
theorem d_X10_write_52 : decode prog_12_method_110_code 52 = .ok (.aload_n 0, 1) := by decide +kernel
theorem d_X10_write_53 : decode prog_12_method_110_code 53 = .ok (.getfield 53, 3) := by decide +kernel
theorem d_X10_write_56 : decode prog_12_method_110_code 56 = .ok (.iload_n 1, 1) := by decide +kernel
theorem d_X10_write_57 : decode prog_12_method_110_code 57 = .ok (.iaload, 1) := by decide +kernel
theorem d_X10_write_58 : decode prog_12_method_110_code 58 = .ok (.iload_n 3, 1) := by decide +kernel
theorem d_X10_write_59 : decode prog_12_method_110_code 59 = .ok (.invokestatic 404, 3) := by decide +kernel
theorem d_X10_write_62 : decode prog_12_method_110_code 62 = .ok (.iastore, 1) := by decide +kernel
theorem d_X10_write_63 : decode prog_12_method_110_code 63 = .ok (.iconst 1, 1) := by decide +kernel
theorem d_X10_write_64 : decode prog_12_method_110_code 64 = .ok (.ireturn, 1) := by decide +kernel
theorem d_X10_whyNot_0 : decode prog_12_method_111_code 0 = .ok (.aload_n 0, 1) := by decide +kernel
theorem d_X10_whyNot_1 : decode prog_12_method_111_code 1 = .ok (.getfield 53, 3) := by decide +kernel
theorem d_X10_whyNot_4 : decode prog_12_method_111_code 4 = .ok (.iload_n 1, 1) := by decide +kernel
theorem d_X10_whyNot_5 : decode prog_12_method_111_code 5 = .ok (.iaload, 1) := by decide +kernel
theorem d_X10_whyNot_6 : decode prog_12_method_111_code 6 = .ok (.ifCond .ge 8, 3) := by decide +kernel
theorem d_X10_whyNot_9 : decode prog_12_method_111_code 9 = .ok (.bipush (-11), 2) := by decide +kernel
theorem d_X10_whyNot_11 : decode prog_12_method_111_code 11 = .ok (.goto 19, 3) := by decide +kernel
theorem d_X10_whyNot_14 : decode prog_12_method_111_code 14 = .ok (.aload_n 0, 1) := by decide +kernel
theorem d_X10_whyNot_15 : decode prog_12_method_111_code 15 = .ok (.getfield 53, 3) := by decide +kernel
theorem d_X10_whyNot_18 : decode prog_12_method_111_code 18 = .ok (.iload_n 1, 1) := by decide +kernel
theorem d_X10_whyNot_19 : decode prog_12_method_111_code 19 = .ok (.iaload, 1) := by decide +kernel
theorem d_X10_whyNot_20 : decode prog_12_method_111_code 20 = .ok (.iload_n 2, 1) := by decide +kernel
theorem d_X10_whyNot_21 : decode prog_12_method_111_code 21 = .ok (.if_icmp .eq 8, 3) := by decide +kernel
theorem d_X10_whyNot_24 : decode prog_12_method_111_code 24 = .ok (.bipush (-13), 2) := by decide +kernel
theorem d_X10_whyNot_26 : decode prog_12_method_111_code 26 = .ok (.goto 4, 3) := by decide +kernel
theorem d_X10_whyNot_29 : decode prog_12_method_111_code 29 = .ok (.iconst 0, 1) := by decide +kernel
theorem d_X10_whyNot_30 : decode prog_12_method_111_code 30 = .ok (.ireturn, 1) := by decide +kernel
theorem d_X10_item_0 : decode prog_12_method_112_code 0 = .ok (.iload_n 1, 1) := by decide +kernel
theorem d_X10_item_1 : decode prog_12_method_112_code 1 = .ok (.invokestatic 397, 3) := by decide +kernel
theorem d_X10_item_4 : decode prog_12_method_112_code 4 = .ok (.ifCond .eq 15, 3) := by decide +kernel
theorem d_X10_item_7 : decode prog_12_method_112_code 7 = .ok (.iload_n 2, 1) := by decide +kernel
theorem d_X10_item_8 : decode prog_12_method_112_code 8 = .ok (.i2l, 1) := by decide +kernel
theorem d_X10_item_9 : decode prog_12_method_112_code 9 = .ok (.lconst 0, 1) := by decide +kernel
theorem d_X10_item_10 : decode prog_12_method_112_code 10 = .ok (.ldc2_w 402, 3) := by decide +kernel
theorem d_X10_item_13 : decode prog_12_method_112_code 13 = .ok (.invokestatic 74, 3) := by decide +kernel
theorem d_X10_item_16 : decode prog_12_method_112_code 16 = .ok (.ifCond .ne 5, 3) := by decide +kernel
theorem d_X10_item_19 : decode prog_12_method_112_code 19 = .ok (.iconst (-1), 1) := by decide +kernel
theorem d_X10_item_20 : decode prog_12_method_112_code 20 = .ok (.ireturn, 1) := by decide +kernel
theorem d_X10_item_21 : decode prog_12_method_112_code 21 = .ok (.aload_n 0, 1) := by decide +kernel
theorem d_X10_item_22 : decode prog_12_method_112_code 22 = .ok (.iload_n 1, 1) := by decide +kernel
theorem d_X10_item_23 : decode prog_12_method_112_code 23 = .ok (.iload_n 2, 1) := by decide +kernel
theorem d_X10_item_24 : decode prog_12_method_112_code 24 = .ok (.invokevirtual 407, 3) := by decide +kernel
theorem d_X10_item_27 : decode prog_12_method_112_code 27 = .ok (.istore 4, 2) := by decide +kernel
theorem d_X10_item_29 : decode prog_12_method_112_code 29 = .ok (.iload 4, 2) := by decide +kernel
theorem d_X10_item_31 : decode prog_12_method_112_code 31 = .ok (.ifCond .eq 8, 3) := by decide +kernel
theorem d_X10_item_34 : decode prog_12_method_112_code 34 = .ok (.iload 4, 2) := by decide +kernel
theorem d_X10_item_36 : decode prog_12_method_112_code 36 = .ok (.goto 37, 3) := by decide +kernel
theorem d_X10_item_39 : decode prog_12_method_112_code 39 = .ok (.iload_n 3, 1) := by decide +kernel
theorem d_X10_item_40 : decode prog_12_method_112_code 40 = .ok (.i2l, 1) := by decide +kernel
theorem d_X10_item_41 : decode prog_12_method_112_code 41 = .ok (.lconst 0, 1) := by decide +kernel
theorem d_X10_item_42 : decode prog_12_method_112_code 42 = .ok (.aload_n 0, 1) := by decide +kernel
theorem d_X10_item_43 : decode prog_12_method_112_code 43 = .ok (.getfield 56, 3) := by decide +kernel
theorem d_X10_item_46 : decode prog_12_method_112_code 46 = .ok (.iload_n 1, 1) := by decide +kernel
theorem d_X10_item_47 : decode prog_12_method_112_code 47 = .ok (.iaload, 1) := by decide +kernel
theorem d_X10_item_48 : decode prog_12_method_112_code 48 = .ok (.iconst 1, 1) := by decide +kernel
theorem d_X10_item_49 : decode prog_12_method_112_code 49 = .ok (.isub, 1) := by decide +kernel
theorem d_X10_item_50 : decode prog_12_method_112_code 50 = .ok (.i2l, 1) := by decide +kernel
theorem d_X10_item_51 : decode prog_12_method_112_code 51 = .ok (.invokestatic 74, 3) := by decide +kernel
theorem d_X10_item_54 : decode prog_12_method_112_code 54 = .ok (.ifCond .eq 17, 3) := by decide +kernel
theorem d_X10_item_57 : decode prog_12_method_112_code 57 = .ok (.aload_n 0, 1) := by decide +kernel
theorem d_X10_item_58 : decode prog_12_method_112_code 58 = .ok (.getfield 59, 3) := by decide +kernel
theorem d_X10_item_61 : decode prog_12_method_112_code 61 = .ok (.bipush 40, 2) := by decide +kernel
theorem d_X10_item_63 : decode prog_12_method_112_code 63 = .ok (.iload_n 1, 1) := by decide +kernel
theorem d_X10_item_64 : decode prog_12_method_112_code 64 = .ok (.imul, 1) := by decide +kernel
theorem d_X10_item_65 : decode prog_12_method_112_code 65 = .ok (.iload_n 3, 1) := by decide +kernel
theorem d_X10_item_66 : decode prog_12_method_112_code 66 = .ok (.iadd, 1) := by decide +kernel
theorem d_X10_item_67 : decode prog_12_method_112_code 67 = .ok (.iaload, 1) := by decide +kernel
theorem d_X10_item_68 : decode prog_12_method_112_code 68 = .ok (.goto 5, 3) := by decide +kernel
theorem d_X10_item_71 : decode prog_12_method_112_code 71 = .ok (.bipush (-12), 2) := by decide +kernel
theorem d_X10_item_73 : decode prog_12_method_112_code 73 = .ok (.ireturn, 1) := by decide +kernel
theorem d_X10_isItem_0 : decode prog_12_method_113_code 0 = .ok (.lload_n 2, 1) := by decide +kernel
theorem d_X10_isItem_1 : decode prog_12_method_113_code 1 = .ok (.lconst 0, 1) := by decide +kernel
theorem d_X10_isItem_2 : decode prog_12_method_113_code 2 = .ok (.aload_n 0, 1) := by decide +kernel
theorem d_X10_isItem_3 : decode prog_12_method_113_code 3 = .ok (.getfield 56, 3) := by decide +kernel
theorem d_X10_isItem_6 : decode prog_12_method_113_code 6 = .ok (.iload_n 1, 1) := by decide +kernel
theorem d_X10_isItem_7 : decode prog_12_method_113_code 7 = .ok (.iaload, 1) := by decide +kernel
theorem d_X10_isItem_8 : decode prog_12_method_113_code 8 = .ok (.iconst 1, 1) := by decide +kernel
theorem d_X10_isItem_9 : decode prog_12_method_113_code 9 = .ok (.isub, 1) := by decide +kernel
theorem d_X10_isItem_10 : decode prog_12_method_113_code 10 = .ok (.i2l, 1) := by decide +kernel
theorem d_X10_isItem_11 : decode prog_12_method_113_code 11 = .ok (.invokestatic 74, 3) := by decide +kernel
theorem d_X10_isItem_14 : decode prog_12_method_113_code 14 = .ok (.ireturn, 1) := by decide +kernel
theorem d_X10_fits_0 : decode prog_12_method_114_code 0 = .ok (.iload_n 1, 1) := by decide +kernel
theorem d_X10_fits_1 : decode prog_12_method_114_code 1 = .ok (.invokestatic 397, 3) := by decide +kernel
theorem d_X10_fits_4 : decode prog_12_method_114_code 4 = .ok (.ifCond .eq 15, 3) := by decide +kernel
theorem d_X10_fits_7 : decode prog_12_method_114_code 7 = .ok (.iload_n 3, 1) := by decide +kernel
theorem d_X10_fits_8 : decode prog_12_method_114_code 8 = .ok (.i2l, 1) := by decide +kernel
theorem d_X10_fits_9 : decode prog_12_method_114_code 9 = .ok (.lconst 0, 1) := by decide +kernel
theorem d_X10_fits_10 : decode prog_12_method_114_code 10 = .ok (.ldc2_w 222, 3) := by decide +kernel
theorem d_X10_fits_13 : decode prog_12_method_114_code 13 = .ok (.invokestatic 74, 3) := by decide +kernel
theorem d_X10_fits_16 : decode prog_12_method_114_code 16 = .ok (.ifCond .ne 5, 3) := by decide +kernel
theorem d_X10_fits_19 : decode prog_12_method_114_code 19 = .ok (.iconst (-1), 1) := by decide +kernel
theorem d_X10_fits_20 : decode prog_12_method_114_code 20 = .ok (.ireturn, 1) := by decide +kernel
theorem d_X10_fits_21 : decode prog_12_method_114_code 21 = .ok (.aload_n 0, 1) := by decide +kernel
theorem d_X10_fits_22 : decode prog_12_method_114_code 22 = .ok (.iload_n 1, 1) := by decide +kernel
theorem d_X10_fits_23 : decode prog_12_method_114_code 23 = .ok (.iconst 0, 1) := by decide +kernel
theorem d_X10_fits_24 : decode prog_12_method_114_code 24 = .ok (.invokevirtual 407, 3) := by decide +kernel
theorem d_X10_fits_27 : decode prog_12_method_114_code 27 = .ok (.istore 4, 2) := by decide +kernel
theorem d_X10_fits_29 : decode prog_12_method_114_code 29 = .ok (.iload 4, 2) := by decide +kernel
theorem d_X10_fits_31 : decode prog_12_method_114_code 31 = .ok (.ifCond .eq 6, 3) := by decide +kernel
theorem d_X10_fits_34 : decode prog_12_method_114_code 34 = .ok (.iload 4, 2) := by decide +kernel
theorem d_X10_fits_36 : decode prog_12_method_114_code 36 = .ok (.ireturn, 1) := by decide +kernel
theorem d_X10_fits_37 : decode prog_12_method_114_code 37 = .ok (.iconst 0, 1) := by decide +kernel
theorem d_X10_fits_38 : decode prog_12_method_114_code 38 = .ok (.istore 5, 2) := by decide +kernel
theorem d_X10_fits_40 : decode prog_12_method_114_code 40 = .ok (.iconst 0, 1) := by decide +kernel
theorem d_X10_fits_41 : decode prog_12_method_114_code 41 = .ok (.istore 6, 2) := by decide +kernel
theorem d_X10_fits_43 : decode prog_12_method_114_code 43 = .ok (.iload 6, 2) := by decide +kernel
theorem d_X10_fits_45 : decode prog_12_method_114_code 45 = .ok (.iload_n 3, 1) := by decide +kernel
theorem d_X10_fits_46 : decode prog_12_method_114_code 46 = .ok (.if_icmp .ge 58, 3) := by decide +kernel
theorem d_X10_fits_49 : decode prog_12_method_114_code 49 = .ok (.aload_n 0, 1) := by decide +kernel
theorem d_X10_fits_50 : decode prog_12_method_114_code 50 = .ok (.iload_n 1, 1) := by decide +kernel
theorem d_X10_fits_51 : decode prog_12_method_114_code 51 = .ok (.iload_n 2, 1) := by decide +kernel
theorem d_X10_fits_52 : decode prog_12_method_114_code 52 = .ok (.i2l, 1) := by decide +kernel
theorem d_X10_fits_53 : decode prog_12_method_114_code 53 = .ok (.iload 6, 2) := by decide +kernel
theorem d_X10_fits_55 : decode prog_12_method_114_code 55 = .ok (.i2l, 1) := by decide +kernel
theorem d_X10_fits_56 : decode prog_12_method_114_code 56 = .ok (.ladd, 1) := by decide +kernel
theorem d_X10_fits_57 : decode prog_12_method_114_code 57 = .ok (.invokevirtual 410, 3) := by decide +kernel
theorem d_X10_fits_60 : decode prog_12_method_114_code 60 = .ok (.ifCond .ne 6, 3) := by decide +kernel
theorem d_X10_fits_63 : decode prog_12_method_114_code 63 = .ok (.bipush (-12), 2) := by decide +kernel
theorem d_X10_fits_65 : decode prog_12_method_114_code 65 = .ok (.ireturn, 1) := by decide +kernel
theorem d_X10_fits_66 : decode prog_12_method_114_code 66 = .ok (.iload 5, 2) := by decide +kernel
theorem d_X10_fits_68 : decode prog_12_method_114_code 68 = .ok (.aload_n 0, 1) := by decide +kernel
theorem d_X10_fits_69 : decode prog_12_method_114_code 69 = .ok (.aload_n 0, 1) := by decide +kernel
theorem d_X10_fits_70 : decode prog_12_method_114_code 70 = .ok (.getfield 59, 3) := by decide +kernel
theorem d_X10_fits_73 : decode prog_12_method_114_code 73 = .ok (.bipush 40, 2) := by decide +kernel
theorem d_X10_fits_75 : decode prog_12_method_114_code 75 = .ok (.iload_n 1, 1) := by decide +kernel
theorem d_X10_fits_76 : decode prog_12_method_114_code 76 = .ok (.imul, 1) := by decide +kernel
theorem d_X10_fits_77 : decode prog_12_method_114_code 77 = .ok (.iload_n 2, 1) := by decide +kernel
theorem d_X10_fits_78 : decode prog_12_method_114_code 78 = .ok (.iadd, 1) := by decide +kernel
theorem d_X10_fits_79 : decode prog_12_method_114_code 79 = .ok (.iload 6, 2) := by decide +kernel
theorem d_X10_fits_81 : decode prog_12_method_114_code 81 = .ok (.iadd, 1) := by decide +kernel
theorem d_X10_fits_82 : decode prog_12_method_114_code 82 = .ok (.iaload, 1) := by decide +kernel
theorem d_X10_fits_83 : decode prog_12_method_114_code 83 = .ok (.iconst 0, 1) := by decide +kernel
theorem d_X10_fits_84 : decode prog_12_method_114_code 84 = .ok (.invokevirtual 414, 3) := by decide +kernel
theorem d_X10_fits_87 : decode prog_12_method_114_code 87 = .ok (.ifCond .lt 7, 3) := by decide +kernel
theorem d_X10_fits_90 : decode prog_12_method_114_code 90 = .ok (.iconst 1, 1) := by decide +kernel
theorem d_X10_fits_91 : decode prog_12_method_114_code 91 = .ok (.goto 4, 3) := by decide +kernel
theorem d_X10_fits_94 : decode prog_12_method_114_code 94 = .ok (.iconst 0, 1) := by decide +kernel
theorem d_X10_fits_95 : decode prog_12_method_114_code 95 = .ok (.iadd, 1) := by decide +kernel
theorem d_X10_fits_96 : decode prog_12_method_114_code 96 = .ok (.istore 5, 2) := by decide +kernel
theorem d_X10_fits_98 : decode prog_12_method_114_code 98 = .ok (.iinc 6 1, 3) := by decide +kernel
theorem d_X10_fits_101 : decode prog_12_method_114_code 101 = .ok (.goto (-58), 3) := by decide +kernel
theorem d_X10_fits_104 : decode prog_12_method_114_code 104 = .ok (.iload 5, 2) := by decide +kernel
theorem d_X10_fits_106 : decode prog_12_method_114_code 106 = .ok (.ireturn, 1) := by decide +kernel
theorem d_X10_spread_0 : decode prog_12_method_115_code 0 = .ok (.iload_n 1, 1) := by decide +kernel
theorem d_X10_spread_1 : decode prog_12_method_115_code 1 = .ok (.invokestatic 397, 3) := by decide +kernel
theorem d_X10_spread_4 : decode prog_12_method_115_code 4 = .ok (.ifCond .eq 15, 3) := by decide +kernel
theorem d_X10_spread_7 : decode prog_12_method_115_code 7 = .ok (.iload_n 3, 1) := by decide +kernel
theorem d_X10_spread_8 : decode prog_12_method_115_code 8 = .ok (.i2l, 1) := by decide +kernel
theorem d_X10_spread_9 : decode prog_12_method_115_code 9 = .ok (.lconst 1, 1) := by decide +kernel
theorem d_X10_spread_10 : decode prog_12_method_115_code 10 = .ok (.ldc2_w 222, 3) := by decide +kernel
theorem d_X10_spread_13 : decode prog_12_method_115_code 13 = .ok (.invokestatic 74, 3) := by decide +kernel
theorem d_X10_spread_16 : decode prog_12_method_115_code 16 = .ok (.ifCond .ne 5, 3) := by decide +kernel
theorem d_X10_spread_19 : decode prog_12_method_115_code 19 = .ok (.iconst (-1), 1) := by decide +kernel
theorem d_X10_spread_20 : decode prog_12_method_115_code 20 = .ok (.ireturn, 1) := by decide +kernel
theorem d_X10_spread_21 : decode prog_12_method_115_code 21 = .ok (.aload_n 0, 1) := by decide +kernel
theorem d_X10_spread_22 : decode prog_12_method_115_code 22 = .ok (.iload_n 1, 1) := by decide +kernel
theorem d_X10_spread_23 : decode prog_12_method_115_code 23 = .ok (.iconst 0, 1) := by decide +kernel
theorem d_X10_spread_24 : decode prog_12_method_115_code 24 = .ok (.invokevirtual 407, 3) := by decide +kernel
theorem d_X10_spread_27 : decode prog_12_method_115_code 27 = .ok (.istore 4, 2) := by decide +kernel
theorem d_X10_spread_29 : decode prog_12_method_115_code 29 = .ok (.iload 4, 2) := by decide +kernel
theorem d_X10_spread_31 : decode prog_12_method_115_code 31 = .ok (.ifCond .eq 6, 3) := by decide +kernel
theorem d_X10_spread_34 : decode prog_12_method_115_code 34 = .ok (.iload 4, 2) := by decide +kernel
theorem d_X10_spread_36 : decode prog_12_method_115_code 36 = .ok (.ireturn, 1) := by decide +kernel
theorem d_X10_spread_37 : decode prog_12_method_115_code 37 = .ok (.aload_n 0, 1) := by decide +kernel
theorem d_X10_spread_38 : decode prog_12_method_115_code 38 = .ok (.invokevirtual 166, 3) := by decide +kernel
theorem d_X10_spread_41 : decode prog_12_method_115_code 41 = .ok (.iconst 0, 1) := by decide +kernel
theorem d_X10_spread_42 : decode prog_12_method_115_code 42 = .ok (.istore 5, 2) := by decide +kernel
theorem d_X10_spread_44 : decode prog_12_method_115_code 44 = .ok (.iconst 0, 1) := by decide +kernel
theorem d_X10_spread_45 : decode prog_12_method_115_code 45 = .ok (.istore 6, 2) := by decide +kernel
theorem d_X10_spread_47 : decode prog_12_method_115_code 47 = .ok (.iconst 0, 1) := by decide +kernel
theorem d_X10_spread_48 : decode prog_12_method_115_code 48 = .ok (.istore 7, 2) := by decide +kernel
theorem d_X10_spread_50 : decode prog_12_method_115_code 50 = .ok (.iload 7, 2) := by decide +kernel
theorem d_X10_spread_52 : decode prog_12_method_115_code 52 = .ok (.iload_n 3, 1) := by decide +kernel
theorem d_X10_spread_53 : decode prog_12_method_115_code 53 = .ok (.if_icmp .ge 103, 3) := by decide +kernel
theorem d_X10_spread_56 : decode prog_12_method_115_code 56 = .ok (.aload_n 0, 1) := by decide +kernel
theorem d_X10_spread_57 : decode prog_12_method_115_code 57 = .ok (.iload_n 1, 1) := by decide +kernel
theorem d_X10_spread_58 : decode prog_12_method_115_code 58 = .ok (.iload_n 2, 1) := by decide +kernel
theorem d_X10_spread_59 : decode prog_12_method_115_code 59 = .ok (.i2l, 1) := by decide +kernel
theorem d_X10_spread_60 : decode prog_12_method_115_code 60 = .ok (.iload 7, 2) := by decide +kernel
theorem d_X10_spread_62 : decode prog_12_method_115_code 62 = .ok (.i2l, 1) := by decide +kernel
theorem d_X10_spread_63 : decode prog_12_method_115_code 63 = .ok (.ladd, 1) := by decide +kernel
theorem d_X10_spread_64 : decode prog_12_method_115_code 64 = .ok (.invokevirtual 410, 3) := by decide +kernel
theorem d_X10_spread_67 : decode prog_12_method_115_code 67 = .ok (.ifCond .ne 6, 3) := by decide +kernel
theorem d_X10_spread_70 : decode prog_12_method_115_code 70 = .ok (.bipush (-12), 2) := by decide +kernel
theorem d_X10_spread_72 : decode prog_12_method_115_code 72 = .ok (.ireturn, 1) := by decide +kernel
theorem d_X10_spread_73 : decode prog_12_method_115_code 73 = .ok (.aload_n 0, 1) := by decide +kernel
theorem d_X10_spread_74 : decode prog_12_method_115_code 74 = .ok (.getfield 59, 3) := by decide +kernel
theorem d_X10_spread_77 : decode prog_12_method_115_code 77 = .ok (.bipush 40, 2) := by decide +kernel
theorem d_X10_spread_79 : decode prog_12_method_115_code 79 = .ok (.iload_n 1, 1) := by decide +kernel
theorem d_X10_spread_80 : decode prog_12_method_115_code 80 = .ok (.imul, 1) := by decide +kernel
theorem d_X10_spread_81 : decode prog_12_method_115_code 81 = .ok (.iload_n 2, 1) := by decide +kernel
theorem d_X10_spread_82 : decode prog_12_method_115_code 82 = .ok (.iadd, 1) := by decide +kernel
theorem d_X10_spread_83 : decode prog_12_method_115_code 83 = .ok (.iload 7, 2) := by decide +kernel
theorem d_X10_spread_85 : decode prog_12_method_115_code 85 = .ok (.iadd, 1) := by decide +kernel
theorem d_X10_spread_86 : decode prog_12_method_115_code 86 = .ok (.iaload, 1) := by decide +kernel
theorem d_X10_spread_87 : decode prog_12_method_115_code 87 = .ok (.istore 8, 2) := by decide +kernel
theorem d_X10_spread_89 : decode prog_12_method_115_code 89 = .ok (.iload 8, 2) := by decide +kernel
theorem d_X10_spread_91 : decode prog_12_method_115_code 91 = .ok (.invokestatic 163, 3) := by decide +kernel
theorem d_X10_spread_94 : decode prog_12_method_115_code 94 = .ok (.ifCond .ne 6, 3) := by decide +kernel
theorem d_X10_spread_97 : decode prog_12_method_115_code 97 = .ok (.bipush (-4), 2) := by decide +kernel
theorem d_X10_spread_99 : decode prog_12_method_115_code 99 = .ok (.ireturn, 1) := by decide +kernel
theorem d_X10_spread_100 : decode prog_12_method_115_code 100 = .ok (.aload_n 0, 1) := by decide +kernel
theorem d_X10_spread_101 : decode prog_12_method_115_code 101 = .ok (.iload 8, 2) := by decide +kernel
theorem d_X10_spread_103 : decode prog_12_method_115_code 103 = .ok (.invokevirtual 153, 3) := by decide +kernel
theorem d_X10_spread_106 : decode prog_12_method_115_code 106 = .ok (.istore 9, 2) := by decide +kernel
theorem d_X10_spread_108 : decode prog_12_method_115_code 108 = .ok (.iload 7, 2) := by decide +kernel
theorem d_X10_spread_110 : decode prog_12_method_115_code 110 = .ok (.ifCond .eq 10, 3) := by decide +kernel
theorem d_X10_spread_113 : decode prog_12_method_115_code 113 = .ok (.iload 9, 2) := by decide +kernel
theorem d_X10_spread_115 : decode prog_12_method_115_code 115 = .ok (.iload 5, 2) := by decide +kernel
theorem d_X10_spread_117 : decode prog_12_method_115_code 117 = .ok (.if_icmp .ge 8, 3) := by decide +kernel
theorem d_X10_spread_120 : decode prog_12_method_115_code 120 = .ok (.iload 9, 2) := by decide +kernel
theorem d_X10_spread_122 : decode prog_12_method_115_code 122 = .ok (.goto 5, 3) := by decide +kernel
theorem d_X10_spread_125 : decode prog_12_method_115_code 125 = .ok (.iload 5, 2) := by decide +kernel
theorem d_X10_spread_127 : decode prog_12_method_115_code 127 = .ok (.istore 5, 2) := by decide +kernel
theorem d_X10_spread_129 : decode prog_12_method_115_code 129 = .ok (.iload 7, 2) := by decide +kernel
theorem d_X10_spread_131 : decode prog_12_method_115_code 131 = .ok (.ifCond .eq 10, 3) := by decide +kernel
theorem d_X10_spread_134 : decode prog_12_method_115_code 134 = .ok (.iload 9, 2) := by decide +kernel
theorem d_X10_spread_136 : decode prog_12_method_115_code 136 = .ok (.iload 6, 2) := by decide +kernel
theorem d_X10_spread_138 : decode prog_12_method_115_code 138 = .ok (.if_icmp .le 8, 3) := by decide +kernel
theorem d_X10_spread_141 : decode prog_12_method_115_code 141 = .ok (.iload 9, 2) := by decide +kernel
theorem d_X10_spread_143 : decode prog_12_method_115_code 143 = .ok (.goto 5, 3) := by decide +kernel
theorem d_X10_spread_146 : decode prog_12_method_115_code 146 = .ok (.iload 6, 2) := by decide +kernel
theorem d_X10_spread_148 : decode prog_12_method_115_code 148 = .ok (.istore 6, 2) := by decide +kernel
theorem d_X10_spread_150 : decode prog_12_method_115_code 150 = .ok (.iinc 7 1, 3) := by decide +kernel
theorem d_X10_spread_153 : decode prog_12_method_115_code 153 = .ok (.goto (-103), 3) := by decide +kernel
theorem d_X10_spread_156 : decode prog_12_method_115_code 156 = .ok (.iload 6, 2) := by decide +kernel
theorem d_X10_spread_158 : decode prog_12_method_115_code 158 = .ok (.iload 5, 2) := by decide +kernel
theorem d_X10_spread_160 : decode prog_12_method_115_code 160 = .ok (.isub, 1) := by decide +kernel
theorem d_X10_spread_161 : decode prog_12_method_115_code 161 = .ok (.ireturn, 1) := by decide +kernel
theorem d_X10_shelf_0 : decode prog_12_method_116_code 0 = .ok (.iload_n 1, 1) := by decide +kernel
theorem d_X10_shelf_1 : decode prog_12_method_116_code 1 = .ok (.invokestatic 397, 3) := by decide +kernel
theorem d_X10_shelf_4 : decode prog_12_method_116_code 4 = .ok (.ifCond .eq 39, 3) := by decide +kernel
theorem d_X10_shelf_7 : decode prog_12_method_116_code 7 = .ok (.iload_n 2, 1) := by decide +kernel
theorem d_X10_shelf_8 : decode prog_12_method_116_code 8 = .ok (.i2l, 1) := by decide +kernel
theorem d_X10_shelf_9 : decode prog_12_method_116_code 9 = .ok (.lconst 0, 1) := by decide +kernel
theorem d_X10_shelf_10 : decode prog_12_method_116_code 10 = .ok (.ldc2_w 247, 3) := by decide +kernel
theorem d_X10_shelf_13 : decode prog_12_method_116_code 13 = .ok (.invokestatic 74, 3) := by decide +kernel
theorem d_X10_shelf_16 : decode prog_12_method_116_code 16 = .ok (.ifCond .eq 27, 3) := by decide +kernel
theorem d_X10_shelf_19 : decode prog_12_method_116_code 19 = .ok (.iload_n 2, 1) := by decide +kernel
theorem d_X10_shelf_20 : decode prog_12_method_116_code 20 = .ok (.ifCond .ne 11, 3) := by decide +kernel
theorem d_X10_shelf_23 : decode prog_12_method_116_code 23 = .ok (.aload_n 0, 1) := by decide +kernel
theorem d_X10_shelf_24 : decode prog_12_method_116_code 24 = .ok (.iload_n 3, 1) := by decide +kernel
theorem d_X10_shelf_25 : decode prog_12_method_116_code 25 = .ok (.invokevirtual 114, 3) := by decide +kernel
theorem d_X10_shelf_28 : decode prog_12_method_116_code 28 = .ok (.ifCond .eq 15, 3) := by decide +kernel
theorem d_X10_shelf_31 : decode prog_12_method_116_code 31 = .ok (.iload_n 2, 1) := by decide +kernel
theorem d_X10_shelf_32 : decode prog_12_method_116_code 32 = .ok (.iconst 1, 1) := by decide +kernel
theorem d_X10_shelf_33 : decode prog_12_method_116_code 33 = .ok (.if_icmp .ne 12, 3) := by decide +kernel
theorem d_X10_shelf_36 : decode prog_12_method_116_code 36 = .ok (.iload_n 3, 1) := by decide +kernel
theorem d_X10_shelf_37 : decode prog_12_method_116_code 37 = .ok (.invokestatic 397, 3) := by decide +kernel
theorem d_X10_shelf_40 : decode prog_12_method_116_code 40 = .ok (.ifCond .ne 5, 3) := by decide +kernel
theorem d_X10_shelf_43 : decode prog_12_method_116_code 43 = .ok (.iconst (-1), 1) := by decide +kernel
theorem d_X10_shelf_44 : decode prog_12_method_116_code 44 = .ok (.ireturn, 1) := by decide +kernel
theorem d_X10_shelf_45 : decode prog_12_method_116_code 45 = .ok (.aload_n 0, 1) := by decide +kernel
theorem d_X10_shelf_46 : decode prog_12_method_116_code 46 = .ok (.getfield 62, 3) := by decide +kernel
theorem d_X10_shelf_49 : decode prog_12_method_116_code 49 = .ok (.iload_n 1, 1) := by decide +kernel
theorem d_X10_shelf_50 : decode prog_12_method_116_code 50 = .ok (.iload_n 2, 1) := by decide +kernel
theorem d_X10_shelf_51 : decode prog_12_method_116_code 51 = .ok (.ifCond .ne 7, 3) := by decide +kernel
theorem d_X10_shelf_54 : decode prog_12_method_116_code 54 = .ok (.iconst 1, 1) := by decide +kernel
theorem d_X10_shelf_55 : decode prog_12_method_116_code 55 = .ok (.goto 22, 3) := by decide +kernel
theorem d_X10_shelf_58 : decode prog_12_method_116_code 58 = .ok (.iload_n 2, 1) := by decide +kernel
theorem d_X10_shelf_59 : decode prog_12_method_116_code 59 = .ok (.iconst 1, 1) := by decide +kernel
theorem d_X10_shelf_60 : decode prog_12_method_116_code 60 = .ok (.if_icmp .ne 16, 3) := by decide +kernel
theorem d_X10_shelf_63 : decode prog_12_method_116_code 63 = .ok (.aload_n 0, 1) := by decide +kernel
theorem d_X10_shelf_64 : decode prog_12_method_116_code 64 = .ok (.getfield 53, 3) := by decide +kernel
theorem d_X10_shelf_67 : decode prog_12_method_116_code 67 = .ok (.iload_n 3, 1) := by decide +kernel
theorem d_X10_shelf_68 : decode prog_12_method_116_code 68 = .ok (.iaload, 1) := by decide +kernel
theorem d_X10_shelf_69 : decode prog_12_method_116_code 69 = .ok (.ifCond .lt 7, 3) := by decide +kernel
theorem d_X10_shelf_72 : decode prog_12_method_116_code 72 = .ok (.iconst 2, 1) := by decide +kernel
theorem d_X10_shelf_73 : decode prog_12_method_116_code 73 = .ok (.goto 4, 3) := by decide +kernel
theorem d_X10_shelf_76 : decode prog_12_method_116_code 76 = .ok (.iconst 0, 1) := by decide +kernel
theorem d_X10_shelf_77 : decode prog_12_method_116_code 77 = .ok (.iastore, 1) := by decide +kernel
theorem d_X10_shelf_78 : decode prog_12_method_116_code 78 = .ok (.aload_n 0, 1) := by decide +kernel
theorem d_X10_shelf_79 : decode prog_12_method_116_code 79 = .ok (.getfield 65, 3) := by decide +kernel
theorem d_X10_shelf_82 : decode prog_12_method_116_code 82 = .ok (.iload_n 1, 1) := by decide +kernel
theorem d_X10_shelf_83 : decode prog_12_method_116_code 83 = .ok (.iload_n 2, 1) := by decide +kernel
theorem d_X10_shelf_84 : decode prog_12_method_116_code 84 = .ok (.ifCond .ne 7, 3) := by decide +kernel
theorem d_X10_shelf_87 : decode prog_12_method_116_code 87 = .ok (.iload_n 3, 1) := by decide +kernel
theorem d_X10_shelf_88 : decode prog_12_method_116_code 88 = .ok (.goto 18, 3) := by decide +kernel
theorem d_X10_shelf_91 : decode prog_12_method_116_code 91 = .ok (.iload_n 2, 1) := by decide +kernel
theorem d_X10_shelf_92 : decode prog_12_method_116_code 92 = .ok (.iconst 1, 1) := by decide +kernel
theorem d_X10_shelf_93 : decode prog_12_method_116_code 93 = .ok (.if_icmp .ne 12, 3) := by decide +kernel
theorem d_X10_shelf_96 : decode prog_12_method_116_code 96 = .ok (.aload_n 0, 1) := by decide +kernel
theorem d_X10_shelf_97 : decode prog_12_method_116_code 97 = .ok (.getfield 56, 3) := by decide +kernel
theorem d_X10_shelf_100 : decode prog_12_method_116_code 100 = .ok (.iload_n 3, 1) := by decide +kernel
theorem d_X10_shelf_101 : decode prog_12_method_116_code 101 = .ok (.iaload, 1) := by decide +kernel
theorem d_X10_shelf_102 : decode prog_12_method_116_code 102 = .ok (.goto 4, 3) := by decide +kernel
theorem d_X10_shelf_105 : decode prog_12_method_116_code 105 = .ok (.iconst 0, 1) := by decide +kernel
theorem d_X10_shelf_106 : decode prog_12_method_116_code 106 = .ok (.iastore, 1) := by decide +kernel
theorem d_X10_shelf_107 : decode prog_12_method_116_code 107 = .ok (.aload_n 0, 1) := by decide +kernel
theorem d_X10_shelf_108 : decode prog_12_method_116_code 108 = .ok (.getfield 68, 3) := by decide +kernel
theorem d_X10_shelf_111 : decode prog_12_method_116_code 111 = .ok (.iload_n 1, 1) := by decide +kernel
theorem d_X10_shelf_112 : decode prog_12_method_116_code 112 = .ok (.iload_n 2, 1) := by decide +kernel
theorem d_X10_shelf_113 : decode prog_12_method_116_code 113 = .ok (.iconst 1, 1) := by decide +kernel
theorem d_X10_shelf_114 : decode prog_12_method_116_code 114 = .ok (.if_icmp .ne 12, 3) := by decide +kernel
theorem d_X10_shelf_117 : decode prog_12_method_116_code 117 = .ok (.aload_n 0, 1) := by decide +kernel
theorem d_X10_shelf_118 : decode prog_12_method_116_code 118 = .ok (.getfield 53, 3) := by decide +kernel
theorem d_X10_shelf_121 : decode prog_12_method_116_code 121 = .ok (.iload_n 3, 1) := by decide +kernel
theorem d_X10_shelf_122 : decode prog_12_method_116_code 122 = .ok (.iaload, 1) := by decide +kernel
theorem d_X10_shelf_123 : decode prog_12_method_116_code 123 = .ok (.goto 4, 3) := by decide +kernel
theorem d_X10_shelf_126 : decode prog_12_method_116_code 126 = .ok (.iconst 0, 1) := by decide +kernel
theorem d_X10_shelf_127 : decode prog_12_method_116_code 127 = .ok (.iastore, 1) := by decide +kernel
theorem d_X10_shelf_128 : decode prog_12_method_116_code 128 = .ok (.iconst 1, 1) := by decide +kernel
theorem d_X10_shelf_129 : decode prog_12_method_116_code 129 = .ok (.ireturn, 1) := by decide +kernel
theorem d_X10_onShelf_0 : decode prog_12_method_117_code 0 = .ok (.iload_n 1, 1) := by decide +kernel
theorem d_X10_onShelf_1 : decode prog_12_method_117_code 1 = .ok (.invokestatic 397, 3) := by decide +kernel
theorem d_X10_onShelf_4 : decode prog_12_method_117_code 4 = .ok (.ifCond .eq 35, 3) := by decide +kernel
theorem d_X10_onShelf_7 : decode prog_12_method_117_code 7 = .ok (.aload_n 0, 1) := by decide +kernel
theorem d_X10_onShelf_8 : decode prog_12_method_117_code 8 = .ok (.getfield 62, 3) := by decide +kernel
theorem d_X10_onShelf_11 : decode prog_12_method_117_code 11 = .ok (.iload_n 1, 1) := by decide +kernel
theorem d_X10_onShelf_12 : decode prog_12_method_117_code 12 = .ok (.iaload, 1) := by decide +kernel
theorem d_X10_onShelf_13 : decode prog_12_method_117_code 13 = .ok (.iconst 1, 1) := by decide +kernel
theorem d_X10_onShelf_14 : decode prog_12_method_117_code 14 = .ok (.if_icmp .ne 25, 3) := by decide +kernel
theorem d_X10_onShelf_17 : decode prog_12_method_117_code 17 = .ok (.aload_n 0, 1) := by decide +kernel
theorem d_X10_onShelf_18 : decode prog_12_method_117_code 18 = .ok (.aload_n 0, 1) := by decide +kernel
theorem d_X10_onShelf_19 : decode prog_12_method_117_code 19 = .ok (.getfield 65, 3) := by decide +kernel
theorem d_X10_onShelf_22 : decode prog_12_method_117_code 22 = .ok (.iload_n 1, 1) := by decide +kernel
theorem d_X10_onShelf_23 : decode prog_12_method_117_code 23 = .ok (.iaload, 1) := by decide +kernel
theorem d_X10_onShelf_24 : decode prog_12_method_117_code 24 = .ok (.invokevirtual 114, 3) := by decide +kernel
theorem d_X10_onShelf_27 : decode prog_12_method_117_code 27 = .ok (.ifCond .eq 12, 3) := by decide +kernel
theorem d_X10_onShelf_30 : decode prog_12_method_117_code 30 = .ok (.aload_n 0, 1) := by decide +kernel
theorem d_X10_onShelf_31 : decode prog_12_method_117_code 31 = .ok (.getfield 65, 3) := by decide +kernel
theorem d_X10_onShelf_34 : decode prog_12_method_117_code 34 = .ok (.iload_n 1, 1) := by decide +kernel
theorem d_X10_onShelf_35 : decode prog_12_method_117_code 35 = .ok (.iaload, 1) := by decide +kernel
theorem d_X10_onShelf_36 : decode prog_12_method_117_code 36 = .ok (.goto 4, 3) := by decide +kernel
theorem d_X10_onShelf_39 : decode prog_12_method_117_code 39 = .ok (.iconst (-1), 1) := by decide +kernel
theorem d_X10_onShelf_40 : decode prog_12_method_117_code 40 = .ok (.ireturn, 1) := by decide +kernel
theorem d_X10_taken_0 : decode prog_12_method_118_code 0 = .ok (.iload_n 1, 1) := by decide +kernel
theorem d_X10_taken_1 : decode prog_12_method_118_code 1 = .ok (.invokestatic 397, 3) := by decide +kernel
theorem d_X10_taken_4 : decode prog_12_method_118_code 4 = .ok (.ifCond .eq 29, 3) := by decide +kernel
theorem d_X10_taken_7 : decode prog_12_method_118_code 7 = .ok (.iload_n 2, 1) := by decide +kernel
theorem d_X10_taken_8 : decode prog_12_method_118_code 8 = .ok (.i2l, 1) := by decide +kernel
theorem d_X10_taken_9 : decode prog_12_method_118_code 9 = .ok (.lconst 0, 1) := by decide +kernel
theorem d_X10_taken_10 : decode prog_12_method_118_code 10 = .ok (.ldc2_w 82, 3) := by decide +kernel
theorem d_X10_taken_13 : decode prog_12_method_118_code 13 = .ok (.invokestatic 74, 3) := by decide +kernel
theorem d_X10_taken_16 : decode prog_12_method_118_code 16 = .ok (.ifCond .ne 19, 3) := by decide +kernel
theorem d_X10_taken_19 : decode prog_12_method_118_code 19 = .ok (.iload_n 2, 1) := by decide +kernel
theorem d_X10_taken_20 : decode prog_12_method_118_code 20 = .ok (.i2l, 1) := by decide +kernel
theorem d_X10_taken_21 : decode prog_12_method_118_code 21 = .ok (.ldc2_w 417, 3) := by decide +kernel
theorem d_X10_taken_24 : decode prog_12_method_118_code 24 = .ok (.ldc2_w 419, 3) := by decide +kernel
theorem d_X10_taken_27 : decode prog_12_method_118_code 27 = .ok (.invokestatic 74, 3) := by decide +kernel
theorem d_X10_taken_30 : decode prog_12_method_118_code 30 = .ok (.ifCond .ne 5, 3) := by decide +kernel
theorem d_X10_taken_33 : decode prog_12_method_118_code 33 = .ok (.iconst (-1), 1) := by decide +kernel
theorem d_X10_taken_34 : decode prog_12_method_118_code 34 = .ok (.ireturn, 1) := by decide +kernel
theorem d_X10_taken_35 : decode prog_12_method_118_code 35 = .ok (.aload_n 0, 1) := by decide +kernel
theorem d_X10_taken_36 : decode prog_12_method_118_code 36 = .ok (.iload_n 1, 1) := by decide +kernel
theorem d_X10_taken_37 : decode prog_12_method_118_code 37 = .ok (.invokevirtual 421, 3) := by decide +kernel
theorem d_X10_taken_40 : decode prog_12_method_118_code 40 = .ok (.istore_n 3, 1) := by decide +kernel
theorem d_X10_taken_41 : decode prog_12_method_118_code 41 = .ok (.iload_n 3, 1) := by decide +kernel
theorem d_X10_taken_42 : decode prog_12_method_118_code 42 = .ok (.ifCond .ge 16, 3) := by decide +kernel
theorem d_X10_taken_45 : decode prog_12_method_118_code 45 = .ok (.aload_n 0, 1) := by decide +kernel
theorem d_X10_taken_46 : decode prog_12_method_118_code 46 = .ok (.getfield 62, 3) := by decide +kernel
theorem d_X10_taken_49 : decode prog_12_method_118_code 49 = .ok (.iload_n 1, 1) := by decide +kernel
theorem d_X10_taken_50 : decode prog_12_method_118_code 50 = .ok (.iaload, 1) := by decide +kernel
theorem d_X10_taken_51 : decode prog_12_method_118_code 51 = .ok (.iconst 2, 1) := by decide +kernel
theorem d_X10_taken_52 : decode prog_12_method_118_code 52 = .ok (.if_icmp .ge 6, 3) := by decide +kernel
theorem d_X10_taken_55 : decode prog_12_method_118_code 55 = .ok (.bipush (-11), 2) := by decide +kernel
theorem d_X10_taken_57 : decode prog_12_method_118_code 57 = .ok (.ireturn, 1) := by decide +kernel
theorem d_X10_taken_58 : decode prog_12_method_118_code 58 = .ok (.iload_n 3, 1) := by decide +kernel
theorem d_X10_taken_59 : decode prog_12_method_118_code 59 = .ok (.ifCond .lt 30, 3) := by decide +kernel
theorem d_X10_taken_62 : decode prog_12_method_118_code 62 = .ok (.iload_n 2, 1) := by decide +kernel
theorem d_X10_taken_63 : decode prog_12_method_118_code 63 = .ok (.bipush 6, 2) := by decide +kernel
theorem d_X10_taken_65 : decode prog_12_method_118_code 65 = .ok (.if_icmp .ge 20, 3) := by decide +kernel
theorem d_X10_taken_68 : decode prog_12_method_118_code 68 = .ok (.aload_n 0, 1) := by decide +kernel
theorem d_X10_taken_69 : decode prog_12_method_118_code 69 = .ok (.iload_n 3, 1) := by decide +kernel
theorem d_X10_taken_70 : decode prog_12_method_118_code 70 = .ok (.iconst 0, 1) := by decide +kernel
theorem d_X10_taken_71 : decode prog_12_method_118_code 71 = .ok (.invokevirtual 98, 3) := by decide +kernel
theorem d_X10_taken_74 : decode prog_12_method_118_code 74 = .ok (.iload_n 2, 1) := by decide +kernel
theorem d_X10_taken_75 : decode prog_12_method_118_code 75 = .ok (.invokestatic 108, 3) := by decide +kernel
theorem d_X10_taken_78 : decode prog_12_method_118_code 78 = .ok (.ifCond .eq 7, 3) := by decide +kernel
theorem d_X10_taken_81 : decode prog_12_method_118_code 81 = .ok (.iconst 1, 1) := by decide +kernel
theorem d_X10_taken_82 : decode prog_12_method_118_code 82 = .ok (.goto 25, 3) := by decide +kernel
theorem d_X10_taken_85 : decode prog_12_method_118_code 85 = .ok (.iconst 0, 1) := by decide +kernel
theorem d_X10_taken_86 : decode prog_12_method_118_code 86 = .ok (.goto 21, 3) := by decide +kernel
theorem d_X10_taken_89 : decode prog_12_method_118_code 89 = .ok (.iload_n 2, 1) := by decide +kernel
theorem d_X10_taken_90 : decode prog_12_method_118_code 90 = .ok (.bipush 10, 2) := by decide +kernel
theorem d_X10_taken_92 : decode prog_12_method_118_code 92 = .ok (.isub, 1) := by decide +kernel
theorem d_X10_taken_93 : decode prog_12_method_118_code 93 = .ok (.aload_n 0, 1) := by decide +kernel
theorem d_X10_taken_94 : decode prog_12_method_118_code 94 = .ok (.getfield 68, 3) := by decide +kernel
theorem d_X10_taken_97 : decode prog_12_method_118_code 97 = .ok (.iload_n 1, 1) := by decide +kernel
theorem d_X10_taken_98 : decode prog_12_method_118_code 98 = .ok (.iaload, 1) := by decide +kernel
theorem d_X10_taken_99 : decode prog_12_method_118_code 99 = .ok (.if_icmp .ne 7, 3) := by decide +kernel
theorem d_X10_taken_102 : decode prog_12_method_118_code 102 = .ok (.iconst 1, 1) := by decide +kernel
theorem d_X10_taken_103 : decode prog_12_method_118_code 103 = .ok (.goto 4, 3) := by decide +kernel
theorem d_X10_taken_106 : decode prog_12_method_118_code 106 = .ok (.iconst 0, 1) := by decide +kernel
theorem d_X10_taken_107 : decode prog_12_method_118_code 107 = .ok (.istore 4, 2) := by decide +kernel
theorem d_X10_taken_109 : decode prog_12_method_118_code 109 = .ok (.iload 4, 2) := by decide +kernel
theorem d_X10_taken_111 : decode prog_12_method_118_code 111 = .ok (.ifCond .eq 12, 3) := by decide +kernel
theorem d_X10_taken_114 : decode prog_12_method_118_code 114 = .ok (.aload_n 0, 1) := by decide +kernel
theorem d_X10_taken_115 : decode prog_12_method_118_code 115 = .ok (.getfield 65, 3) := by decide +kernel
theorem d_X10_taken_118 : decode prog_12_method_118_code 118 = .ok (.iload_n 1, 1) := by decide +kernel
theorem d_X10_taken_119 : decode prog_12_method_118_code 119 = .ok (.iaload, 1) := by decide +kernel
theorem d_X10_taken_120 : decode prog_12_method_118_code 120 = .ok (.goto 5, 3) := by decide +kernel
theorem d_X10_taken_123 : decode prog_12_method_118_code 123 = .ok (.bipush (-13), 2) := by decide +kernel
theorem d_X10_taken_125 : decode prog_12_method_118_code 125 = .ok (.ireturn, 1) := by decide +kernel
theorem d_X10_runs_0 : decode prog_12_method_119_code 0 = .ok (.aload_n 0, 1) := by decide +kernel
theorem d_X10_runs_1 : decode prog_12_method_119_code 1 = .ok (.getfield 424, 3) := by decide +kernel
theorem d_X10_runs_4 : decode prog_12_method_119_code 4 = .ok (.ifCond .ne 32, 3) := by decide +kernel
theorem d_X10_runs_7 : decode prog_12_method_119_code 7 = .ok (.aload_n 0, 1) := by decide +kernel
theorem d_X10_runs_8 : decode prog_12_method_119_code 8 = .ok (.getfield 427, 3) := by decide +kernel
theorem d_X10_runs_11 : decode prog_12_method_119_code 11 = .ok (.bipush 30, 2) := by decide +kernel
theorem d_X10_runs_13 : decode prog_12_method_119_code 13 = .ok (.if_icmp .ge 13, 3) := by decide +kernel
theorem d_X10_runs_16 : decode prog_12_method_119_code 16 = .ok (.aload_n 0, 1) := by decide +kernel
theorem d_X10_runs_17 : decode prog_12_method_119_code 17 = .ok (.getfield 71, 3) := by decide +kernel
theorem d_X10_runs_20 : decode prog_12_method_119_code 20 = .ok (.aload_n 0, 1) := by decide +kernel
theorem d_X10_runs_21 : decode prog_12_method_119_code 21 = .ok (.getfield 427, 3) := by decide +kernel
theorem d_X10_runs_24 : decode prog_12_method_119_code 24 = .ok (.iload_n 1, 1) := by decide +kernel
theorem d_X10_runs_25 : decode prog_12_method_119_code 25 = .ok (.iastore, 1) := by decide +kernel
theorem d_X10_runs_26 : decode prog_12_method_119_code 26 = .ok (.aload_n 0, 1) := by decide +kernel
theorem d_X10_runs_27 : decode prog_12_method_119_code 27 = .ok (.dup, 1) := by decide +kernel
theorem d_X10_runs_28 : decode prog_12_method_119_code 28 = .ok (.getfield 427, 3) := by decide +kernel
theorem d_X10_runs_31 : decode prog_12_method_119_code 31 = .ok (.iconst 1, 1) := by decide +kernel
theorem d_X10_runs_32 : decode prog_12_method_119_code 32 = .ok (.iadd, 1) := by decide +kernel
theorem d_X10_runs_33 : decode prog_12_method_119_code 33 = .ok (.putfield 427, 3) := by decide +kernel
theorem d_X10_runs_36 : decode prog_12_method_119_code 36 = .ok (.return_, 1) := by decide +kernel
theorem d_X10_dims_0 : decode prog_12_method_120_code 0 = .ok (.aload_n 0, 1) := by decide +kernel
theorem d_X10_dims_1 : decode prog_12_method_120_code 1 = .ok (.getfield 430, 3) := by decide +kernel
theorem d_X10_dims_4 : decode prog_12_method_120_code 4 = .ok (.iconst 1, 1) := by decide +kernel
theorem d_X10_dims_5 : decode prog_12_method_120_code 5 = .ok (.if_icmp .ne 9, 3) := by decide +kernel
theorem d_X10_dims_8 : decode prog_12_method_120_code 8 = .ok (.aload_n 0, 1) := by decide +kernel
theorem d_X10_dims_9 : decode prog_12_method_120_code 9 = .ok (.bipush 20, 2) := by decide +kernel
theorem d_X10_dims_11 : decode prog_12_method_120_code 11 = .ok (.invokevirtual 433, 3) := by decide +kernel
theorem d_X10_dims_14 : decode prog_12_method_120_code 14 = .ok (.aload_n 0, 1) := by decide +kernel
theorem d_X10_dims_15 : decode prog_12_method_120_code 15 = .ok (.getfield 430, 3) := by decide +kernel
theorem d_X10_dims_18 : decode prog_12_method_120_code 18 = .ok (.iconst 3, 1) := by decide +kernel
theorem d_X10_dims_19 : decode prog_12_method_120_code 19 = .ok (.if_icmp .ne 9, 3) := by decide +kernel
theorem d_X10_dims_22 : decode prog_12_method_120_code 22 = .ok (.aload_n 0, 1) := by decide +kernel
theorem d_X10_dims_23 : decode prog_12_method_120_code 23 = .ok (.bipush 50, 2) := by decide +kernel
theorem d_X10_dims_25 : decode prog_12_method_120_code 25 = .ok (.invokevirtual 433, 3) := by decide +kernel
theorem d_X10_dims_28 : decode prog_12_method_120_code 28 = .ok (.aload_n 0, 1) := by decide +kernel
theorem d_X10_dims_29 : decode prog_12_method_120_code 29 = .ok (.bipush 10, 2) := by decide +kernel
theorem d_X10_dims_31 : decode prog_12_method_120_code 31 = .ok (.invokevirtual 433, 3) := by decide +kernel
theorem d_X10_dims_34 : decode prog_12_method_120_code 34 = .ok (.iload_n 1, 1) := by decide +kernel
theorem d_X10_dims_35 : decode prog_12_method_120_code 35 = .ok (.aload_n 0, 1) := by decide +kernel
theorem d_X10_dims_36 : decode prog_12_method_120_code 36 = .ok (.getfield 436, 3) := by decide +kernel
theorem d_X10_dims_39 : decode prog_12_method_120_code 39 = .ok (.iadd, 1) := by decide +kernel
theorem d_X10_dims_40 : decode prog_12_method_120_code 40 = .ok (.istore_n 2, 1) := by decide +kernel
theorem d_X10_dims_41 : decode prog_12_method_120_code 41 = .ok (.aload_n 0, 1) := by decide +kernel
theorem d_X10_dims_42 : decode prog_12_method_120_code 42 = .ok (.getfield 430, 3) := by decide +kernel
theorem d_X10_dims_45 : decode prog_12_method_120_code 45 = .ok (.iconst 1, 1) := by decide +kernel
theorem d_X10_dims_46 : decode prog_12_method_120_code 46 = .ok (.if_icmp .ne 12, 3) := by decide +kernel
theorem d_X10_dims_49 : decode prog_12_method_120_code 49 = .ok (.iload_n 2, 1) := by decide +kernel
theorem d_X10_dims_50 : decode prog_12_method_120_code 50 = .ok (.aload_n 0, 1) := by decide +kernel
theorem d_X10_dims_51 : decode prog_12_method_120_code 51 = .ok (.getfield 439, 3) := by decide +kernel
theorem d_X10_dims_54 : decode prog_12_method_120_code 54 = .ok (.ixor, 1) := by decide +kernel
theorem d_X10_dims_55 : decode prog_12_method_120_code 55 = .ok (.goto 18, 3) := by decide +kernel
theorem d_X10_dims_58 : decode prog_12_method_120_code 58 = .ok (.aload_n 0, 1) := by decide +kernel
theorem d_X10_dims_59 : decode prog_12_method_120_code 59 = .ok (.getfield 430, 3) := by decide +kernel
theorem d_X10_dims_62 : decode prog_12_method_120_code 62 = .ok (.iconst 3, 1) := by decide +kernel
theorem d_X10_dims_63 : decode prog_12_method_120_code 63 = .ok (.if_icmp .ne 9, 3) := by decide +kernel
theorem d_X10_dims_66 : decode prog_12_method_120_code 66 = .ok (.iload_n 2, 1) := by decide +kernel
theorem d_X10_dims_67 : decode prog_12_method_120_code 67 = .ok (.iconst 1, 1) := by decide +kernel
theorem d_X10_dims_68 : decode prog_12_method_120_code 68 = .ok (.iadd, 1) := by decide +kernel
theorem d_X10_dims_69 : decode prog_12_method_120_code 69 = .ok (.goto 4, 3) := by decide +kernel
theorem d_X10_dims_72 : decode prog_12_method_120_code 72 = .ok (.iload_n 2, 1) := by decide +kernel
theorem d_X10_dims_73 : decode prog_12_method_120_code 73 = .ok (.ireturn, 1) := by decide +kernel
theorem d_X10_widens_0 : decode prog_12_method_121_code 0 = .ok (.aload_n 0, 1) := by decide +kernel
theorem d_X10_widens_1 : decode prog_12_method_121_code 1 = .ok (.getfield 430, 3) := by decide +kernel
theorem d_X10_widens_4 : decode prog_12_method_121_code 4 = .ok (.iconst 2, 1) := by decide +kernel
theorem d_X10_widens_5 : decode prog_12_method_121_code 5 = .ok (.if_icmp .eq 11, 3) := by decide +kernel
theorem d_X10_widens_8 : decode prog_12_method_121_code 8 = .ok (.aload_n 0, 1) := by decide +kernel
theorem d_X10_widens_9 : decode prog_12_method_121_code 9 = .ok (.getfield 430, 3) := by decide +kernel
theorem d_X10_widens_12 : decode prog_12_method_121_code 12 = .ok (.iconst 3, 1) := by decide +kernel
theorem d_X10_widens_13 : decode prog_12_method_121_code 13 = .ok (.if_icmp .ne 7, 3) := by decide +kernel
theorem d_X10_widens_16 : decode prog_12_method_121_code 16 = .ok (.iconst 1, 1) := by decide +kernel
theorem d_X10_widens_17 : decode prog_12_method_121_code 17 = .ok (.goto 4, 3) := by decide +kernel
theorem d_X10_widens_20 : decode prog_12_method_121_code 20 = .ok (.iconst 0, 1) := by decide +kernel
theorem d_X10_widens_21 : decode prog_12_method_121_code 21 = .ok (.istore_n 2, 1) := by decide +kernel
theorem d_X10_widens_22 : decode prog_12_method_121_code 22 = .ok (.iload_n 2, 1) := by decide +kernel
theorem d_X10_widens_23 : decode prog_12_method_121_code 23 = .ok (.ifCond .eq 9, 3) := by decide +kernel
theorem d_X10_widens_26 : decode prog_12_method_121_code 26 = .ok (.aload_n 0, 1) := by decide +kernel
theorem d_X10_widens_27 : decode prog_12_method_121_code 27 = .ok (.bipush 30, 2) := by decide +kernel
theorem d_X10_widens_29 : decode prog_12_method_121_code 29 = .ok (.invokevirtual 433, 3) := by decide +kernel
theorem d_X10_widens_32 : decode prog_12_method_121_code 32 = .ok (.aload_n 0, 1) := by decide +kernel
theorem d_X10_widens_33 : decode prog_12_method_121_code 33 = .ok (.getfield 430, 3) := by decide +kernel
theorem d_X10_widens_36 : decode prog_12_method_121_code 36 = .ok (.iconst 5, 1) := by decide +kernel
theorem d_X10_widens_37 : decode prog_12_method_121_code 37 = .ok (.if_icmp .ne 9, 3) := by decide +kernel
theorem d_X10_widens_40 : decode prog_12_method_121_code 40 = .ok (.aload_n 0, 1) := by decide +kernel
theorem d_X10_widens_41 : decode prog_12_method_121_code 41 = .ok (.bipush 60, 2) := by decide +kernel
theorem d_X10_widens_43 : decode prog_12_method_121_code 43 = .ok (.invokevirtual 433, 3) := by decide +kernel
theorem d_X10_widens_46 : decode prog_12_method_121_code 46 = .ok (.aload_n 0, 1) := by decide +kernel
theorem d_X10_widens_47 : decode prog_12_method_121_code 47 = .ok (.bipush 11, 2) := by decide +kernel
theorem d_X10_widens_49 : decode prog_12_method_121_code 49 = .ok (.invokevirtual 433, 3) := by decide +kernel
theorem d_X10_widens_52 : decode prog_12_method_121_code 52 = .ok (.aload_n 0, 1) := by decide +kernel
theorem d_X10_widens_53 : decode prog_12_method_121_code 53 = .ok (.iload_n 1, 1) := by decide +kernel
theorem d_X10_widens_54 : decode prog_12_method_121_code 54 = .ok (.invokevirtual 442, 3) := by decide +kernel
theorem d_X10_widens_57 : decode prog_12_method_121_code 57 = .ok (.iconst 2, 1) := by decide +kernel
theorem d_X10_widens_58 : decode prog_12_method_121_code 58 = .ok (.imul, 1) := by decide +kernel
theorem d_X10_widens_59 : decode prog_12_method_121_code 59 = .ok (.istore_n 3, 1) := by decide +kernel
theorem d_X10_widens_60 : decode prog_12_method_121_code 60 = .ok (.iload_n 2, 1) := by decide +kernel
theorem d_X10_widens_61 : decode prog_12_method_121_code 61 = .ok (.ifCond .eq 12, 3) := by decide +kernel
theorem d_X10_widens_64 : decode prog_12_method_121_code 64 = .ok (.iload_n 3, 1) := by decide +kernel
theorem d_X10_widens_65 : decode prog_12_method_121_code 65 = .ok (.aload_n 0, 1) := by decide +kernel
theorem d_X10_widens_66 : decode prog_12_method_121_code 66 = .ok (.getfield 436, 3) := by decide +kernel
theorem d_X10_widens_69 : decode prog_12_method_121_code 69 = .ok (.isub, 1) := by decide +kernel
theorem d_X10_widens_70 : decode prog_12_method_121_code 70 = .ok (.goto 18, 3) := by decide +kernel
theorem d_X10_widens_73 : decode prog_12_method_121_code 73 = .ok (.aload_n 0, 1) := by decide +kernel
theorem d_X10_widens_74 : decode prog_12_method_121_code 74 = .ok (.getfield 430, 3) := by decide +kernel
theorem d_X10_widens_77 : decode prog_12_method_121_code 77 = .ok (.iconst 5, 1) := by decide +kernel
theorem d_X10_widens_78 : decode prog_12_method_121_code 78 = .ok (.if_icmp .ne 9, 3) := by decide +kernel
theorem d_X10_widens_81 : decode prog_12_method_121_code 81 = .ok (.iconst 0, 1) := by decide +kernel
theorem d_X10_widens_82 : decode prog_12_method_121_code 82 = .ok (.iload_n 3, 1) := by decide +kernel
theorem d_X10_widens_83 : decode prog_12_method_121_code 83 = .ok (.isub, 1) := by decide +kernel
theorem d_X10_widens_84 : decode prog_12_method_121_code 84 = .ok (.goto 4, 3) := by decide +kernel
theorem d_X10_widens_87 : decode prog_12_method_121_code 87 = .ok (.iload_n 3, 1) := by decide +kernel
theorem d_X10_widens_88 : decode prog_12_method_121_code 88 = .ok (.ireturn, 1) := by decide +kernel
theorem d_X10_plainParts_0 : decode prog_12_method_122_code 0 = .ok (.aload_n 0, 1) := by decide +kernel
theorem d_X10_plainParts_1 : decode prog_12_method_122_code 1 = .ok (.bipush 12, 2) := by decide +kernel
theorem d_X10_plainParts_3 : decode prog_12_method_122_code 3 = .ok (.invokevirtual 433, 3) := by decide +kernel
theorem d_X10_plainParts_6 : decode prog_12_method_122_code 6 = .ok (.aload_n 0, 1) := by decide +kernel
theorem d_X10_plainParts_7 : decode prog_12_method_122_code 7 = .ok (.getfield 436, 3) := by decide +kernel
theorem d_X10_plainParts_10 : decode prog_12_method_122_code 10 = .ok (.aload_n 0, 1) := by decide +kernel
theorem d_X10_plainParts_11 : decode prog_12_method_122_code 11 = .ok (.getfield 439, 3) := by decide +kernel
theorem d_X10_plainParts_14 : decode prog_12_method_122_code 14 = .ok (.if_icmp .ne 10, 3) := by decide +kernel
theorem d_X10_plainParts_17 : decode prog_12_method_122_code 17 = .ok (.aload_n 0, 1) := by decide +kernel
theorem d_X10_plainParts_18 : decode prog_12_method_122_code 18 = .ok (.iconst 1, 1) := by decide +kernel
theorem d_X10_plainParts_19 : decode prog_12_method_122_code 19 = .ok (.putfield 424, 3) := by decide +kernel
theorem d_X10_plainParts_22 : decode prog_12_method_122_code 22 = .ok (.iconst 0, 1) := by decide +kernel
theorem d_X10_plainParts_23 : decode prog_12_method_122_code 23 = .ok (.ireturn, 1) := by decide +kernel
theorem d_X10_plainParts_24 : decode prog_12_method_122_code 24 = .ok (.iload_n 1, 1) := by decide +kernel
theorem d_X10_plainParts_25 : decode prog_12_method_122_code 25 = .ok (.aload_n 0, 1) := by decide +kernel
theorem d_X10_plainParts_26 : decode prog_12_method_122_code 26 = .ok (.getfield 436, 3) := by decide +kernel
theorem d_X10_plainParts_29 : decode prog_12_method_122_code 29 = .ok (.aload_n 0, 1) := by decide +kernel
theorem d_X10_plainParts_30 : decode prog_12_method_122_code 30 = .ok (.getfield 439, 3) := by decide +kernel
theorem d_X10_plainParts_33 : decode prog_12_method_122_code 33 = .ok (.isub, 1) := by decide +kernel
theorem d_X10_plainParts_34 : decode prog_12_method_122_code 34 = .ok (.idiv, 1) := by decide +kernel
theorem d_X10_plainParts_35 : decode prog_12_method_122_code 35 = .ok (.ireturn, 1) := by decide +kernel
theorem d_X10_parts_0 : decode prog_12_method_123_code 0 = .ok (.aload_n 0, 1) := by decide +kernel
theorem d_X10_parts_1 : decode prog_12_method_123_code 1 = .ok (.getfield 430, 3) := by decide +kernel
theorem d_X10_parts_4 : decode prog_12_method_123_code 4 = .ok (.iconst 4, 1) := by decide +kernel
theorem d_X10_parts_5 : decode prog_12_method_123_code 5 = .ok (.if_icmp .ne 17, 3) := by decide +kernel
theorem d_X10_parts_8 : decode prog_12_method_123_code 8 = .ok (.aload_n 0, 1) := by decide +kernel
theorem d_X10_parts_9 : decode prog_12_method_123_code 9 = .ok (.bipush 40, 2) := by decide +kernel
theorem d_X10_parts_11 : decode prog_12_method_123_code 11 = .ok (.invokevirtual 433, 3) := by decide +kernel
theorem d_X10_parts_14 : decode prog_12_method_123_code 14 = .ok (.aload_n 0, 1) := by decide +kernel
theorem d_X10_parts_15 : decode prog_12_method_123_code 15 = .ok (.iload_n 1, 1) := by decide +kernel
theorem d_X10_parts_16 : decode prog_12_method_123_code 16 = .ok (.iconst 2, 1) := by decide +kernel
theorem d_X10_parts_17 : decode prog_12_method_123_code 17 = .ok (.imul, 1) := by decide +kernel
theorem d_X10_parts_18 : decode prog_12_method_123_code 18 = .ok (.invokevirtual 445, 3) := by decide +kernel
theorem d_X10_parts_21 : decode prog_12_method_123_code 21 = .ok (.ireturn, 1) := by decide +kernel
theorem d_X10_parts_22 : decode prog_12_method_123_code 22 = .ok (.aload_n 0, 1) := by decide +kernel
theorem d_X10_parts_23 : decode prog_12_method_123_code 23 = .ok (.getfield 430, 3) := by decide +kernel
theorem d_X10_parts_26 : decode prog_12_method_123_code 26 = .ok (.iconst 5, 1) := by decide +kernel
theorem d_X10_parts_27 : decode prog_12_method_123_code 27 = .ok (.if_icmp .ne 45, 3) := by decide +kernel
theorem d_X10_parts_30 : decode prog_12_method_123_code 30 = .ok (.aload_n 0, 1) := by decide +kernel
theorem d_X10_parts_31 : decode prog_12_method_123_code 31 = .ok (.bipush 61, 2) := by decide +kernel
theorem d_X10_parts_33 : decode prog_12_method_123_code 33 = .ok (.invokevirtual 433, 3) := by decide +kernel
theorem d_X10_parts_36 : decode prog_12_method_123_code 36 = .ok (.aload_n 0, 1) := by decide +kernel
theorem d_X10_parts_37 : decode prog_12_method_123_code 37 = .ok (.bipush 40, 2) := by decide +kernel
theorem d_X10_parts_39 : decode prog_12_method_123_code 39 = .ok (.invokevirtual 433, 3) := by decide +kernel
theorem d_X10_parts_42 : decode prog_12_method_123_code 42 = .ok (.aload_n 0, 1) := by decide +kernel
theorem d_X10_parts_43 : decode prog_12_method_123_code 43 = .ok (.iload_n 1, 1) := by decide +kernel
theorem d_X10_parts_44 : decode prog_12_method_123_code 44 = .ok (.iconst 2, 1) := by decide +kernel
theorem d_X10_parts_45 : decode prog_12_method_123_code 45 = .ok (.imul, 1) := by decide +kernel
theorem d_X10_parts_46 : decode prog_12_method_123_code 46 = .ok (.invokevirtual 445, 3) := by decide +kernel
theorem d_X10_parts_49 : decode prog_12_method_123_code 49 = .ok (.istore_n 2, 1) := by decide +kernel
theorem d_X10_parts_50 : decode prog_12_method_123_code 50 = .ok (.aload_n 0, 1) := by decide +kernel
theorem d_X10_parts_51 : decode prog_12_method_123_code 51 = .ok (.getfield 424, 3) := by decide +kernel
theorem d_X10_parts_54 : decode prog_12_method_123_code 54 = .ok (.ifCond .eq 7, 3) := by decide +kernel
theorem d_X10_parts_57 : decode prog_12_method_123_code 57 = .ok (.iconst 0, 1) := by decide +kernel
theorem d_X10_parts_58 : decode prog_12_method_123_code 58 = .ok (.goto 13, 3) := by decide +kernel
theorem d_X10_parts_61 : decode prog_12_method_123_code 61 = .ok (.iload_n 2, 1) := by decide +kernel
theorem d_X10_parts_62 : decode prog_12_method_123_code 62 = .ok (.aload_n 0, 1) := by decide +kernel
theorem d_X10_parts_63 : decode prog_12_method_123_code 63 = .ok (.aload_n 0, 1) := by decide +kernel
theorem d_X10_parts_64 : decode prog_12_method_123_code 64 = .ok (.getfield 439, 3) := by decide +kernel
theorem d_X10_parts_67 : decode prog_12_method_123_code 67 = .ok (.invokevirtual 442, 3) := by decide +kernel
theorem d_X10_parts_70 : decode prog_12_method_123_code 70 = .ok (.isub, 1) := by decide +kernel
theorem d_X10_parts_71 : decode prog_12_method_123_code 71 = .ok (.ireturn, 1) := by decide +kernel
theorem d_X10_parts_72 : decode prog_12_method_123_code 72 = .ok (.aload_n 0, 1) := by decide +kernel
theorem d_X10_parts_73 : decode prog_12_method_123_code 73 = .ok (.iload_n 1, 1) := by decide +kernel
theorem d_X10_parts_74 : decode prog_12_method_123_code 74 = .ok (.invokevirtual 445, 3) := by decide +kernel
theorem d_X10_parts_77 : decode prog_12_method_123_code 77 = .ok (.ireturn, 1) := by decide +kernel
theorem d_X10_tells_0 : decode prog_12_method_124_code 0 = .ok (.aload_n 0, 1) := by decide +kernel
theorem d_X10_tells_1 : decode prog_12_method_124_code 1 = .ok (.getfield 430, 3) := by decide +kernel
theorem d_X10_tells_4 : decode prog_12_method_124_code 4 = .ok (.iconst 3, 1) := by decide +kernel
theorem d_X10_tells_5 : decode prog_12_method_124_code 5 = .ok (.if_icmp .ne 9, 3) := by decide +kernel
theorem d_X10_tells_8 : decode prog_12_method_124_code 8 = .ok (.aload_n 0, 1) := by decide +kernel
theorem d_X10_tells_9 : decode prog_12_method_124_code 9 = .ok (.bipush 51, 2) := by decide +kernel
theorem d_X10_tells_11 : decode prog_12_method_124_code 11 = .ok (.invokevirtual 433, 3) := by decide +kernel
theorem d_X10_tells_14 : decode prog_12_method_124_code 14 = .ok (.aload_n 0, 1) := by decide +kernel
theorem d_X10_tells_15 : decode prog_12_method_124_code 15 = .ok (.bipush 13, 2) := by decide +kernel
theorem d_X10_tells_17 : decode prog_12_method_124_code 17 = .ok (.invokevirtual 433, 3) := by decide +kernel
theorem d_X10_tells_20 : decode prog_12_method_124_code 20 = .ok (.aload_n 0, 1) := by decide +kernel
theorem d_X10_tells_21 : decode prog_12_method_124_code 21 = .ok (.iload_n 1, 1) := by decide +kernel
theorem d_X10_tells_22 : decode prog_12_method_124_code 22 = .ok (.invokevirtual 448, 3) := by decide +kernel
theorem d_X10_tells_25 : decode prog_12_method_124_code 25 = .ok (.aload_n 0, 1) := by decide +kernel
theorem d_X10_tells_26 : decode prog_12_method_124_code 26 = .ok (.getfield 439, 3) := by decide +kernel
theorem d_X10_tells_29 : decode prog_12_method_124_code 29 = .ok (.ixor, 1) := by decide +kernel
theorem d_X10_tells_30 : decode prog_12_method_124_code 30 = .ok (.istore_n 2, 1) := by decide +kernel
theorem d_X10_tells_31 : decode prog_12_method_124_code 31 = .ok (.aload_n 0, 1) := by decide +kernel
theorem d_X10_tells_32 : decode prog_12_method_124_code 32 = .ok (.getfield 430, 3) := by decide +kernel
theorem d_X10_tells_35 : decode prog_12_method_124_code 35 = .ok (.iconst 3, 1) := by decide +kernel
theorem d_X10_tells_36 : decode prog_12_method_124_code 36 = .ok (.if_icmp .ne 16, 3) := by decide +kernel
theorem d_X10_tells_39 : decode prog_12_method_124_code 39 = .ok (.iload_n 2, 1) := by decide +kernel
theorem d_X10_tells_40 : decode prog_12_method_124_code 40 = .ok (.aload_n 0, 1) := by decide +kernel
theorem d_X10_tells_41 : decode prog_12_method_124_code 41 = .ok (.aload_n 0, 1) := by decide +kernel
theorem d_X10_tells_42 : decode prog_12_method_124_code 42 = .ok (.getfield 439, 3) := by decide +kernel
theorem d_X10_tells_45 : decode prog_12_method_124_code 45 = .ok (.invokevirtual 451, 3) := by decide +kernel
theorem d_X10_tells_48 : decode prog_12_method_124_code 48 = .ok (.iadd, 1) := by decide +kernel
theorem d_X10_tells_49 : decode prog_12_method_124_code 49 = .ok (.goto 4, 3) := by decide +kernel
theorem d_X10_tells_52 : decode prog_12_method_124_code 52 = .ok (.iload_n 2, 1) := by decide +kernel
theorem d_X10_tells_53 : decode prog_12_method_124_code 53 = .ok (.ireturn, 1) := by decide +kernel
theorem d_X10_act_0 : decode prog_12_method_125_code 0 = .ok (.aload_n 0, 1) := by decide +kernel
theorem d_X10_act_1 : decode prog_12_method_125_code 1 = .ok (.iconst 0, 1) := by decide +kernel
theorem d_X10_act_2 : decode prog_12_method_125_code 2 = .ok (.putfield 427, 3) := by decide +kernel
theorem d_X10_act_5 : decode prog_12_method_125_code 5 = .ok (.aload_n 0, 1) := by decide +kernel
theorem d_X10_act_6 : decode prog_12_method_125_code 6 = .ok (.iconst 0, 1) := by decide +kernel
theorem d_X10_act_7 : decode prog_12_method_125_code 7 = .ok (.putfield 424, 3) := by decide +kernel
theorem d_X10_act_10 : decode prog_12_method_125_code 10 = .ok (.aload_n 0, 1) := by decide +kernel
theorem d_X10_act_11 : decode prog_12_method_125_code 11 = .ok (.aload_n 0, 1) := by decide +kernel
theorem d_X10_act_12 : decode prog_12_method_125_code 12 = .ok (.iload_n 1, 1) := by decide +kernel
theorem d_X10_act_13 : decode prog_12_method_125_code 13 = .ok (.invokevirtual 421, 3) := by decide +kernel
theorem d_X10_act_16 : decode prog_12_method_125_code 16 = .ok (.putfield 439, 3) := by decide +kernel
theorem d_X10_act_19 : decode prog_12_method_125_code 19 = .ok (.aload_n 0, 1) := by decide +kernel
theorem d_X10_act_20 : decode prog_12_method_125_code 20 = .ok (.getfield 439, 3) := by decide +kernel
theorem d_X10_act_23 : decode prog_12_method_125_code 23 = .ok (.ifCond .lt 15, 3) := by decide +kernel
theorem d_X10_act_26 : decode prog_12_method_125_code 26 = .ok (.iload_n 2, 1) := by decide +kernel
theorem d_X10_act_27 : decode prog_12_method_125_code 27 = .ok (.i2l, 1) := by decide +kernel
theorem d_X10_act_28 : decode prog_12_method_125_code 28 = .ok (.lconst 0, 1) := by decide +kernel
theorem d_X10_act_29 : decode prog_12_method_125_code 29 = .ok (.ldc2_w 127, 3) := by decide +kernel
theorem d_X10_act_32 : decode prog_12_method_125_code 32 = .ok (.invokestatic 74, 3) := by decide +kernel
theorem d_X10_act_35 : decode prog_12_method_125_code 35 = .ok (.ifCond .ne 5, 3) := by decide +kernel
theorem d_X10_act_38 : decode prog_12_method_125_code 38 = .ok (.iconst 0, 1) := by decide +kernel
theorem d_X10_act_39 : decode prog_12_method_125_code 39 = .ok (.ireturn, 1) := by decide +kernel
theorem d_X10_act_40 : decode prog_12_method_125_code 40 = .ok (.aload_n 0, 1) := by decide +kernel
theorem d_X10_act_41 : decode prog_12_method_125_code 41 = .ok (.aload_n 0, 1) := by decide +kernel
theorem d_X10_act_42 : decode prog_12_method_125_code 42 = .ok (.aload_n 0, 1) := by decide +kernel
theorem d_X10_act_43 : decode prog_12_method_125_code 43 = .ok (.getfield 439, 3) := by decide +kernel
theorem d_X10_act_46 : decode prog_12_method_125_code 46 = .ok (.iconst 1, 1) := by decide +kernel
theorem d_X10_act_47 : decode prog_12_method_125_code 47 = .ok (.invokevirtual 98, 3) := by decide +kernel
theorem d_X10_act_50 : decode prog_12_method_125_code 50 = .ok (.putfield 436, 3) := by decide +kernel
theorem d_X10_act_53 : decode prog_12_method_125_code 53 = .ok (.aload_n 0, 1) := by decide +kernel
theorem d_X10_act_54 : decode prog_12_method_125_code 54 = .ok (.aload_n 0, 1) := by decide +kernel
theorem d_X10_act_55 : decode prog_12_method_125_code 55 = .ok (.aload_n 0, 1) := by decide +kernel
theorem d_X10_act_56 : decode prog_12_method_125_code 56 = .ok (.getfield 439, 3) := by decide +kernel
theorem d_X10_act_59 : decode prog_12_method_125_code 59 = .ok (.iconst 0, 1) := by decide +kernel
theorem d_X10_act_60 : decode prog_12_method_125_code 60 = .ok (.invokevirtual 98, 3) := by decide +kernel
theorem d_X10_act_63 : decode prog_12_method_125_code 63 = .ok (.putfield 430, 3) := by decide +kernel
theorem d_X10_act_66 : decode prog_12_method_125_code 66 = .ok (.iload_n 2, 1) := by decide +kernel
theorem d_X10_act_67 : decode prog_12_method_125_code 67 = .ok (.ifCond .ne 11, 3) := by decide +kernel
theorem d_X10_act_70 : decode prog_12_method_125_code 70 = .ok (.aload_n 0, 1) := by decide +kernel
theorem d_X10_act_71 : decode prog_12_method_125_code 71 = .ok (.iload_n 3, 1) := by decide +kernel
theorem d_X10_act_72 : decode prog_12_method_125_code 72 = .ok (.invokevirtual 442, 3) := by decide +kernel
theorem d_X10_act_75 : decode prog_12_method_125_code 75 = .ok (.goto 34, 3) := by decide +kernel
theorem d_X10_act_78 : decode prog_12_method_125_code 78 = .ok (.iload_n 2, 1) := by decide +kernel
theorem d_X10_act_79 : decode prog_12_method_125_code 79 = .ok (.iconst 1, 1) := by decide +kernel
theorem d_X10_act_80 : decode prog_12_method_125_code 80 = .ok (.if_icmp .ne 11, 3) := by decide +kernel
theorem d_X10_act_83 : decode prog_12_method_125_code 83 = .ok (.aload_n 0, 1) := by decide +kernel
theorem d_X10_act_84 : decode prog_12_method_125_code 84 = .ok (.iload_n 3, 1) := by decide +kernel
theorem d_X10_act_85 : decode prog_12_method_125_code 85 = .ok (.invokevirtual 448, 3) := by decide +kernel
theorem d_X10_act_88 : decode prog_12_method_125_code 88 = .ok (.goto 21, 3) := by decide +kernel
theorem d_X10_act_91 : decode prog_12_method_125_code 91 = .ok (.iload_n 2, 1) := by decide +kernel
theorem d_X10_act_92 : decode prog_12_method_125_code 92 = .ok (.iconst 2, 1) := by decide +kernel
theorem d_X10_act_93 : decode prog_12_method_125_code 93 = .ok (.if_icmp .ne 11, 3) := by decide +kernel
theorem d_X10_act_96 : decode prog_12_method_125_code 96 = .ok (.aload_n 0, 1) := by decide +kernel
theorem d_X10_act_97 : decode prog_12_method_125_code 97 = .ok (.iload_n 3, 1) := by decide +kernel
theorem d_X10_act_98 : decode prog_12_method_125_code 98 = .ok (.invokevirtual 451, 3) := by decide +kernel
theorem d_X10_act_101 : decode prog_12_method_125_code 101 = .ok (.goto 8, 3) := by decide +kernel
theorem d_X10_act_104 : decode prog_12_method_125_code 104 = .ok (.aload_n 0, 1) := by decide +kernel
theorem d_X10_act_105 : decode prog_12_method_125_code 105 = .ok (.iload_n 3, 1) := by decide +kernel
theorem d_X10_act_106 : decode prog_12_method_125_code 106 = .ok (.invokevirtual 454, 3) := by decide +kernel
theorem d_X10_act_109 : decode prog_12_method_125_code 109 = .ok (.istore 4, 2) := by decide +kernel
theorem d_X10_act_111 : decode prog_12_method_125_code 111 = .ok (.aload_n 0, 1) := by decide +kernel
theorem d_X10_act_112 : decode prog_12_method_125_code 112 = .ok (.getfield 424, 3) := by decide +kernel
theorem d_X10_act_115 : decode prog_12_method_125_code 115 = .ok (.ifCond .eq 8, 3) := by decide +kernel
theorem d_X10_act_118 : decode prog_12_method_125_code 118 = .ok (.bipush (-15), 2) := by decide +kernel
theorem d_X10_act_120 : decode prog_12_method_125_code 120 = .ok (.goto 5, 3) := by decide +kernel
theorem d_X10_act_123 : decode prog_12_method_125_code 123 = .ok (.iload 4, 2) := by decide +kernel
theorem d_X10_act_125 : decode prog_12_method_125_code 125 = .ok (.ireturn, 1) := by decide +kernel
theorem d_X10_traced_0 : decode prog_12_method_126_code 0 = .ok (.aload_n 0, 1) := by decide +kernel
theorem d_X10_traced_1 : decode prog_12_method_126_code 1 = .ok (.getfield 427, 3) := by decide +kernel
theorem d_X10_traced_4 : decode prog_12_method_126_code 4 = .ok (.bipush 30, 2) := by decide +kernel
theorem d_X10_traced_6 : decode prog_12_method_126_code 6 = .ok (.if_icmp .ge 10, 3) := by decide +kernel
theorem d_X10_traced_9 : decode prog_12_method_126_code 9 = .ok (.aload_n 0, 1) := by decide +kernel
theorem d_X10_traced_10 : decode prog_12_method_126_code 10 = .ok (.getfield 427, 3) := by decide +kernel
theorem d_X10_traced_13 : decode prog_12_method_126_code 13 = .ok (.goto 5, 3) := by decide +kernel
theorem d_X10_traced_16 : decode prog_12_method_126_code 16 = .ok (.bipush 30, 2) := by decide +kernel
theorem d_X10_traced_18 : decode prog_12_method_126_code 18 = .ok (.ireturn, 1) := by decide +kernel
theorem d_X10_trace_0 : decode prog_12_method_127_code 0 = .ok (.iload_n 1, 1) := by decide +kernel
theorem d_X10_trace_1 : decode prog_12_method_127_code 1 = .ok (.i2l, 1) := by decide +kernel
theorem d_X10_trace_2 : decode prog_12_method_127_code 2 = .ok (.lconst 0, 1) := by decide +kernel
theorem d_X10_trace_3 : decode prog_12_method_127_code 3 = .ok (.aload_n 0, 1) := by decide +kernel
theorem d_X10_trace_4 : decode prog_12_method_127_code 4 = .ok (.invokevirtual 457, 3) := by decide +kernel
theorem d_X10_trace_7 : decode prog_12_method_127_code 7 = .ok (.iconst 1, 1) := by decide +kernel
theorem d_X10_trace_8 : decode prog_12_method_127_code 8 = .ok (.isub, 1) := by decide +kernel
theorem d_X10_trace_9 : decode prog_12_method_127_code 9 = .ok (.i2l, 1) := by decide +kernel
theorem d_X10_trace_10 : decode prog_12_method_127_code 10 = .ok (.invokestatic 74, 3) := by decide +kernel
theorem d_X10_trace_13 : decode prog_12_method_127_code 13 = .ok (.ifCond .eq 12, 3) := by decide +kernel
theorem d_X10_trace_16 : decode prog_12_method_127_code 16 = .ok (.aload_n 0, 1) := by decide +kernel
theorem d_X10_trace_17 : decode prog_12_method_127_code 17 = .ok (.getfield 71, 3) := by decide +kernel
theorem d_X10_trace_20 : decode prog_12_method_127_code 20 = .ok (.iload_n 1, 1) := by decide +kernel
theorem d_X10_trace_21 : decode prog_12_method_127_code 21 = .ok (.iaload, 1) := by decide +kernel
theorem d_X10_trace_22 : decode prog_12_method_127_code 22 = .ok (.goto 5, 3) := by decide +kernel
theorem d_X10_trace_25 : decode prog_12_method_127_code 25 = .ok (.bipush (-3), 2) := by decide +kernel
theorem d_X10_trace_27 : decode prog_12_method_127_code 27 = .ok (.ireturn, 1) := by decide +kernel
theorem d_X10_many_0 : decode prog_12_method_128_code 0 = .ok (.iload_n 1, 1) := by decide +kernel
theorem d_X10_many_1 : decode prog_12_method_128_code 1 = .ok (.tableswitch 86 0 6 #[43, 50, 57, 64, 71, 76, 81], 43) := by decide +kernel
theorem d_X10_many_44 : decode prog_12_method_128_code 44 = .ok (.aload_n 0, 1) := by decide +kernel
theorem d_X10_many_45 : decode prog_12_method_128_code 45 = .ok (.getfield 7, 3) := by decide +kernel
theorem d_X10_many_48 : decode prog_12_method_128_code 48 = .ok (.iconst 0, 1) := by decide +kernel
theorem d_X10_many_49 : decode prog_12_method_128_code 49 = .ok (.iaload, 1) := by decide +kernel
theorem d_X10_many_50 : decode prog_12_method_128_code 50 = .ok (.ireturn, 1) := by decide +kernel
theorem d_X10_many_51 : decode prog_12_method_128_code 51 = .ok (.aload_n 0, 1) := by decide +kernel
theorem d_X10_many_52 : decode prog_12_method_128_code 52 = .ok (.getfield 7, 3) := by decide +kernel
theorem d_X10_many_55 : decode prog_12_method_128_code 55 = .ok (.iconst 1, 1) := by decide +kernel
theorem d_X10_many_56 : decode prog_12_method_128_code 56 = .ok (.iaload, 1) := by decide +kernel
theorem d_X10_many_57 : decode prog_12_method_128_code 57 = .ok (.ireturn, 1) := by decide +kernel
theorem d_X10_many_58 : decode prog_12_method_128_code 58 = .ok (.aload_n 0, 1) := by decide +kernel
theorem d_X10_many_59 : decode prog_12_method_128_code 59 = .ok (.getfield 7, 3) := by decide +kernel
theorem d_X10_many_62 : decode prog_12_method_128_code 62 = .ok (.iconst 2, 1) := by decide +kernel
theorem d_X10_many_63 : decode prog_12_method_128_code 63 = .ok (.iaload, 1) := by decide +kernel
theorem d_X10_many_64 : decode prog_12_method_128_code 64 = .ok (.ireturn, 1) := by decide +kernel
theorem d_X10_many_65 : decode prog_12_method_128_code 65 = .ok (.aload_n 0, 1) := by decide +kernel
theorem d_X10_many_66 : decode prog_12_method_128_code 66 = .ok (.getfield 7, 3) := by decide +kernel
theorem d_X10_many_69 : decode prog_12_method_128_code 69 = .ok (.iconst 3, 1) := by decide +kernel
theorem d_X10_many_70 : decode prog_12_method_128_code 70 = .ok (.iaload, 1) := by decide +kernel
theorem d_X10_many_71 : decode prog_12_method_128_code 71 = .ok (.ireturn, 1) := by decide +kernel
theorem d_X10_many_72 : decode prog_12_method_128_code 72 = .ok (.aload_n 0, 1) := by decide +kernel
theorem d_X10_many_73 : decode prog_12_method_128_code 73 = .ok (.getfield 264, 3) := by decide +kernel
theorem d_X10_many_76 : decode prog_12_method_128_code 76 = .ok (.ireturn, 1) := by decide +kernel
theorem d_X10_many_77 : decode prog_12_method_128_code 77 = .ok (.aload_n 0, 1) := by decide +kernel
theorem d_X10_many_78 : decode prog_12_method_128_code 78 = .ok (.getfield 275, 3) := by decide +kernel
theorem d_X10_many_81 : decode prog_12_method_128_code 81 = .ok (.ireturn, 1) := by decide +kernel
theorem d_X10_many_82 : decode prog_12_method_128_code 82 = .ok (.aload_n 0, 1) := by decide +kernel
theorem d_X10_many_83 : decode prog_12_method_128_code 83 = .ok (.invokevirtual 457, 3) := by decide +kernel
theorem d_X10_many_86 : decode prog_12_method_128_code 86 = .ok (.ireturn, 1) := by decide +kernel
theorem d_X10_many_87 : decode prog_12_method_128_code 87 = .ok (.iconst (-1), 1) := by decide +kernel
theorem d_X10_many_88 : decode prog_12_method_128_code 88 = .ok (.ireturn, 1) := by decide +kernel
theorem d_X10_keep_0 : decode prog_12_method_129_code 0 = .ok (.iconst 0, 1) := by decide +kernel
theorem d_X10_keep_1 : decode prog_12_method_129_code 1 = .ok (.istore_n 1, 1) := by decide +kernel
theorem d_X10_keep_2 : decode prog_12_method_129_code 2 = .ok (.iload_n 1, 1) := by decide +kernel
theorem d_X10_keep_3 : decode prog_12_method_129_code 3 = .ok (.sipush 300, 3) := by decide +kernel
theorem d_X10_keep_6 : decode prog_12_method_129_code 6 = .ok (.if_icmp .ge 21, 3) := by decide +kernel
theorem d_X10_keep_9 : decode prog_12_method_129_code 9 = .ok (.aload_n 0, 1) := by decide +kernel
theorem d_X10_keep_10 : decode prog_12_method_129_code 10 = .ok (.getfield 13, 3) := by decide +kernel
theorem d_X10_keep_13 : decode prog_12_method_129_code 13 = .ok (.iload_n 1, 1) := by decide +kernel
theorem d_X10_keep_14 : decode prog_12_method_129_code 14 = .ok (.aload_n 0, 1) := by decide +kernel
theorem d_X10_keep_15 : decode prog_12_method_129_code 15 = .ok (.getfield 7, 3) := by decide +kernel
theorem d_X10_keep_18 : decode prog_12_method_129_code 18 = .ok (.iload_n 1, 1) := by decide +kernel
theorem d_X10_keep_19 : decode prog_12_method_129_code 19 = .ok (.iaload, 1) := by decide +kernel
theorem d_X10_keep_20 : decode prog_12_method_129_code 20 = .ok (.iastore, 1) := by decide +kernel
theorem d_X10_keep_21 : decode prog_12_method_129_code 21 = .ok (.iinc 1 1, 3) := by decide +kernel
theorem d_X10_keep_24 : decode prog_12_method_129_code 24 = .ok (.goto (-22), 3) := by decide +kernel
theorem d_X10_keep_27 : decode prog_12_method_129_code 27 = .ok (.aload_n 0, 1) := by decide +kernel
theorem d_X10_keep_28 : decode prog_12_method_129_code 28 = .ok (.iconst 1, 1) := by decide +kernel
theorem d_X10_keep_29 : decode prog_12_method_129_code 29 = .ok (.putfield 460, 3) := by decide +kernel
theorem d_X10_keep_32 : decode prog_12_method_129_code 32 = .ok (.iconst 1, 1) := by decide +kernel
theorem d_X10_keep_33 : decode prog_12_method_129_code 33 = .ok (.ireturn, 1) := by decide +kernel
theorem d_X10_again_0 : decode prog_12_method_130_code 0 = .ok (.aload_n 0, 1) := by decide +kernel
theorem d_X10_again_1 : decode prog_12_method_130_code 1 = .ok (.getfield 460, 3) := by decide +kernel
theorem d_X10_again_4 : decode prog_12_method_130_code 4 = .ok (.ifCond .ne 6, 3) := by decide +kernel
theorem d_X10_again_7 : decode prog_12_method_130_code 7 = .ok (.bipush (-3), 2) := by decide +kernel
theorem d_X10_again_9 : decode prog_12_method_130_code 9 = .ok (.ireturn, 1) := by decide +kernel
theorem d_X10_again_10 : decode prog_12_method_130_code 10 = .ok (.iconst 0, 1) := by decide +kernel
theorem d_X10_again_11 : decode prog_12_method_130_code 11 = .ok (.istore_n 1, 1) := by decide +kernel
theorem d_X10_again_12 : decode prog_12_method_130_code 12 = .ok (.iload_n 1, 1) := by decide +kernel
theorem d_X10_again_13 : decode prog_12_method_130_code 13 = .ok (.sipush 300, 3) := by decide +kernel
theorem d_X10_again_16 : decode prog_12_method_130_code 16 = .ok (.if_icmp .ge 21, 3) := by decide +kernel
theorem d_X10_again_19 : decode prog_12_method_130_code 19 = .ok (.aload_n 0, 1) := by decide +kernel
theorem d_X10_again_20 : decode prog_12_method_130_code 20 = .ok (.getfield 7, 3) := by decide +kernel
theorem d_X10_again_23 : decode prog_12_method_130_code 23 = .ok (.iload_n 1, 1) := by decide +kernel
theorem d_X10_again_24 : decode prog_12_method_130_code 24 = .ok (.aload_n 0, 1) := by decide +kernel
theorem d_X10_again_25 : decode prog_12_method_130_code 25 = .ok (.getfield 13, 3) := by decide +kernel
theorem d_X10_again_28 : decode prog_12_method_130_code 28 = .ok (.iload_n 1, 1) := by decide +kernel
theorem d_X10_again_29 : decode prog_12_method_130_code 29 = .ok (.iaload, 1) := by decide +kernel
theorem d_X10_again_30 : decode prog_12_method_130_code 30 = .ok (.iastore, 1) := by decide +kernel
theorem d_X10_again_31 : decode prog_12_method_130_code 31 = .ok (.iinc 1 1, 3) := by decide +kernel
theorem d_X10_again_34 : decode prog_12_method_130_code 34 = .ok (.goto (-22), 3) := by decide +kernel
theorem d_X10_again_37 : decode prog_12_method_130_code 37 = .ok (.aload_n 0, 1) := by decide +kernel
theorem d_X10_again_38 : decode prog_12_method_130_code 38 = .ok (.getfield 7, 3) := by decide +kernel
theorem d_X10_again_41 : decode prog_12_method_130_code 41 = .ok (.iconst 0, 1) := by decide +kernel
theorem d_X10_again_42 : decode prog_12_method_130_code 42 = .ok (.iaload, 1) := by decide +kernel
theorem d_X10_again_43 : decode prog_12_method_130_code 43 = .ok (.ireturn, 1) := by decide +kernel
