theorem d_X9_init_0 : decode prog_1_method_1_code 0 = .ok (.aload_n 0, 1) := by decide +kernel
theorem d_X9_init_1 : decode prog_1_method_1_code 1 = .ok (.invokespecial 3, 3) := by decide +kernel
theorem d_X9_init_4 : decode prog_1_method_1_code 4 = .ok (.aload_n 0, 1) := by decide +kernel
theorem d_X9_init_5 : decode prog_1_method_1_code 5 = .ok (.new 9, 3) := by decide +kernel
theorem d_X9_init_8 : decode prog_1_method_1_code 8 = .ok (.dup, 1) := by decide +kernel
theorem d_X9_init_9 : decode prog_1_method_1_code 9 = .ok (.invokespecial 11, 3) := by decide +kernel
theorem d_X9_init_12 : decode prog_1_method_1_code 12 = .ok (.putfield 12, 3) := by decide +kernel
theorem d_X9_init_15 : decode prog_1_method_1_code 15 = .ok (.aload_n 0, 1) := by decide +kernel
theorem d_X9_init_16 : decode prog_1_method_1_code 16 = .ok (.new 9, 3) := by decide +kernel
theorem d_X9_init_19 : decode prog_1_method_1_code 19 = .ok (.dup, 1) := by decide +kernel
theorem d_X9_init_20 : decode prog_1_method_1_code 20 = .ok (.invokespecial 11, 3) := by decide +kernel
theorem d_X9_init_23 : decode prog_1_method_1_code 23 = .ok (.putfield 16, 3) := by decide +kernel
theorem d_X9_init_26 : decode prog_1_method_1_code 26 = .ok (.aload_n 0, 1) := by decide +kernel
theorem d_X9_init_27 : decode prog_1_method_1_code 27 = .ok (.new 9, 3) := by decide +kernel
theorem d_X9_init_30 : decode prog_1_method_1_code 30 = .ok (.dup, 1) := by decide +kernel
theorem d_X9_init_31 : decode prog_1_method_1_code 31 = .ok (.invokespecial 11, 3) := by decide +kernel
theorem d_X9_init_34 : decode prog_1_method_1_code 34 = .ok (.putfield 19, 3) := by decide +kernel
theorem d_X9_init_37 : decode prog_1_method_1_code 37 = .ok (.aload_n 0, 1) := by decide +kernel
theorem d_X9_init_38 : decode prog_1_method_1_code 38 = .ok (.new 22, 3) := by decide +kernel
theorem d_X9_init_41 : decode prog_1_method_1_code 41 = .ok (.dup, 1) := by decide +kernel
theorem d_X9_init_42 : decode prog_1_method_1_code 42 = .ok (.invokespecial 24, 3) := by decide +kernel
theorem d_X9_init_45 : decode prog_1_method_1_code 45 = .ok (.putfield 25, 3) := by decide +kernel
theorem d_X9_init_48 : decode prog_1_method_1_code 48 = .ok (.aload_n 0, 1) := by decide +kernel
theorem d_X9_init_49 : decode prog_1_method_1_code 49 = .ok (.new 29, 3) := by decide +kernel
theorem d_X9_init_52 : decode prog_1_method_1_code 52 = .ok (.dup, 1) := by decide +kernel
theorem d_X9_init_53 : decode prog_1_method_1_code 53 = .ok (.invokespecial 31, 3) := by decide +kernel
theorem d_X9_init_56 : decode prog_1_method_1_code 56 = .ok (.putfield 32, 3) := by decide +kernel
theorem d_X9_init_59 : decode prog_1_method_1_code 59 = .ok (.aload_n 0, 1) := by decide +kernel
theorem d_X9_init_60 : decode prog_1_method_1_code 60 = .ok (.new 36, 3) := by decide +kernel
theorem d_X9_init_63 : decode prog_1_method_1_code 63 = .ok (.dup, 1) := by decide +kernel
theorem d_X9_init_64 : decode prog_1_method_1_code 64 = .ok (.aload_n 0, 1) := by decide +kernel
theorem d_X9_init_65 : decode prog_1_method_1_code 65 = .ok (.getfield 32, 3) := by decide +kernel
theorem d_X9_init_68 : decode prog_1_method_1_code 68 = .ok (.invokespecial 38, 3) := by decide +kernel
theorem d_X9_init_71 : decode prog_1_method_1_code 71 = .ok (.putfield 41, 3) := by decide +kernel
theorem d_X9_init_74 : decode prog_1_method_1_code 74 = .ok (.aload_n 0, 1) := by decide +kernel
theorem d_X9_init_75 : decode prog_1_method_1_code 75 = .ok (.new 45, 3) := by decide +kernel
theorem d_X9_init_78 : decode prog_1_method_1_code 78 = .ok (.dup, 1) := by decide +kernel
theorem d_X9_init_79 : decode prog_1_method_1_code 79 = .ok (.aload_n 0, 1) := by decide +kernel
theorem d_X9_init_80 : decode prog_1_method_1_code 80 = .ok (.getfield 32, 3) := by decide +kernel
theorem d_X9_init_83 : decode prog_1_method_1_code 83 = .ok (.invokespecial 47, 3) := by decide +kernel
theorem d_X9_init_86 : decode prog_1_method_1_code 86 = .ok (.putfield 48, 3) := by decide +kernel
theorem d_X9_init_89 : decode prog_1_method_1_code 89 = .ok (.aload_n 0, 1) := by decide +kernel
theorem d_X9_init_90 : decode prog_1_method_1_code 90 = .ok (.new 52, 3) := by decide +kernel
theorem d_X9_init_93 : decode prog_1_method_1_code 93 = .ok (.dup, 1) := by decide +kernel
theorem d_X9_init_94 : decode prog_1_method_1_code 94 = .ok (.aload_n 0, 1) := by decide +kernel
theorem d_X9_init_95 : decode prog_1_method_1_code 95 = .ok (.getfield 32, 3) := by decide +kernel
theorem d_X9_init_98 : decode prog_1_method_1_code 98 = .ok (.invokespecial 54, 3) := by decide +kernel
theorem d_X9_init_101 : decode prog_1_method_1_code 101 = .ok (.putfield 55, 3) := by decide +kernel
theorem d_X9_init_104 : decode prog_1_method_1_code 104 = .ok (.aload_n 0, 1) := by decide +kernel
theorem d_X9_init_105 : decode prog_1_method_1_code 105 = .ok (.bipush 6, 2) := by decide +kernel
theorem d_X9_init_107 : decode prog_1_method_1_code 107 = .ok (.newarray .int, 2) := by decide +kernel
theorem d_X9_init_109 : decode prog_1_method_1_code 109 = .ok (.putfield 59, 3) := by decide +kernel
theorem d_X9_init_112 : decode prog_1_method_1_code 112 = .ok (.aload_n 0, 1) := by decide +kernel
theorem d_X9_init_113 : decode prog_1_method_1_code 113 = .ok (.bipush 18, 2) := by decide +kernel
theorem d_X9_init_115 : decode prog_1_method_1_code 115 = .ok (.newarray .int, 2) := by decide +kernel
theorem d_X9_init_117 : decode prog_1_method_1_code 117 = .ok (.putfield 63, 3) := by decide +kernel
theorem d_X9_init_120 : decode prog_1_method_1_code 120 = .ok (.aload_n 0, 1) := by decide +kernel
theorem d_X9_init_121 : decode prog_1_method_1_code 121 = .ok (.iconst 4, 1) := by decide +kernel
theorem d_X9_init_122 : decode prog_1_method_1_code 122 = .ok (.anewarray 66, 3) := by decide +kernel
theorem d_X9_init_125 : decode prog_1_method_1_code 125 = .ok (.putfield 68, 3) := by decide +kernel
theorem d_X9_init_128 : decode prog_1_method_1_code 128 = .ok (.aload_n 0, 1) := by decide +kernel
theorem d_X9_init_129 : decode prog_1_method_1_code 129 = .ok (.iconst 4, 1) := by decide +kernel
theorem d_X9_init_130 : decode prog_1_method_1_code 130 = .ok (.anewarray 66, 3) := by decide +kernel
theorem d_X9_init_133 : decode prog_1_method_1_code 133 = .ok (.putfield 72, 3) := by decide +kernel
theorem d_X9_init_136 : decode prog_1_method_1_code 136 = .ok (.aload_n 0, 1) := by decide +kernel
theorem d_X9_init_137 : decode prog_1_method_1_code 137 = .ok (.iconst 4, 1) := by decide +kernel
theorem d_X9_init_138 : decode prog_1_method_1_code 138 = .ok (.newarray .int, 2) := by decide +kernel
theorem d_X9_init_140 : decode prog_1_method_1_code 140 = .ok (.putfield 75, 3) := by decide +kernel
theorem d_X9_init_143 : decode prog_1_method_1_code 143 = .ok (.aload_n 0, 1) := by decide +kernel
theorem d_X9_init_144 : decode prog_1_method_1_code 144 = .ok (.new 78, 3) := by decide +kernel
theorem d_X9_init_147 : decode prog_1_method_1_code 147 = .ok (.dup, 1) := by decide +kernel
theorem d_X9_init_148 : decode prog_1_method_1_code 148 = .ok (.invokespecial 80, 3) := by decide +kernel
theorem d_X9_init_151 : decode prog_1_method_1_code 151 = .ok (.putfield 81, 3) := by decide +kernel
theorem d_X9_init_154 : decode prog_1_method_1_code 154 = .ok (.aload_n 0, 1) := by decide +kernel
theorem d_X9_init_155 : decode prog_1_method_1_code 155 = .ok (.getfield 75, 3) := by decide +kernel
theorem d_X9_init_158 : decode prog_1_method_1_code 158 = .ok (.iconst (-1), 1) := by decide +kernel
theorem d_X9_init_159 : decode prog_1_method_1_code 159 = .ok (.invokestatic 85, 3) := by decide +kernel
theorem d_X9_init_162 : decode prog_1_method_1_code 162 = .ok (.return_, 1) := by decide +kernel
theorem d_X9_lens_0 : decode prog_1_method_2_code 0 = .ok (.iload_n 1, 1) := by decide +kernel
theorem d_X9_lens_1 : decode prog_1_method_2_code 1 = .ok (.invokestatic 91, 3) := by decide +kernel
theorem d_X9_lens_4 : decode prog_1_method_2_code 4 = .ok (.ifCond .eq 29, 3) := by decide +kernel
theorem d_X9_lens_7 : decode prog_1_method_2_code 7 = .ok (.iload_n 2, 1) := by decide +kernel
theorem d_X9_lens_8 : decode prog_1_method_2_code 8 = .ok (.invokestatic 95, 3) := by decide +kernel
theorem d_X9_lens_11 : decode prog_1_method_2_code 11 = .ok (.ifCond .eq 22, 3) := by decide +kernel
theorem d_X9_lens_14 : decode prog_1_method_2_code 14 = .ok (.iload_n 3, 1) := by decide +kernel
theorem d_X9_lens_15 : decode prog_1_method_2_code 15 = .ok (.invokestatic 95, 3) := by decide +kernel
theorem d_X9_lens_18 : decode prog_1_method_2_code 18 = .ok (.ifCond .eq 15, 3) := by decide +kernel
theorem d_X9_lens_21 : decode prog_1_method_2_code 21 = .ok (.iload 4, 2) := by decide +kernel
theorem d_X9_lens_23 : decode prog_1_method_2_code 23 = .ok (.iconst 1, 1) := by decide +kernel
theorem d_X9_lens_24 : decode prog_1_method_2_code 24 = .ok (.sipush 999, 3) := by decide +kernel
theorem d_X9_lens_27 : decode prog_1_method_2_code 27 = .ok (.invokestatic 98, 3) := by decide +kernel
theorem d_X9_lens_30 : decode prog_1_method_2_code 30 = .ok (.ifCond .ne 5, 3) := by decide +kernel
theorem d_X9_lens_33 : decode prog_1_method_2_code 33 = .ok (.iconst (-1), 1) := by decide +kernel
theorem d_X9_lens_34 : decode prog_1_method_2_code 34 = .ok (.ireturn, 1) := by decide +kernel
theorem d_X9_lens_35 : decode prog_1_method_2_code 35 = .ok (.aload_n 0, 1) := by decide +kernel
theorem d_X9_lens_36 : decode prog_1_method_2_code 36 = .ok (.getfield 12, 3) := by decide +kernel
theorem d_X9_lens_39 : decode prog_1_method_2_code 39 = .ok (.getfield 102, 3) := by decide +kernel
theorem d_X9_lens_42 : decode prog_1_method_2_code 42 = .ok (.bipush 9, 2) := by decide +kernel
theorem d_X9_lens_44 : decode prog_1_method_2_code 44 = .ok (.if_icmp .lt 6, 3) := by decide +kernel
theorem d_X9_lens_47 : decode prog_1_method_2_code 47 = .ok (.bipush (-2), 2) := by decide +kernel
theorem d_X9_lens_49 : decode prog_1_method_2_code 49 = .ok (.ireturn, 1) := by decide +kernel
theorem d_X9_lens_50 : decode prog_1_method_2_code 50 = .ok (.aload_n 0, 1) := by decide +kernel
theorem d_X9_lens_51 : decode prog_1_method_2_code 51 = .ok (.getfield 12, 3) := by decide +kernel
theorem d_X9_lens_54 : decode prog_1_method_2_code 54 = .ok (.getfield 102, 3) := by decide +kernel
theorem d_X9_lens_57 : decode prog_1_method_2_code 57 = .ok (.istore 5, 2) := by decide +kernel
theorem d_X9_lens_59 : decode prog_1_method_2_code 59 = .ok (.aload_n 0, 1) := by decide +kernel
theorem d_X9_lens_60 : decode prog_1_method_2_code 60 = .ok (.getfield 12, 3) := by decide +kernel
theorem d_X9_lens_63 : decode prog_1_method_2_code 63 = .ok (.getfield 106, 3) := by decide +kernel
theorem d_X9_lens_66 : decode prog_1_method_2_code 66 = .ok (.iload 5, 2) := by decide +kernel
theorem d_X9_lens_68 : decode prog_1_method_2_code 68 = .ok (.iload_n 1, 1) := by decide +kernel
theorem d_X9_lens_69 : decode prog_1_method_2_code 69 = .ok (.iastore, 1) := by decide +kernel
theorem d_X9_lens_70 : decode prog_1_method_2_code 70 = .ok (.aload_n 0, 1) := by decide +kernel
theorem d_X9_lens_71 : decode prog_1_method_2_code 71 = .ok (.getfield 12, 3) := by decide +kernel
theorem d_X9_lens_74 : decode prog_1_method_2_code 74 = .ok (.getfield 109, 3) := by decide +kernel
theorem d_X9_lens_77 : decode prog_1_method_2_code 77 = .ok (.iload 5, 2) := by decide +kernel
theorem d_X9_lens_79 : decode prog_1_method_2_code 79 = .ok (.iload_n 2, 1) := by decide +kernel
theorem d_X9_lens_80 : decode prog_1_method_2_code 80 = .ok (.iastore, 1) := by decide +kernel
theorem d_X9_lens_81 : decode prog_1_method_2_code 81 = .ok (.aload_n 0, 1) := by decide +kernel
theorem d_X9_lens_82 : decode prog_1_method_2_code 82 = .ok (.getfield 12, 3) := by decide +kernel
theorem d_X9_lens_85 : decode prog_1_method_2_code 85 = .ok (.getfield 112, 3) := by decide +kernel
theorem d_X9_lens_88 : decode prog_1_method_2_code 88 = .ok (.iload 5, 2) := by decide +kernel
theorem d_X9_lens_90 : decode prog_1_method_2_code 90 = .ok (.iload_n 3, 1) := by decide +kernel
theorem d_X9_lens_91 : decode prog_1_method_2_code 91 = .ok (.iastore, 1) := by decide +kernel
theorem d_X9_lens_92 : decode prog_1_method_2_code 92 = .ok (.aload_n 0, 1) := by decide +kernel
theorem d_X9_lens_93 : decode prog_1_method_2_code 93 = .ok (.getfield 12, 3) := by decide +kernel
theorem d_X9_lens_96 : decode prog_1_method_2_code 96 = .ok (.getfield 115, 3) := by decide +kernel
theorem d_X9_lens_99 : decode prog_1_method_2_code 99 = .ok (.iload 5, 2) := by decide +kernel
theorem d_X9_lens_101 : decode prog_1_method_2_code 101 = .ok (.iload 4, 2) := by decide +kernel
theorem d_X9_lens_103 : decode prog_1_method_2_code 103 = .ok (.iastore, 1) := by decide +kernel
theorem d_X9_lens_104 : decode prog_1_method_2_code 104 = .ok (.aload_n 0, 1) := by decide +kernel
theorem d_X9_lens_105 : decode prog_1_method_2_code 105 = .ok (.getfield 12, 3) := by decide +kernel
theorem d_X9_lens_108 : decode prog_1_method_2_code 108 = .ok (.dup, 1) := by decide +kernel
theorem d_X9_lens_109 : decode prog_1_method_2_code 109 = .ok (.getfield 102, 3) := by decide +kernel
theorem d_X9_lens_112 : decode prog_1_method_2_code 112 = .ok (.iconst 1, 1) := by decide +kernel
theorem d_X9_lens_113 : decode prog_1_method_2_code 113 = .ok (.iadd, 1) := by decide +kernel
theorem d_X9_lens_114 : decode prog_1_method_2_code 114 = .ok (.putfield 102, 3) := by decide +kernel
theorem d_X9_lens_117 : decode prog_1_method_2_code 117 = .ok (.iload 5, 2) := by decide +kernel
theorem d_X9_lens_119 : decode prog_1_method_2_code 119 = .ok (.ireturn, 1) := by decide +kernel
theorem d_X9_lensOf_0 : decode prog_1_method_3_code 0 = .ok (.aload_n 0, 1) := by decide +kernel
theorem d_X9_lensOf_1 : decode prog_1_method_3_code 1 = .ok (.getfield 12, 3) := by decide +kernel
theorem d_X9_lensOf_4 : decode prog_1_method_3_code 4 = .ok (.iload_n 1, 1) := by decide +kernel
theorem d_X9_lensOf_5 : decode prog_1_method_3_code 5 = .ok (.invokevirtual 118, 3) := by decide +kernel
theorem d_X9_lensOf_8 : decode prog_1_method_3_code 8 = .ok (.ifCond .ne 5, 3) := by decide +kernel
theorem d_X9_lensOf_11 : decode prog_1_method_3_code 11 = .ok (.iconst (-1), 1) := by decide +kernel
theorem d_X9_lensOf_12 : decode prog_1_method_3_code 12 = .ok (.ireturn, 1) := by decide +kernel
theorem d_X9_lensOf_13 : decode prog_1_method_3_code 13 = .ok (.iload_n 2, 1) := by decide +kernel
theorem d_X9_lensOf_14 : decode prog_1_method_3_code 14 = .ok (.tableswitch 108 0 5 #[38, 48, 58, 68, 78, 99], 38) := by decide +kernel
theorem d_X9_lensOf_52 : decode prog_1_method_3_code 52 = .ok (.aload_n 0, 1) := by decide +kernel
theorem d_X9_lensOf_53 : decode prog_1_method_3_code 53 = .ok (.getfield 12, 3) := by decide +kernel
theorem d_X9_lensOf_56 : decode prog_1_method_3_code 56 = .ok (.getfield 106, 3) := by decide +kernel
theorem d_X9_lensOf_59 : decode prog_1_method_3_code 59 = .ok (.iload_n 1, 1) := by decide +kernel
theorem d_X9_lensOf_60 : decode prog_1_method_3_code 60 = .ok (.iaload, 1) := by decide +kernel
theorem d_X9_lensOf_61 : decode prog_1_method_3_code 61 = .ok (.ireturn, 1) := by decide +kernel
theorem d_X9_lensOf_62 : decode prog_1_method_3_code 62 = .ok (.aload_n 0, 1) := by decide +kernel
theorem d_X9_lensOf_63 : decode prog_1_method_3_code 63 = .ok (.getfield 12, 3) := by decide +kernel
theorem d_X9_lensOf_66 : decode prog_1_method_3_code 66 = .ok (.getfield 109, 3) := by decide +kernel
theorem d_X9_lensOf_69 : decode prog_1_method_3_code 69 = .ok (.iload_n 1, 1) := by decide +kernel
theorem d_X9_lensOf_70 : decode prog_1_method_3_code 70 = .ok (.iaload, 1) := by decide +kernel
theorem d_X9_lensOf_71 : decode prog_1_method_3_code 71 = .ok (.ireturn, 1) := by decide +kernel
theorem d_X9_lensOf_72 : decode prog_1_method_3_code 72 = .ok (.aload_n 0, 1) := by decide +kernel
theorem d_X9_lensOf_73 : decode prog_1_method_3_code 73 = .ok (.getfield 12, 3) := by decide +kernel
theorem d_X9_lensOf_76 : decode prog_1_method_3_code 76 = .ok (.getfield 112, 3) := by decide +kernel
theorem d_X9_lensOf_79 : decode prog_1_method_3_code 79 = .ok (.iload_n 1, 1) := by decide +kernel
theorem d_X9_lensOf_80 : decode prog_1_method_3_code 80 = .ok (.iaload, 1) := by decide +kernel
theorem d_X9_lensOf_81 : decode prog_1_method_3_code 81 = .ok (.ireturn, 1) := by decide +kernel
theorem d_X9_lensOf_82 : decode prog_1_method_3_code 82 = .ok (.aload_n 0, 1) := by decide +kernel
theorem d_X9_lensOf_83 : decode prog_1_method_3_code 83 = .ok (.getfield 12, 3) := by decide +kernel
theorem d_X9_lensOf_86 : decode prog_1_method_3_code 86 = .ok (.getfield 115, 3) := by decide +kernel
theorem d_X9_lensOf_89 : decode prog_1_method_3_code 89 = .ok (.iload_n 1, 1) := by decide +kernel
theorem d_X9_lensOf_90 : decode prog_1_method_3_code 90 = .ok (.iaload, 1) := by decide +kernel
theorem d_X9_lensOf_91 : decode prog_1_method_3_code 91 = .ok (.ireturn, 1) := by decide +kernel
theorem d_X9_lensOf_92 : decode prog_1_method_3_code 92 = .ok (.aload_n 0, 1) := by decide +kernel
theorem d_X9_lensOf_93 : decode prog_1_method_3_code 93 = .ok (.getfield 32, 3) := by decide +kernel
theorem d_X9_lensOf_96 : decode prog_1_method_3_code 96 = .ok (.aload_n 0, 1) := by decide +kernel
theorem d_X9_lensOf_97 : decode prog_1_method_3_code 97 = .ok (.getfield 12, 3) := by decide +kernel
theorem d_X9_lensOf_100 : decode prog_1_method_3_code 100 = .ok (.invokevirtual 121, 3) := by decide +kernel
theorem d_X9_lensOf_103 : decode prog_1_method_3_code 103 = .ok (.aload_n 0, 1) := by decide +kernel
theorem d_X9_lensOf_104 : decode prog_1_method_3_code 104 = .ok (.getfield 32, 3) := by decide +kernel
theorem d_X9_lensOf_107 : decode prog_1_method_3_code 107 = .ok (.getfield 125, 3) := by decide +kernel
theorem d_X9_lensOf_110 : decode prog_1_method_3_code 110 = .ok (.iload_n 1, 1) := by decide +kernel
theorem d_X9_lensOf_111 : decode prog_1_method_3_code 111 = .ok (.iaload, 1) := by decide +kernel
theorem d_X9_lensOf_112 : decode prog_1_method_3_code 112 = .ok (.ireturn, 1) := by decide +kernel
theorem d_X9_lensOf_113 : decode prog_1_method_3_code 113 = .ok (.aload_n 0, 1) := by decide +kernel
theorem d_X9_lensOf_114 : decode prog_1_method_3_code 114 = .ok (.getfield 12, 3) := by decide +kernel
theorem d_X9_lensOf_117 : decode prog_1_method_3_code 117 = .ok (.iload_n 1, 1) := by decide +kernel
theorem d_X9_lensOf_118 : decode prog_1_method_3_code 118 = .ok (.invokevirtual 128, 3) := by decide +kernel
theorem d_X9_lensOf_121 : decode prog_1_method_3_code 121 = .ok (.ireturn, 1) := by decide +kernel
theorem d_X9_lensOf_122 : decode prog_1_method_3_code 122 = .ok (.iconst (-1), 1) := by decide +kernel
theorem d_X9_lensOf_123 : decode prog_1_method_3_code 123 = .ok (.ireturn, 1) := by decide +kernel
theorem d_X9_grind_0 : decode prog_1_method_4_code 0 = .ok (.aload_n 0, 1) := by decide +kernel
theorem d_X9_grind_1 : decode prog_1_method_4_code 1 = .ok (.getfield 12, 3) := by decide +kernel
theorem d_X9_grind_4 : decode prog_1_method_4_code 4 = .ok (.iload_n 1, 1) := by decide +kernel
theorem d_X9_grind_5 : decode prog_1_method_4_code 5 = .ok (.invokevirtual 118, 3) := by decide +kernel
theorem d_X9_grind_8 : decode prog_1_method_4_code 8 = .ok (.ifCond .ne 5, 3) := by decide +kernel
theorem d_X9_grind_11 : decode prog_1_method_4_code 11 = .ok (.iconst (-1), 1) := by decide +kernel
theorem d_X9_grind_12 : decode prog_1_method_4_code 12 = .ok (.ireturn, 1) := by decide +kernel
theorem d_X9_grind_13 : decode prog_1_method_4_code 13 = .ok (.iload_n 2, 1) := by decide +kernel
theorem d_X9_grind_14 : decode prog_1_method_4_code 14 = .ok (.tableswitch 102 1 3 #[26, 50, 74], 26) := by decide +kernel
theorem d_X9_grind_40 : decode prog_1_method_4_code 40 = .ok (.iload_n 3, 1) := by decide +kernel
theorem d_X9_grind_41 : decode prog_1_method_4_code 41 = .ok (.invokestatic 95, 3) := by decide +kernel
theorem d_X9_grind_44 : decode prog_1_method_4_code 44 = .ok (.ifCond .eq 18, 3) := by decide +kernel
theorem d_X9_grind_47 : decode prog_1_method_4_code 47 = .ok (.aload_n 0, 1) := by decide +kernel
theorem d_X9_grind_48 : decode prog_1_method_4_code 48 = .ok (.getfield 12, 3) := by decide +kernel
theorem d_X9_grind_51 : decode prog_1_method_4_code 51 = .ok (.getfield 109, 3) := by decide +kernel
theorem d_X9_grind_54 : decode prog_1_method_4_code 54 = .ok (.iload_n 1, 1) := by decide +kernel
theorem d_X9_grind_55 : decode prog_1_method_4_code 55 = .ok (.iload_n 3, 1) := by decide +kernel
theorem d_X9_grind_56 : decode prog_1_method_4_code 56 = .ok (.invokestatic 132, 3) := by decide +kernel
theorem d_X9_grind_59 : decode prog_1_method_4_code 59 = .ok (.goto 4, 3) := by decide +kernel
theorem d_X9_grind_62 : decode prog_1_method_4_code 62 = .ok (.iconst (-1), 1) := by decide +kernel
theorem d_X9_grind_63 : decode prog_1_method_4_code 63 = .ok (.ireturn, 1) := by decide +kernel
theorem d_X9_grind_64 : decode prog_1_method_4_code 64 = .ok (.iload_n 3, 1) := by decide +kernel
theorem d_X9_grind_65 : decode prog_1_method_4_code 65 = .ok (.invokestatic 95, 3) := by decide +kernel
theorem d_X9_grind_68 : decode prog_1_method_4_code 68 = .ok (.ifCond .eq 18, 3) := by decide +kernel
theorem d_X9_grind_71 : decode prog_1_method_4_code 71 = .ok (.aload_n 0, 1) := by decide +kernel
theorem d_X9_grind_72 : decode prog_1_method_4_code 72 = .ok (.getfield 12, 3) := by decide +kernel
theorem d_X9_grind_75 : decode prog_1_method_4_code 75 = .ok (.getfield 112, 3) := by decide +kernel
theorem d_X9_grind_78 : decode prog_1_method_4_code 78 = .ok (.iload_n 1, 1) := by decide +kernel
theorem d_X9_grind_79 : decode prog_1_method_4_code 79 = .ok (.iload_n 3, 1) := by decide +kernel
theorem d_X9_grind_80 : decode prog_1_method_4_code 80 = .ok (.invokestatic 132, 3) := by decide +kernel
theorem d_X9_grind_83 : decode prog_1_method_4_code 83 = .ok (.goto 4, 3) := by decide +kernel
theorem d_X9_grind_86 : decode prog_1_method_4_code 86 = .ok (.iconst (-1), 1) := by decide +kernel
theorem d_X9_grind_87 : decode prog_1_method_4_code 87 = .ok (.ireturn, 1) := by decide +kernel
theorem d_X9_grind_88 : decode prog_1_method_4_code 88 = .ok (.iload_n 3, 1) := by decide +kernel
theorem d_X9_grind_89 : decode prog_1_method_4_code 89 = .ok (.iconst 1, 1) := by decide +kernel
theorem d_X9_grind_90 : decode prog_1_method_4_code 90 = .ok (.sipush 999, 3) := by decide +kernel
theorem d_X9_grind_93 : decode prog_1_method_4_code 93 = .ok (.invokestatic 98, 3) := by decide +kernel
theorem d_X9_grind_96 : decode prog_1_method_4_code 96 = .ok (.ifCond .eq 18, 3) := by decide +kernel
theorem d_X9_grind_99 : decode prog_1_method_4_code 99 = .ok (.aload_n 0, 1) := by decide +kernel
theorem d_X9_grind_100 : decode prog_1_method_4_code 100 = .ok (.getfield 12, 3) := by decide +kernel
theorem d_X9_grind_103 : decode prog_1_method_4_code 103 = .ok (.getfield 115, 3) := by decide +kernel
theorem d_X9_grind_106 : decode prog_1_method_4_code 106 = .ok (.iload_n 1, 1) := by decide +kernel
theorem d_X9_grind_107 : decode prog_1_method_4_code 107 = .ok (.iload_n 3, 1) := by decide +kernel
theorem d_X9_grind_108 : decode prog_1_method_4_code 108 = .ok (.invokestatic 132, 3) := by decide +kernel
theorem d_X9_grind_111 : decode prog_1_method_4_code 111 = .ok (.goto 4, 3) := by decide +kernel
theorem d_X9_grind_114 : decode prog_1_method_4_code 114 = .ok (.iconst (-1), 1) := by decide +kernel
theorem d_X9_grind_115 : decode prog_1_method_4_code 115 = .ok (.ireturn, 1) := by decide +kernel
theorem d_X9_grind_116 : decode prog_1_method_4_code 116 = .ok (.iconst (-1), 1) := by decide +kernel
theorem d_X9_grind_117 : decode prog_1_method_4_code 117 = .ok (.ireturn, 1) := by decide +kernel
theorem d_X9_remake_0 : decode prog_1_method_5_code 0 = .ok (.aload_n 0, 1) := by decide +kernel
theorem d_X9_remake_1 : decode prog_1_method_5_code 1 = .ok (.getfield 12, 3) := by decide +kernel
theorem d_X9_remake_4 : decode prog_1_method_5_code 4 = .ok (.iload_n 1, 1) := by decide +kernel
theorem d_X9_remake_5 : decode prog_1_method_5_code 5 = .ok (.invokevirtual 118, 3) := by decide +kernel
theorem d_X9_remake_8 : decode prog_1_method_5_code 8 = .ok (.ifCond .eq 10, 3) := by decide +kernel
theorem d_X9_remake_11 : decode prog_1_method_5_code 11 = .ok (.iload_n 2, 1) := by decide +kernel
theorem d_X9_remake_12 : decode prog_1_method_5_code 12 = .ok (.invokestatic 91, 3) := by decide +kernel
theorem d_X9_remake_15 : decode prog_1_method_5_code 15 = .ok (.ifCond .ne 5, 3) := by decide +kernel
theorem d_X9_remake_18 : decode prog_1_method_5_code 18 = .ok (.iconst (-1), 1) := by decide +kernel
theorem d_X9_remake_19 : decode prog_1_method_5_code 19 = .ok (.ireturn, 1) := by decide +kernel
theorem d_X9_remake_20 : decode prog_1_method_5_code 20 = .ok (.aload_n 0, 1) := by decide +kernel
theorem d_X9_remake_21 : decode prog_1_method_5_code 21 = .ok (.getfield 12, 3) := by decide +kernel
theorem d_X9_remake_24 : decode prog_1_method_5_code 24 = .ok (.getfield 106, 3) := by decide +kernel
theorem d_X9_remake_27 : decode prog_1_method_5_code 27 = .ok (.iload_n 1, 1) := by decide +kernel
theorem d_X9_remake_28 : decode prog_1_method_5_code 28 = .ok (.iaload, 1) := by decide +kernel
theorem d_X9_remake_29 : decode prog_1_method_5_code 29 = .ok (.istore_n 3, 1) := by decide +kernel
theorem d_X9_remake_30 : decode prog_1_method_5_code 30 = .ok (.aload_n 0, 1) := by decide +kernel
theorem d_X9_remake_31 : decode prog_1_method_5_code 31 = .ok (.getfield 12, 3) := by decide +kernel
theorem d_X9_remake_34 : decode prog_1_method_5_code 34 = .ok (.getfield 106, 3) := by decide +kernel
theorem d_X9_remake_37 : decode prog_1_method_5_code 37 = .ok (.iload_n 1, 1) := by decide +kernel
theorem d_X9_remake_38 : decode prog_1_method_5_code 38 = .ok (.iload_n 2, 1) := by decide +kernel
theorem d_X9_remake_39 : decode prog_1_method_5_code 39 = .ok (.iastore, 1) := by decide +kernel
theorem d_X9_remake_40 : decode prog_1_method_5_code 40 = .ok (.iload_n 3, 1) := by decide +kernel
theorem d_X9_remake_41 : decode prog_1_method_5_code 41 = .ok (.ireturn, 1) := by decide +kernel
theorem d_X9_setting_0 : decode prog_1_method_6_code 0 = .ok (.iload_n 1, 1) := by decide +kernel
theorem d_X9_setting_1 : decode prog_1_method_6_code 1 = .ok (.iconst 0, 1) := by decide +kernel
theorem d_X9_setting_2 : decode prog_1_method_6_code 2 = .ok (.iconst 3, 1) := by decide +kernel
theorem d_X9_setting_3 : decode prog_1_method_6_code 3 = .ok (.invokestatic 98, 3) := by decide +kernel
theorem d_X9_setting_6 : decode prog_1_method_6_code 6 = .ok (.ifCond .eq 15, 3) := by decide +kernel
theorem d_X9_setting_9 : decode prog_1_method_6_code 9 = .ok (.aload_n 0, 1) := by decide +kernel
theorem d_X9_setting_10 : decode prog_1_method_6_code 10 = .ok (.getfield 12, 3) := by decide +kernel
theorem d_X9_setting_13 : decode prog_1_method_6_code 13 = .ok (.getfield 136, 3) := by decide +kernel
theorem d_X9_setting_16 : decode prog_1_method_6_code 16 = .ok (.iload_n 1, 1) := by decide +kernel
theorem d_X9_setting_17 : decode prog_1_method_6_code 17 = .ok (.iaload, 1) := by decide +kernel
theorem d_X9_setting_18 : decode prog_1_method_6_code 18 = .ok (.goto 4, 3) := by decide +kernel
theorem d_X9_setting_21 : decode prog_1_method_6_code 21 = .ok (.iconst (-1), 1) := by decide +kernel
theorem d_X9_setting_22 : decode prog_1_method_6_code 22 = .ok (.ireturn, 1) := by decide +kernel
theorem d_X9_let_0 : decode prog_1_method_7_code 0 = .ok (.iload_n 1, 1) := by decide +kernel
theorem d_X9_let_1 : decode prog_1_method_7_code 1 = .ok (.iconst 0, 1) := by decide +kernel
theorem d_X9_let_2 : decode prog_1_method_7_code 2 = .ok (.iconst 3, 1) := by decide +kernel
theorem d_X9_let_3 : decode prog_1_method_7_code 3 = .ok (.invokestatic 98, 3) := by decide +kernel
theorem d_X9_let_6 : decode prog_1_method_7_code 6 = .ok (.ifCond .ne 5, 3) := by decide +kernel
theorem d_X9_let_9 : decode prog_1_method_7_code 9 = .ok (.iconst (-1), 1) := by decide +kernel
theorem d_X9_let_10 : decode prog_1_method_7_code 10 = .ok (.ireturn, 1) := by decide +kernel
theorem d_X9_let_11 : decode prog_1_method_7_code 11 = .ok (.iload_n 2, 1) := by decide +kernel
theorem d_X9_let_12 : decode prog_1_method_7_code 12 = .ok (.getstatic 139, 3) := by decide +kernel
theorem d_X9_let_15 : decode prog_1_method_7_code 15 = .ok (.iload_n 1, 1) := by decide +kernel
theorem d_X9_let_16 : decode prog_1_method_7_code 16 = .ok (.iaload, 1) := by decide +kernel
theorem d_X9_let_17 : decode prog_1_method_7_code 17 = .ok (.getstatic 142, 3) := by decide +kernel
theorem d_X9_let_20 : decode prog_1_method_7_code 20 = .ok (.iload_n 1, 1) := by decide +kernel
theorem d_X9_let_21 : decode prog_1_method_7_code 21 = .ok (.iaload, 1) := by decide +kernel
theorem d_X9_let_22 : decode prog_1_method_7_code 22 = .ok (.invokestatic 98, 3) := by decide +kernel
theorem d_X9_let_25 : decode prog_1_method_7_code 25 = .ok (.ifCond .ne 5, 3) := by decide +kernel
theorem d_X9_let_28 : decode prog_1_method_7_code 28 = .ok (.iconst (-1), 1) := by decide +kernel
theorem d_X9_let_29 : decode prog_1_method_7_code 29 = .ok (.ireturn, 1) := by decide +kernel
theorem d_X9_let_30 : decode prog_1_method_7_code 30 = .ok (.aload_n 0, 1) := by decide +kernel
theorem d_X9_let_31 : decode prog_1_method_7_code 31 = .ok (.getfield 12, 3) := by decide +kernel
theorem d_X9_let_34 : decode prog_1_method_7_code 34 = .ok (.getfield 136, 3) := by decide +kernel
theorem d_X9_let_37 : decode prog_1_method_7_code 37 = .ok (.iload_n 1, 1) := by decide +kernel
theorem d_X9_let_38 : decode prog_1_method_7_code 38 = .ok (.iload_n 2, 1) := by decide +kernel
theorem d_X9_let_39 : decode prog_1_method_7_code 39 = .ok (.invokestatic 132, 3) := by decide +kernel
theorem d_X9_let_42 : decode prog_1_method_7_code 42 = .ok (.ireturn, 1) := by decide +kernel
theorem d_X9_feed_0 : decode prog_1_method_8_code 0 = .ok (.iload_n 3, 1) := by decide +kernel
theorem d_X9_feed_1 : decode prog_1_method_8_code 1 = .ok (.iconst 1, 1) := by decide +kernel
theorem d_X9_feed_2 : decode prog_1_method_8_code 2 = .ok (.bipush 8, 2) := by decide +kernel
theorem d_X9_feed_4 : decode prog_1_method_8_code 4 = .ok (.invokestatic 98, 3) := by decide +kernel
theorem d_X9_feed_7 : decode prog_1_method_8_code 7 = .ok (.ifCond .ne 5, 3) := by decide +kernel
theorem d_X9_feed_10 : decode prog_1_method_8_code 10 = .ok (.iconst (-1), 1) := by decide +kernel
theorem d_X9_feed_11 : decode prog_1_method_8_code 11 = .ok (.ireturn, 1) := by decide +kernel
theorem d_X9_feed_12 : decode prog_1_method_8_code 12 = .ok (.aload_n 0, 1) := by decide +kernel
theorem d_X9_feed_13 : decode prog_1_method_8_code 13 = .ok (.getfield 25, 3) := by decide +kernel
theorem d_X9_feed_16 : decode prog_1_method_8_code 16 = .ok (.getfield 145, 3) := by decide +kernel
theorem d_X9_feed_19 : decode prog_1_method_8_code 19 = .ok (.iload_n 3, 1) := by decide +kernel
theorem d_X9_feed_20 : decode prog_1_method_8_code 20 = .ok (.iadd, 1) := by decide +kernel
theorem d_X9_feed_21 : decode prog_1_method_8_code 21 = .ok (.sipush 200, 3) := by decide +kernel
theorem d_X9_feed_24 : decode prog_1_method_8_code 24 = .ok (.if_icmp .le 6, 3) := by decide +kernel
theorem d_X9_feed_27 : decode prog_1_method_8_code 27 = .ok (.bipush (-2), 2) := by decide +kernel
theorem d_X9_feed_29 : decode prog_1_method_8_code 29 = .ok (.ireturn, 1) := by decide +kernel
theorem d_X9_feed_30 : decode prog_1_method_8_code 30 = .ok (.iconst 0, 1) := by decide +kernel
theorem d_X9_feed_31 : decode prog_1_method_8_code 31 = .ok (.istore 4, 2) := by decide +kernel
theorem d_X9_feed_33 : decode prog_1_method_8_code 33 = .ok (.iload 4, 2) := by decide +kernel
theorem d_X9_feed_35 : decode prog_1_method_8_code 35 = .ok (.iload_n 3, 1) := by decide +kernel
theorem d_X9_feed_36 : decode prog_1_method_8_code 36 = .ok (.if_icmp .ge 28, 3) := by decide +kernel
theorem d_X9_feed_39 : decode prog_1_method_8_code 39 = .ok (.aload_n 0, 1) := by decide +kernel
theorem d_X9_feed_40 : decode prog_1_method_8_code 40 = .ok (.getfield 25, 3) := by decide +kernel
theorem d_X9_feed_43 : decode prog_1_method_8_code 43 = .ok (.lload_n 1, 1) := by decide +kernel
theorem d_X9_feed_44 : decode prog_1_method_8_code 44 = .ok (.bipush 8, 2) := by decide +kernel
theorem d_X9_feed_46 : decode prog_1_method_8_code 46 = .ok (.iload 4, 2) := by decide +kernel
theorem d_X9_feed_48 : decode prog_1_method_8_code 48 = .ok (.imul, 1) := by decide +kernel
theorem d_X9_feed_49 : decode prog_1_method_8_code 49 = .ok (.lushr, 1) := by decide +kernel
theorem d_X9_feed_50 : decode prog_1_method_8_code 50 = .ok (.l2i, 1) := by decide +kernel
theorem d_X9_feed_51 : decode prog_1_method_8_code 51 = .ok (.sipush 255, 3) := by decide +kernel
theorem d_X9_feed_54 : decode prog_1_method_8_code 54 = .ok (.iand, 1) := by decide +kernel
theorem d_X9_feed_55 : decode prog_1_method_8_code 55 = .ok (.invokevirtual 148, 3) := by decide +kernel
theorem d_X9_feed_58 : decode prog_1_method_8_code 58 = .ok (.iinc 4 1, 3) := by decide +kernel
theorem d_X9_feed_61 : decode prog_1_method_8_code 61 = .ok (.goto (-28), 3) := by decide +kernel
theorem d_X9_feed_64 : decode prog_1_method_8_code 64 = .ok (.aload_n 0, 1) := by decide +kernel
theorem d_X9_feed_65 : decode prog_1_method_8_code 65 = .ok (.getfield 25, 3) := by decide +kernel
theorem d_X9_feed_68 : decode prog_1_method_8_code 68 = .ok (.getfield 145, 3) := by decide +kernel
theorem d_X9_feed_71 : decode prog_1_method_8_code 71 = .ok (.ireturn, 1) := by decide +kernel
theorem d_X9_rules_0 : decode prog_1_method_9_code 0 = .ok (.aload_n 0, 1) := by decide +kernel
theorem d_X9_rules_1 : decode prog_1_method_9_code 1 = .ok (.getfield 25, 3) := by decide +kernel
theorem d_X9_rules_4 : decode prog_1_method_9_code 4 = .ok (.invokevirtual 152, 3) := by decide +kernel
theorem d_X9_rules_7 : decode prog_1_method_9_code 7 = .ok (.astore_n 1, 1) := by decide +kernel
theorem d_X9_rules_8 : decode prog_1_method_9_code 8 = .ok (.aload_n 0, 1) := by decide +kernel
theorem d_X9_rules_9 : decode prog_1_method_9_code 9 = .ok (.getfield 25, 3) := by decide +kernel
theorem d_X9_rules_12 : decode prog_1_method_9_code 12 = .ok (.iconst 0, 1) := by decide +kernel
theorem d_X9_rules_13 : decode prog_1_method_9_code 13 = .ok (.putfield 145, 3) := by decide +kernel
theorem d_X9_rules_16 : decode prog_1_method_9_code 16 = .ok (.aload_n 1, 1) := by decide +kernel
theorem d_X9_rules_17 : decode prog_1_method_9_code 17 = .ok (.ifnonnull 14, 3) := by decide +kernel
theorem d_X9_rules_20 : decode prog_1_method_9_code 20 = .ok (.bipush (-100), 2) := by decide +kernel
theorem d_X9_rules_22 : decode prog_1_method_9_code 22 = .ok (.aload_n 0, 1) := by decide +kernel
theorem d_X9_rules_23 : decode prog_1_method_9_code 23 = .ok (.getfield 25, 3) := by decide +kernel
theorem d_X9_rules_26 : decode prog_1_method_9_code 26 = .ok (.getfield 156, 3) := by decide +kernel
theorem d_X9_rules_29 : decode prog_1_method_9_code 29 = .ok (.isub, 1) := by decide +kernel
theorem d_X9_rules_30 : decode prog_1_method_9_code 30 = .ok (.ireturn, 1) := by decide +kernel
theorem d_X9_rules_31 : decode prog_1_method_9_code 31 = .ok (.aload_n 0, 1) := by decide +kernel
theorem d_X9_rules_32 : decode prog_1_method_9_code 32 = .ok (.getfield 12, 3) := by decide +kernel
theorem d_X9_rules_35 : decode prog_1_method_9_code 35 = .ok (.aload_n 1, 1) := by decide +kernel
theorem d_X9_rules_36 : decode prog_1_method_9_code 36 = .ok (.putfield 159, 3) := by decide +kernel
theorem d_X9_rules_39 : decode prog_1_method_9_code 39 = .ok (.aload_n 1, 1) := by decide +kernel
theorem d_X9_rules_40 : decode prog_1_method_9_code 40 = .ok (.getfield 163, 3) := by decide +kernel
theorem d_X9_rules_43 : decode prog_1_method_9_code 43 = .ok (.ireturn, 1) := by decide +kernel
theorem d_X9_seen_0 : decode prog_1_method_10_code 0 = .ok (.iload_n 1, 1) := by decide +kernel
theorem d_X9_seen_1 : decode prog_1_method_10_code 1 = .ok (.invokestatic 95, 3) := by decide +kernel
theorem d_X9_seen_4 : decode prog_1_method_10_code 4 = .ok (.ifCond .ne 5, 3) := by decide +kernel
theorem d_X9_seen_7 : decode prog_1_method_10_code 7 = .ok (.iconst (-1), 1) := by decide +kernel
theorem d_X9_seen_8 : decode prog_1_method_10_code 8 = .ok (.ireturn, 1) := by decide +kernel
theorem d_X9_seen_9 : decode prog_1_method_10_code 9 = .ok (.aload_n 0, 1) := by decide +kernel
theorem d_X9_seen_10 : decode prog_1_method_10_code 10 = .ok (.invokevirtual 168, 3) := by decide +kernel
theorem d_X9_seen_13 : decode prog_1_method_10_code 13 = .ok (.aload_n 0, 1) := by decide +kernel
theorem d_X9_seen_14 : decode prog_1_method_10_code 14 = .ok (.getfield 32, 3) := by decide +kernel
theorem d_X9_seen_17 : decode prog_1_method_10_code 17 = .ok (.iload_n 1, 1) := by decide +kernel
theorem d_X9_seen_18 : decode prog_1_method_10_code 18 = .ok (.invokevirtual 171, 3) := by decide +kernel
theorem d_X9_seen_21 : decode prog_1_method_10_code 21 = .ok (.ireturn, 1) := by decide +kernel
theorem d_X9_shift_0 : decode prog_1_method_11_code 0 = .ok (.aload_n 0, 1) := by decide +kernel
theorem d_X9_shift_1 : decode prog_1_method_11_code 1 = .ok (.invokevirtual 168, 3) := by decide +kernel
theorem d_X9_shift_4 : decode prog_1_method_11_code 4 = .ok (.aload_n 0, 1) := by decide +kernel
theorem d_X9_shift_5 : decode prog_1_method_11_code 5 = .ok (.getfield 32, 3) := by decide +kernel
theorem d_X9_shift_8 : decode prog_1_method_11_code 8 = .ok (.invokevirtual 174, 3) := by decide +kernel
theorem d_X9_shift_11 : decode prog_1_method_11_code 11 = .ok (.ireturn, 1) := by decide +kernel
theorem d_X9_blur_0 : decode prog_1_method_12_code 0 = .ok (.aload_n 0, 1) := by decide +kernel
theorem d_X9_blur_1 : decode prog_1_method_12_code 1 = .ok (.invokevirtual 168, 3) := by decide +kernel
theorem d_X9_blur_4 : decode prog_1_method_12_code 4 = .ok (.aload_n 0, 1) := by decide +kernel
theorem d_X9_blur_5 : decode prog_1_method_12_code 5 = .ok (.getfield 32, 3) := by decide +kernel
theorem d_X9_blur_8 : decode prog_1_method_12_code 8 = .ok (.invokevirtual 178, 3) := by decide +kernel
theorem d_X9_blur_11 : decode prog_1_method_12_code 11 = .ok (.ireturn, 1) := by decide +kernel
theorem d_X9_wrong_0 : decode prog_1_method_13_code 0 = .ok (.aload_n 0, 1) := by decide +kernel
theorem d_X9_wrong_1 : decode prog_1_method_13_code 1 = .ok (.invokevirtual 168, 3) := by decide +kernel
theorem d_X9_wrong_4 : decode prog_1_method_13_code 4 = .ok (.aload_n 0, 1) := by decide +kernel
theorem d_X9_wrong_5 : decode prog_1_method_13_code 5 = .ok (.getfield 32, 3) := by decide +kernel
theorem d_X9_wrong_8 : decode prog_1_method_13_code 8 = .ok (.invokevirtual 181, 3) := by decide +kernel
theorem d_X9_wrong_11 : decode prog_1_method_13_code 11 = .ok (.ireturn, 1) := by decide +kernel
theorem d_X9_mended_0 : decode prog_1_method_14_code 0 = .ok (.aload_n 0, 1) := by decide +kernel
theorem d_X9_mended_1 : decode prog_1_method_14_code 1 = .ok (.invokevirtual 168, 3) := by decide +kernel
theorem d_X9_mended_4 : decode prog_1_method_14_code 4 = .ok (.aload_n 0, 1) := by decide +kernel
theorem d_X9_mended_5 : decode prog_1_method_14_code 5 = .ok (.getfield 32, 3) := by decide +kernel
theorem d_X9_mended_8 : decode prog_1_method_14_code 8 = .ok (.invokevirtual 184, 3) := by decide +kernel
theorem d_X9_mended_11 : decode prog_1_method_14_code 11 = .ok (.ifCond .eq 7, 3) := by decide +kernel
theorem d_X9_mended_14 : decode prog_1_method_14_code 14 = .ok (.iconst 1, 1) := by decide +kernel
theorem d_X9_mended_15 : decode prog_1_method_14_code 15 = .ok (.goto 4, 3) := by decide +kernel
theorem d_X9_mended_18 : decode prog_1_method_14_code 18 = .ok (.iconst 0, 1) := by decide +kernel
theorem d_X9_mended_19 : decode prog_1_method_14_code 19 = .ok (.ireturn, 1) := by decide +kernel
theorem d_X9_fit_0 : decode prog_1_method_15_code 0 = .ok (.aload_n 0, 1) := by decide +kernel
theorem d_X9_fit_1 : decode prog_1_method_15_code 1 = .ok (.getfield 12, 3) := by decide +kernel
theorem d_X9_fit_4 : decode prog_1_method_15_code 4 = .ok (.iload_n 1, 1) := by decide +kernel
theorem d_X9_fit_5 : decode prog_1_method_15_code 5 = .ok (.invokevirtual 118, 3) := by decide +kernel
theorem d_X9_fit_8 : decode prog_1_method_15_code 8 = .ok (.ifCond .eq 10, 3) := by decide +kernel
theorem d_X9_fit_11 : decode prog_1_method_15_code 11 = .ok (.iload_n 2, 1) := by decide +kernel
theorem d_X9_fit_12 : decode prog_1_method_15_code 12 = .ok (.invokestatic 188, 3) := by decide +kernel
theorem d_X9_fit_15 : decode prog_1_method_15_code 15 = .ok (.ifCond .ne 5, 3) := by decide +kernel
theorem d_X9_fit_18 : decode prog_1_method_15_code 18 = .ok (.iconst (-1), 1) := by decide +kernel
theorem d_X9_fit_19 : decode prog_1_method_15_code 19 = .ok (.ireturn, 1) := by decide +kernel
theorem d_X9_fit_20 : decode prog_1_method_15_code 20 = .ok (.aload_n 0, 1) := by decide +kernel
theorem d_X9_fit_21 : decode prog_1_method_15_code 21 = .ok (.getfield 12, 3) := by decide +kernel
theorem d_X9_fit_24 : decode prog_1_method_15_code 24 = .ok (.getfield 191, 3) := by decide +kernel
theorem d_X9_fit_27 : decode prog_1_method_15_code 27 = .ok (.iconst 4, 1) := by decide +kernel
theorem d_X9_fit_28 : decode prog_1_method_15_code 28 = .ok (.if_icmp .lt 6, 3) := by decide +kernel
theorem d_X9_fit_31 : decode prog_1_method_15_code 31 = .ok (.bipush (-2), 2) := by decide +kernel
theorem d_X9_fit_33 : decode prog_1_method_15_code 33 = .ok (.ireturn, 1) := by decide +kernel
theorem d_X9_fit_34 : decode prog_1_method_15_code 34 = .ok (.aload_n 0, 1) := by decide +kernel
theorem d_X9_fit_35 : decode prog_1_method_15_code 35 = .ok (.getfield 12, 3) := by decide +kernel
theorem d_X9_fit_38 : decode prog_1_method_15_code 38 = .ok (.iload_n 1, 1) := by decide +kernel
theorem d_X9_fit_39 : decode prog_1_method_15_code 39 = .ok (.invokevirtual 128, 3) := by decide +kernel
theorem d_X9_fit_42 : decode prog_1_method_15_code 42 = .ok (.bipush (-9), 2) := by decide +kernel
theorem d_X9_fit_44 : decode prog_1_method_15_code 44 = .ok (.if_icmp .eq 6, 3) := by decide +kernel
theorem d_X9_fit_47 : decode prog_1_method_15_code 47 = .ok (.bipush (-4), 2) := by decide +kernel
theorem d_X9_fit_49 : decode prog_1_method_15_code 49 = .ok (.ireturn, 1) := by decide +kernel
theorem d_X9_fit_50 : decode prog_1_method_15_code 50 = .ok (.aload_n 0, 1) := by decide +kernel
theorem d_X9_fit_51 : decode prog_1_method_15_code 51 = .ok (.getfield 12, 3) := by decide +kernel
theorem d_X9_fit_54 : decode prog_1_method_15_code 54 = .ok (.getfield 191, 3) := by decide +kernel
theorem d_X9_fit_57 : decode prog_1_method_15_code 57 = .ok (.istore_n 3, 1) := by decide +kernel
theorem d_X9_fit_58 : decode prog_1_method_15_code 58 = .ok (.aload_n 0, 1) := by decide +kernel
theorem d_X9_fit_59 : decode prog_1_method_15_code 59 = .ok (.getfield 12, 3) := by decide +kernel
theorem d_X9_fit_62 : decode prog_1_method_15_code 62 = .ok (.getfield 194, 3) := by decide +kernel
theorem d_X9_fit_65 : decode prog_1_method_15_code 65 = .ok (.iload_n 3, 1) := by decide +kernel
theorem d_X9_fit_66 : decode prog_1_method_15_code 66 = .ok (.iload_n 1, 1) := by decide +kernel
theorem d_X9_fit_67 : decode prog_1_method_15_code 67 = .ok (.iastore, 1) := by decide +kernel
theorem d_X9_fit_68 : decode prog_1_method_15_code 68 = .ok (.aload_n 0, 1) := by decide +kernel
theorem d_X9_fit_69 : decode prog_1_method_15_code 69 = .ok (.getfield 12, 3) := by decide +kernel
theorem d_X9_fit_72 : decode prog_1_method_15_code 72 = .ok (.getfield 197, 3) := by decide +kernel
theorem d_X9_fit_75 : decode prog_1_method_15_code 75 = .ok (.iload_n 3, 1) := by decide +kernel
theorem d_X9_fit_76 : decode prog_1_method_15_code 76 = .ok (.iload_n 2, 1) := by decide +kernel
theorem d_X9_fit_77 : decode prog_1_method_15_code 77 = .ok (.iastore, 1) := by decide +kernel
theorem d_X9_fit_78 : decode prog_1_method_15_code 78 = .ok (.aload_n 0, 1) := by decide +kernel
theorem d_X9_fit_79 : decode prog_1_method_15_code 79 = .ok (.getfield 12, 3) := by decide +kernel
theorem d_X9_fit_82 : decode prog_1_method_15_code 82 = .ok (.dup, 1) := by decide +kernel
theorem d_X9_fit_83 : decode prog_1_method_15_code 83 = .ok (.getfield 191, 3) := by decide +kernel
theorem d_X9_fit_86 : decode prog_1_method_15_code 86 = .ok (.iconst 1, 1) := by decide +kernel
theorem d_X9_fit_87 : decode prog_1_method_15_code 87 = .ok (.iadd, 1) := by decide +kernel
theorem d_X9_fit_88 : decode prog_1_method_15_code 88 = .ok (.putfield 191, 3) := by decide +kernel
theorem d_X9_fit_91 : decode prog_1_method_15_code 91 = .ok (.iload_n 3, 1) := by decide +kernel
theorem d_X9_fit_92 : decode prog_1_method_15_code 92 = .ok (.ireturn, 1) := by decide +kernel
theorem d_X9_take_0 : decode prog_1_method_16_code 0 = .ok (.aload_n 0, 1) := by decide +kernel
theorem d_X9_take_1 : decode prog_1_method_16_code 1 = .ok (.getfield 12, 3) := by decide +kernel
theorem d_X9_take_4 : decode prog_1_method_16_code 4 = .ok (.iload_n 1, 1) := by decide +kernel
theorem d_X9_take_5 : decode prog_1_method_16_code 5 = .ok (.invokevirtual 200, 3) := by decide +kernel
theorem d_X9_take_8 : decode prog_1_method_16_code 8 = .ok (.ifCond .ne 5, 3) := by decide +kernel
theorem d_X9_take_11 : decode prog_1_method_16_code 11 = .ok (.iconst (-1), 1) := by decide +kernel
theorem d_X9_take_12 : decode prog_1_method_16_code 12 = .ok (.ireturn, 1) := by decide +kernel
theorem d_X9_take_13 : decode prog_1_method_16_code 13 = .ok (.aload_n 0, 1) := by decide +kernel
theorem d_X9_take_14 : decode prog_1_method_16_code 14 = .ok (.getfield 12, 3) := by decide +kernel
theorem d_X9_take_17 : decode prog_1_method_16_code 17 = .ok (.getfield 194, 3) := by decide +kernel
theorem d_X9_take_20 : decode prog_1_method_16_code 20 = .ok (.iload_n 1, 1) := by decide +kernel
theorem d_X9_take_21 : decode prog_1_method_16_code 21 = .ok (.iaload, 1) := by decide +kernel
theorem d_X9_take_22 : decode prog_1_method_16_code 22 = .ok (.istore_n 2, 1) := by decide +kernel
theorem d_X9_take_23 : decode prog_1_method_16_code 23 = .ok (.iload_n 1, 1) := by decide +kernel
theorem d_X9_take_24 : decode prog_1_method_16_code 24 = .ok (.iconst 1, 1) := by decide +kernel
theorem d_X9_take_25 : decode prog_1_method_16_code 25 = .ok (.iadd, 1) := by decide +kernel
theorem d_X9_take_26 : decode prog_1_method_16_code 26 = .ok (.istore_n 3, 1) := by decide +kernel
theorem d_X9_take_27 : decode prog_1_method_16_code 27 = .ok (.iload_n 3, 1) := by decide +kernel
theorem d_X9_take_28 : decode prog_1_method_16_code 28 = .ok (.aload_n 0, 1) := by decide +kernel
theorem d_X9_take_29 : decode prog_1_method_16_code 29 = .ok (.getfield 12, 3) := by decide +kernel
theorem d_X9_take_32 : decode prog_1_method_16_code 32 = .ok (.getfield 191, 3) := by decide +kernel
theorem d_X9_take_35 : decode prog_1_method_16_code 35 = .ok (.if_icmp .ge 49, 3) := by decide +kernel
theorem d_X9_take_38 : decode prog_1_method_16_code 38 = .ok (.aload_n 0, 1) := by decide +kernel
theorem d_X9_take_39 : decode prog_1_method_16_code 39 = .ok (.getfield 12, 3) := by decide +kernel
theorem d_X9_take_42 : decode prog_1_method_16_code 42 = .ok (.getfield 194, 3) := by decide +kernel
theorem d_X9_take_45 : decode prog_1_method_16_code 45 = .ok (.iload_n 3, 1) := by decide +kernel
theorem d_X9_take_46 : decode prog_1_method_16_code 46 = .ok (.iconst 1, 1) := by decide +kernel
theorem d_X9_take_47 : decode prog_1_method_16_code 47 = .ok (.isub, 1) := by decide +kernel
theorem d_X9_take_48 : decode prog_1_method_16_code 48 = .ok (.aload_n 0, 1) := by decide +kernel
theorem d_X9_take_49 : decode prog_1_method_16_code 49 = .ok (.getfield 12, 3) := by decide +kernel
theorem d_X9_take_52 : decode prog_1_method_16_code 52 = .ok (.getfield 194, 3) := by decide +kernel
theorem d_X9_take_55 : decode prog_1_method_16_code 55 = .ok (.iload_n 3, 1) := by decide +kernel
theorem d_X9_take_56 : decode prog_1_method_16_code 56 = .ok (.iaload, 1) := by decide +kernel
theorem d_X9_take_57 : decode prog_1_method_16_code 57 = .ok (.iastore, 1) := by decide +kernel
theorem d_X9_take_58 : decode prog_1_method_16_code 58 = .ok (.aload_n 0, 1) := by decide +kernel
theorem d_X9_take_59 : decode prog_1_method_16_code 59 = .ok (.getfield 12, 3) := by decide +kernel
theorem d_X9_take_62 : decode prog_1_method_16_code 62 = .ok (.getfield 197, 3) := by decide +kernel
theorem d_X9_take_65 : decode prog_1_method_16_code 65 = .ok (.iload_n 3, 1) := by decide +kernel
theorem d_X9_take_66 : decode prog_1_method_16_code 66 = .ok (.iconst 1, 1) := by decide +kernel
theorem d_X9_take_67 : decode prog_1_method_16_code 67 = .ok (.isub, 1) := by decide +kernel
theorem d_X9_take_68 : decode prog_1_method_16_code 68 = .ok (.aload_n 0, 1) := by decide +kernel
theorem d_X9_take_69 : decode prog_1_method_16_code 69 = .ok (.getfield 12, 3) := by decide +kernel
theorem d_X9_take_72 : decode prog_1_method_16_code 72 = .ok (.getfield 197, 3) := by decide +kernel
theorem d_X9_take_75 : decode prog_1_method_16_code 75 = .ok (.iload_n 3, 1) := by decide +kernel
theorem d_X9_take_76 : decode prog_1_method_16_code 76 = .ok (.iaload, 1) := by decide +kernel
theorem d_X9_take_77 : decode prog_1_method_16_code 77 = .ok (.iastore, 1) := by decide +kernel
theorem d_X9_take_78 : decode prog_1_method_16_code 78 = .ok (.iinc 3 1, 3) := by decide +kernel
theorem d_X9_take_81 : decode prog_1_method_16_code 81 = .ok (.goto (-54), 3) := by decide +kernel
theorem d_X9_take_84 : decode prog_1_method_16_code 84 = .ok (.aload_n 0, 1) := by decide +kernel
theorem d_X9_take_85 : decode prog_1_method_16_code 85 = .ok (.getfield 12, 3) := by decide +kernel
theorem d_X9_take_88 : decode prog_1_method_16_code 88 = .ok (.dup, 1) := by decide +kernel
theorem d_X9_take_89 : decode prog_1_method_16_code 89 = .ok (.getfield 191, 3) := by decide +kernel
theorem d_X9_take_92 : decode prog_1_method_16_code 92 = .ok (.iconst 1, 1) := by decide +kernel
theorem d_X9_take_93 : decode prog_1_method_16_code 93 = .ok (.isub, 1) := by decide +kernel
theorem d_X9_take_94 : decode prog_1_method_16_code 94 = .ok (.putfield 191, 3) := by decide +kernel
theorem d_X9_take_97 : decode prog_1_method_16_code 97 = .ok (.iload_n 2, 1) := by decide +kernel
theorem d_X9_take_98 : decode prog_1_method_16_code 98 = .ok (.ireturn, 1) := by decide +kernel
theorem d_X9_place_0 : decode prog_1_method_17_code 0 = .ok (.aload_n 0, 1) := by decide +kernel
theorem d_X9_place_1 : decode prog_1_method_17_code 1 = .ok (.getfield 12, 3) := by decide +kernel
theorem d_X9_place_4 : decode prog_1_method_17_code 4 = .ok (.iload_n 1, 1) := by decide +kernel
theorem d_X9_place_5 : decode prog_1_method_17_code 5 = .ok (.invokevirtual 200, 3) := by decide +kernel
theorem d_X9_place_8 : decode prog_1_method_17_code 8 = .ok (.ifCond .ne 5, 3) := by decide +kernel
theorem d_X9_place_11 : decode prog_1_method_17_code 11 = .ok (.iconst (-1), 1) := by decide +kernel
theorem d_X9_place_12 : decode prog_1_method_17_code 12 = .ok (.ireturn, 1) := by decide +kernel
theorem d_X9_place_13 : decode prog_1_method_17_code 13 = .ok (.iload_n 2, 1) := by decide +kernel
theorem d_X9_place_14 : decode prog_1_method_17_code 14 = .ok (.lookupswitch 46 #[(0, 26), (1, 36)], 26) := by decide +kernel
theorem d_X9_place_40 : decode prog_1_method_17_code 40 = .ok (.aload_n 0, 1) := by decide +kernel
theorem d_X9_place_41 : decode prog_1_method_17_code 41 = .ok (.getfield 12, 3) := by decide +kernel
theorem d_X9_place_44 : decode prog_1_method_17_code 44 = .ok (.getfield 194, 3) := by decide +kernel
theorem d_X9_place_47 : decode prog_1_method_17_code 47 = .ok (.iload_n 1, 1) := by decide +kernel
theorem d_X9_place_48 : decode prog_1_method_17_code 48 = .ok (.iaload, 1) := by decide +kernel
theorem d_X9_place_49 : decode prog_1_method_17_code 49 = .ok (.ireturn, 1) := by decide +kernel
theorem d_X9_place_50 : decode prog_1_method_17_code 50 = .ok (.aload_n 0, 1) := by decide +kernel
theorem d_X9_place_51 : decode prog_1_method_17_code 51 = .ok (.getfield 12, 3) := by decide +kernel
theorem d_X9_place_54 : decode prog_1_method_17_code 54 = .ok (.getfield 197, 3) := by decide +kernel
theorem d_X9_place_57 : decode prog_1_method_17_code 57 = .ok (.iload_n 1, 1) := by decide +kernel
theorem d_X9_place_58 : decode prog_1_method_17_code 58 = .ok (.iaload, 1) := by decide +kernel
theorem d_X9_place_59 : decode prog_1_method_17_code 59 = .ok (.ireturn, 1) := by decide +kernel
theorem d_X9_place_60 : decode prog_1_method_17_code 60 = .ok (.iconst (-1), 1) := by decide +kernel
theorem d_X9_place_61 : decode prog_1_method_17_code 61 = .ok (.ireturn, 1) := by decide +kernel
theorem d_X9_turn_0 : decode prog_1_method_18_code 0 = .ok (.aload_n 0, 1) := by decide +kernel
theorem d_X9_turn_1 : decode prog_1_method_18_code 1 = .ok (.getfield 12, 3) := by decide +kernel
theorem d_X9_turn_4 : decode prog_1_method_18_code 4 = .ok (.iload_n 1, 1) := by decide +kernel
theorem d_X9_turn_5 : decode prog_1_method_18_code 5 = .ok (.invokevirtual 200, 3) := by decide +kernel
theorem d_X9_turn_8 : decode prog_1_method_18_code 8 = .ok (.ifCond .eq 10, 3) := by decide +kernel
theorem d_X9_turn_11 : decode prog_1_method_18_code 11 = .ok (.iload_n 2, 1) := by decide +kernel
theorem d_X9_turn_12 : decode prog_1_method_18_code 12 = .ok (.invokestatic 188, 3) := by decide +kernel
theorem d_X9_turn_15 : decode prog_1_method_18_code 15 = .ok (.ifCond .ne 5, 3) := by decide +kernel
theorem d_X9_turn_18 : decode prog_1_method_18_code 18 = .ok (.iconst (-1), 1) := by decide +kernel
theorem d_X9_turn_19 : decode prog_1_method_18_code 19 = .ok (.ireturn, 1) := by decide +kernel
theorem d_X9_turn_20 : decode prog_1_method_18_code 20 = .ok (.aload_n 0, 1) := by decide +kernel
theorem d_X9_turn_21 : decode prog_1_method_18_code 21 = .ok (.getfield 12, 3) := by decide +kernel
theorem d_X9_turn_24 : decode prog_1_method_18_code 24 = .ok (.getfield 197, 3) := by decide +kernel
theorem d_X9_turn_27 : decode prog_1_method_18_code 27 = .ok (.iload_n 1, 1) := by decide +kernel
theorem d_X9_turn_28 : decode prog_1_method_18_code 28 = .ok (.iaload, 1) := by decide +kernel
theorem d_X9_turn_29 : decode prog_1_method_18_code 29 = .ok (.istore_n 3, 1) := by decide +kernel
theorem d_X9_turn_30 : decode prog_1_method_18_code 30 = .ok (.aload_n 0, 1) := by decide +kernel
theorem d_X9_turn_31 : decode prog_1_method_18_code 31 = .ok (.getfield 12, 3) := by decide +kernel
theorem d_X9_turn_34 : decode prog_1_method_18_code 34 = .ok (.getfield 197, 3) := by decide +kernel
theorem d_X9_turn_37 : decode prog_1_method_18_code 37 = .ok (.iload_n 1, 1) := by decide +kernel
theorem d_X9_turn_38 : decode prog_1_method_18_code 38 = .ok (.iload_n 2, 1) := by decide +kernel
theorem d_X9_turn_39 : decode prog_1_method_18_code 39 = .ok (.iastore, 1) := by decide +kernel
theorem d_X9_turn_40 : decode prog_1_method_18_code 40 = .ok (.iload_n 3, 1) := by decide +kernel
theorem d_X9_turn_41 : decode prog_1_method_18_code 41 = .ok (.ireturn, 1) := by decide +kernel
theorem d_X9_exchange_0 : decode prog_1_method_19_code 0 = .ok (.aload_n 0, 1) := by decide +kernel
theorem d_X9_exchange_1 : decode prog_1_method_19_code 1 = .ok (.getfield 12, 3) := by decide +kernel
theorem d_X9_exchange_4 : decode prog_1_method_19_code 4 = .ok (.iload_n 1, 1) := by decide +kernel
theorem d_X9_exchange_5 : decode prog_1_method_19_code 5 = .ok (.invokevirtual 200, 3) := by decide +kernel
theorem d_X9_exchange_8 : decode prog_1_method_19_code 8 = .ok (.ifCond .eq 14, 3) := by decide +kernel
theorem d_X9_exchange_11 : decode prog_1_method_19_code 11 = .ok (.aload_n 0, 1) := by decide +kernel
theorem d_X9_exchange_12 : decode prog_1_method_19_code 12 = .ok (.getfield 12, 3) := by decide +kernel
theorem d_X9_exchange_15 : decode prog_1_method_19_code 15 = .ok (.iload_n 2, 1) := by decide +kernel
theorem d_X9_exchange_16 : decode prog_1_method_19_code 16 = .ok (.invokevirtual 200, 3) := by decide +kernel
theorem d_X9_exchange_19 : decode prog_1_method_19_code 19 = .ok (.ifCond .ne 5, 3) := by decide +kernel
theorem d_X9_exchange_22 : decode prog_1_method_19_code 22 = .ok (.iconst (-1), 1) := by decide +kernel
theorem d_X9_exchange_23 : decode prog_1_method_19_code 23 = .ok (.ireturn, 1) := by decide +kernel
theorem d_X9_exchange_24 : decode prog_1_method_19_code 24 = .ok (.aload_n 0, 1) := by decide +kernel
theorem d_X9_exchange_25 : decode prog_1_method_19_code 25 = .ok (.getfield 12, 3) := by decide +kernel
theorem d_X9_exchange_28 : decode prog_1_method_19_code 28 = .ok (.iload_n 1, 1) := by decide +kernel
theorem d_X9_exchange_29 : decode prog_1_method_19_code 29 = .ok (.iload_n 2, 1) := by decide +kernel
theorem d_X9_exchange_30 : decode prog_1_method_19_code 30 = .ok (.invokevirtual 203, 3) := by decide +kernel
theorem d_X9_exchange_33 : decode prog_1_method_19_code 33 = .ok (.iload_n 1, 1) := by decide +kernel
theorem d_X9_exchange_34 : decode prog_1_method_19_code 34 = .ok (.iload_n 2, 1) := by decide +kernel
theorem d_X9_exchange_35 : decode prog_1_method_19_code 35 = .ok (.if_icmp .ne 7, 3) := by decide +kernel
theorem d_X9_exchange_38 : decode prog_1_method_19_code 38 = .ok (.iconst 0, 1) := by decide +kernel
theorem d_X9_exchange_39 : decode prog_1_method_19_code 39 = .ok (.goto 4, 3) := by decide +kernel
theorem d_X9_exchange_42 : decode prog_1_method_19_code 42 = .ok (.iconst 1, 1) := by decide +kernel
theorem d_X9_exchange_43 : decode prog_1_method_19_code 43 = .ok (.ireturn, 1) := by decide +kernel
theorem d_X9_price_0 : decode prog_1_method_20_code 0 = .ok (.iconst 0, 1) := by decide +kernel
theorem d_X9_price_1 : decode prog_1_method_20_code 1 = .ok (.istore_n 1, 1) := by decide +kernel
theorem d_X9_price_2 : decode prog_1_method_20_code 2 = .ok (.iconst 0, 1) := by decide +kernel
theorem d_X9_price_3 : decode prog_1_method_20_code 3 = .ok (.istore_n 2, 1) := by decide +kernel
theorem d_X9_price_4 : decode prog_1_method_20_code 4 = .ok (.iload_n 2, 1) := by decide +kernel
theorem d_X9_price_5 : decode prog_1_method_20_code 5 = .ok (.aload_n 0, 1) := by decide +kernel
theorem d_X9_price_6 : decode prog_1_method_20_code 6 = .ok (.getfield 12, 3) := by decide +kernel
theorem d_X9_price_9 : decode prog_1_method_20_code 9 = .ok (.getfield 191, 3) := by decide +kernel
theorem d_X9_price_12 : decode prog_1_method_20_code 12 = .ok (.if_icmp .ge 29, 3) := by decide +kernel
theorem d_X9_price_15 : decode prog_1_method_20_code 15 = .ok (.iload_n 1, 1) := by decide +kernel
theorem d_X9_price_16 : decode prog_1_method_20_code 16 = .ok (.aload_n 0, 1) := by decide +kernel
theorem d_X9_price_17 : decode prog_1_method_20_code 17 = .ok (.getfield 12, 3) := by decide +kernel
theorem d_X9_price_20 : decode prog_1_method_20_code 20 = .ok (.getfield 115, 3) := by decide +kernel
theorem d_X9_price_23 : decode prog_1_method_20_code 23 = .ok (.aload_n 0, 1) := by decide +kernel
theorem d_X9_price_24 : decode prog_1_method_20_code 24 = .ok (.getfield 12, 3) := by decide +kernel
theorem d_X9_price_27 : decode prog_1_method_20_code 27 = .ok (.getfield 194, 3) := by decide +kernel
theorem d_X9_price_30 : decode prog_1_method_20_code 30 = .ok (.iload_n 2, 1) := by decide +kernel
theorem d_X9_price_31 : decode prog_1_method_20_code 31 = .ok (.iaload, 1) := by decide +kernel
theorem d_X9_price_32 : decode prog_1_method_20_code 32 = .ok (.iaload, 1) := by decide +kernel
theorem d_X9_price_33 : decode prog_1_method_20_code 33 = .ok (.iadd, 1) := by decide +kernel
theorem d_X9_price_34 : decode prog_1_method_20_code 34 = .ok (.istore_n 1, 1) := by decide +kernel
theorem d_X9_price_35 : decode prog_1_method_20_code 35 = .ok (.iinc 2 1, 3) := by decide +kernel
theorem d_X9_price_38 : decode prog_1_method_20_code 38 = .ok (.goto (-34), 3) := by decide +kernel
theorem d_X9_price_41 : decode prog_1_method_20_code 41 = .ok (.iload_n 1, 1) := by decide +kernel
theorem d_X9_price_42 : decode prog_1_method_20_code 42 = .ok (.ireturn, 1) := by decide +kernel
theorem d_X9_fix_0 : decode prog_1_method_21_code 0 = .ok (.aload_n 0, 1) := by decide +kernel
theorem d_X9_fix_1 : decode prog_1_method_21_code 1 = .ok (.invokevirtual 168, 3) := by decide +kernel
theorem d_X9_fix_4 : decode prog_1_method_21_code 4 = .ok (.aload_n 0, 1) := by decide +kernel
theorem d_X9_fix_5 : decode prog_1_method_21_code 5 = .ok (.getfield 19, 3) := by decide +kernel
theorem d_X9_fix_8 : decode prog_1_method_21_code 8 = .ok (.aload_n 0, 1) := by decide +kernel
theorem d_X9_fix_9 : decode prog_1_method_21_code 9 = .ok (.getfield 12, 3) := by decide +kernel
theorem d_X9_fix_12 : decode prog_1_method_21_code 12 = .ok (.invokevirtual 207, 3) := by decide +kernel
theorem d_X9_fix_15 : decode prog_1_method_21_code 15 = .ok (.aload_n 0, 1) := by decide +kernel
theorem d_X9_fix_16 : decode prog_1_method_21_code 16 = .ok (.getfield 32, 3) := by decide +kernel
theorem d_X9_fix_19 : decode prog_1_method_21_code 19 = .ok (.invokevirtual 181, 3) := by decide +kernel
theorem d_X9_fix_22 : decode prog_1_method_21_code 22 = .ok (.istore_n 1, 1) := by decide +kernel
theorem d_X9_fix_23 : decode prog_1_method_21_code 23 = .ok (.bipush (-3), 2) := by decide +kernel
theorem d_X9_fix_25 : decode prog_1_method_21_code 25 = .ok (.istore_n 2, 1) := by decide +kernel
theorem d_X9_fix_26 : decode prog_1_method_21_code 26 = .ok (.iconst 0, 1) := by decide +kernel
theorem d_X9_fix_27 : decode prog_1_method_21_code 27 = .ok (.istore_n 3, 1) := by decide +kernel
theorem d_X9_fix_28 : decode prog_1_method_21_code 28 = .ok (.iload_n 3, 1) := by decide +kernel
theorem d_X9_fix_29 : decode prog_1_method_21_code 29 = .ok (.aload_n 0, 1) := by decide +kernel
theorem d_X9_fix_30 : decode prog_1_method_21_code 30 = .ok (.getfield 12, 3) := by decide +kernel
theorem d_X9_fix_33 : decode prog_1_method_21_code 33 = .ok (.getfield 191, 3) := by decide +kernel
theorem d_X9_fix_36 : decode prog_1_method_21_code 36 = .ok (.if_icmp .ge 91, 3) := by decide +kernel
theorem d_X9_fix_39 : decode prog_1_method_21_code 39 = .ok (.iconst 0, 1) := by decide +kernel
theorem d_X9_fix_40 : decode prog_1_method_21_code 40 = .ok (.istore 4, 2) := by decide +kernel
theorem d_X9_fix_42 : decode prog_1_method_21_code 42 = .ok (.iload 4, 2) := by decide +kernel
theorem d_X9_fix_44 : decode prog_1_method_21_code 44 = .ok (.iconst 4, 1) := by decide +kernel
theorem d_X9_fix_45 : decode prog_1_method_21_code 45 = .ok (.if_icmp .ge 58, 3) := by decide +kernel
theorem d_X9_fix_48 : decode prog_1_method_21_code 48 = .ok (.aload_n 0, 1) := by decide +kernel
theorem d_X9_fix_49 : decode prog_1_method_21_code 49 = .ok (.getfield 19, 3) := by decide +kernel
theorem d_X9_fix_52 : decode prog_1_method_21_code 52 = .ok (.getfield 197, 3) := by decide +kernel
theorem d_X9_fix_55 : decode prog_1_method_21_code 55 = .ok (.iload_n 3, 1) := by decide +kernel
theorem d_X9_fix_56 : decode prog_1_method_21_code 56 = .ok (.iload 4, 2) := by decide +kernel
theorem d_X9_fix_58 : decode prog_1_method_21_code 58 = .ok (.iastore, 1) := by decide +kernel
theorem d_X9_fix_59 : decode prog_1_method_21_code 59 = .ok (.aload_n 0, 1) := by decide +kernel
theorem d_X9_fix_60 : decode prog_1_method_21_code 60 = .ok (.getfield 32, 3) := by decide +kernel
theorem d_X9_fix_63 : decode prog_1_method_21_code 63 = .ok (.aload_n 0, 1) := by decide +kernel
theorem d_X9_fix_64 : decode prog_1_method_21_code 64 = .ok (.getfield 19, 3) := by decide +kernel
theorem d_X9_fix_67 : decode prog_1_method_21_code 67 = .ok (.invokevirtual 210, 3) := by decide +kernel
theorem d_X9_fix_70 : decode prog_1_method_21_code 70 = .ok (.aload_n 0, 1) := by decide +kernel
theorem d_X9_fix_71 : decode prog_1_method_21_code 71 = .ok (.getfield 32, 3) := by decide +kernel
theorem d_X9_fix_74 : decode prog_1_method_21_code 74 = .ok (.invokevirtual 181, 3) := by decide +kernel
theorem d_X9_fix_77 : decode prog_1_method_21_code 77 = .ok (.iload_n 1, 1) := by decide +kernel
theorem d_X9_fix_78 : decode prog_1_method_21_code 78 = .ok (.if_icmp .ge 19, 3) := by decide +kernel
theorem d_X9_fix_81 : decode prog_1_method_21_code 81 = .ok (.aload_n 0, 1) := by decide +kernel
theorem d_X9_fix_82 : decode prog_1_method_21_code 82 = .ok (.getfield 32, 3) := by decide +kernel
theorem d_X9_fix_85 : decode prog_1_method_21_code 85 = .ok (.invokevirtual 181, 3) := by decide +kernel
theorem d_X9_fix_88 : decode prog_1_method_21_code 88 = .ok (.istore_n 1, 1) := by decide +kernel
theorem d_X9_fix_89 : decode prog_1_method_21_code 89 = .ok (.bipush 10, 2) := by decide +kernel
theorem d_X9_fix_91 : decode prog_1_method_21_code 91 = .ok (.iload_n 3, 1) := by decide +kernel
theorem d_X9_fix_92 : decode prog_1_method_21_code 92 = .ok (.imul, 1) := by decide +kernel
theorem d_X9_fix_93 : decode prog_1_method_21_code 93 = .ok (.iload 4, 2) := by decide +kernel
theorem d_X9_fix_95 : decode prog_1_method_21_code 95 = .ok (.iadd, 1) := by decide +kernel
theorem d_X9_fix_96 : decode prog_1_method_21_code 96 = .ok (.istore_n 2, 1) := by decide +kernel
theorem d_X9_fix_97 : decode prog_1_method_21_code 97 = .ok (.iinc 4 1, 3) := by decide +kernel
theorem d_X9_fix_100 : decode prog_1_method_21_code 100 = .ok (.goto (-58), 3) := by decide +kernel
theorem d_X9_fix_103 : decode prog_1_method_21_code 103 = .ok (.aload_n 0, 1) := by decide +kernel
theorem d_X9_fix_104 : decode prog_1_method_21_code 104 = .ok (.getfield 19, 3) := by decide +kernel
theorem d_X9_fix_107 : decode prog_1_method_21_code 107 = .ok (.getfield 197, 3) := by decide +kernel
theorem d_X9_fix_110 : decode prog_1_method_21_code 110 = .ok (.iload_n 3, 1) := by decide +kernel
theorem d_X9_fix_111 : decode prog_1_method_21_code 111 = .ok (.aload_n 0, 1) := by decide +kernel
theorem d_X9_fix_112 : decode prog_1_method_21_code 112 = .ok (.getfield 12, 3) := by decide +kernel
theorem d_X9_fix_115 : decode prog_1_method_21_code 115 = .ok (.getfield 197, 3) := by decide +kernel
theorem d_X9_fix_118 : decode prog_1_method_21_code 118 = .ok (.iload_n 3, 1) := by decide +kernel
theorem d_X9_fix_119 : decode prog_1_method_21_code 119 = .ok (.iaload, 1) := by decide +kernel
theorem d_X9_fix_120 : decode prog_1_method_21_code 120 = .ok (.iastore, 1) := by decide +kernel
theorem d_X9_fix_121 : decode prog_1_method_21_code 121 = .ok (.iinc 3 1, 3) := by decide +kernel
theorem d_X9_fix_124 : decode prog_1_method_21_code 124 = .ok (.goto (-96), 3) := by decide +kernel
theorem d_X9_fix_127 : decode prog_1_method_21_code 127 = .ok (.iload_n 2, 1) := by decide +kernel
theorem d_X9_fix_128 : decode prog_1_method_21_code 128 = .ok (.ireturn, 1) := by decide +kernel
theorem d_X9_change_0 : decode prog_1_method_22_code 0 = .ok (.aload_n 0, 1) := by decide +kernel
theorem d_X9_change_1 : decode prog_1_method_22_code 1 = .ok (.invokevirtual 168, 3) := by decide +kernel
theorem d_X9_change_4 : decode prog_1_method_22_code 4 = .ok (.aload_n 0, 1) := by decide +kernel
theorem d_X9_change_5 : decode prog_1_method_22_code 5 = .ok (.getfield 19, 3) := by decide +kernel
theorem d_X9_change_8 : decode prog_1_method_22_code 8 = .ok (.aload_n 0, 1) := by decide +kernel
theorem d_X9_change_9 : decode prog_1_method_22_code 9 = .ok (.getfield 12, 3) := by decide +kernel
theorem d_X9_change_12 : decode prog_1_method_22_code 12 = .ok (.invokevirtual 207, 3) := by decide +kernel
theorem d_X9_change_15 : decode prog_1_method_22_code 15 = .ok (.aload_n 0, 1) := by decide +kernel
theorem d_X9_change_16 : decode prog_1_method_22_code 16 = .ok (.getfield 32, 3) := by decide +kernel
theorem d_X9_change_19 : decode prog_1_method_22_code 19 = .ok (.invokevirtual 181, 3) := by decide +kernel
theorem d_X9_change_22 : decode prog_1_method_22_code 22 = .ok (.istore_n 1, 1) := by decide +kernel
theorem d_X9_change_23 : decode prog_1_method_22_code 23 = .ok (.bipush (-3), 2) := by decide +kernel
theorem d_X9_change_25 : decode prog_1_method_22_code 25 = .ok (.istore_n 2, 1) := by decide +kernel
theorem d_X9_change_26 : decode prog_1_method_22_code 26 = .ok (.iconst 0, 1) := by decide +kernel
theorem d_X9_change_27 : decode prog_1_method_22_code 27 = .ok (.istore_n 3, 1) := by decide +kernel
theorem d_X9_change_28 : decode prog_1_method_22_code 28 = .ok (.iload_n 3, 1) := by decide +kernel
theorem d_X9_change_29 : decode prog_1_method_22_code 29 = .ok (.aload_n 0, 1) := by decide +kernel
theorem d_X9_change_30 : decode prog_1_method_22_code 30 = .ok (.getfield 12, 3) := by decide +kernel
theorem d_X9_change_33 : decode prog_1_method_22_code 33 = .ok (.getfield 191, 3) := by decide +kernel
theorem d_X9_change_36 : decode prog_1_method_22_code 36 = .ok (.if_icmp .ge 90, 3) := by decide +kernel
theorem d_X9_change_39 : decode prog_1_method_22_code 39 = .ok (.iload_n 3, 1) := by decide +kernel
theorem d_X9_change_40 : decode prog_1_method_22_code 40 = .ok (.iconst 1, 1) := by decide +kernel
theorem d_X9_change_41 : decode prog_1_method_22_code 41 = .ok (.iadd, 1) := by decide +kernel
theorem d_X9_change_42 : decode prog_1_method_22_code 42 = .ok (.istore 4, 2) := by decide +kernel
theorem d_X9_change_44 : decode prog_1_method_22_code 44 = .ok (.iload 4, 2) := by decide +kernel
theorem d_X9_change_46 : decode prog_1_method_22_code 46 = .ok (.aload_n 0, 1) := by decide +kernel
theorem d_X9_change_47 : decode prog_1_method_22_code 47 = .ok (.getfield 12, 3) := by decide +kernel
theorem d_X9_change_50 : decode prog_1_method_22_code 50 = .ok (.getfield 191, 3) := by decide +kernel
theorem d_X9_change_53 : decode prog_1_method_22_code 53 = .ok (.if_icmp .ge 67, 3) := by decide +kernel
theorem d_X9_change_56 : decode prog_1_method_22_code 56 = .ok (.aload_n 0, 1) := by decide +kernel
theorem d_X9_change_57 : decode prog_1_method_22_code 57 = .ok (.getfield 19, 3) := by decide +kernel
theorem d_X9_change_60 : decode prog_1_method_22_code 60 = .ok (.iload_n 3, 1) := by decide +kernel
theorem d_X9_change_61 : decode prog_1_method_22_code 61 = .ok (.iload 4, 2) := by decide +kernel
theorem d_X9_change_63 : decode prog_1_method_22_code 63 = .ok (.invokevirtual 203, 3) := by decide +kernel
theorem d_X9_change_66 : decode prog_1_method_22_code 66 = .ok (.aload_n 0, 1) := by decide +kernel
theorem d_X9_change_67 : decode prog_1_method_22_code 67 = .ok (.getfield 32, 3) := by decide +kernel
theorem d_X9_change_70 : decode prog_1_method_22_code 70 = .ok (.aload_n 0, 1) := by decide +kernel
theorem d_X9_change_71 : decode prog_1_method_22_code 71 = .ok (.getfield 19, 3) := by decide +kernel
theorem d_X9_change_74 : decode prog_1_method_22_code 74 = .ok (.invokevirtual 210, 3) := by decide +kernel
theorem d_X9_change_77 : decode prog_1_method_22_code 77 = .ok (.aload_n 0, 1) := by decide +kernel
theorem d_X9_change_78 : decode prog_1_method_22_code 78 = .ok (.getfield 19, 3) := by decide +kernel
theorem d_X9_change_81 : decode prog_1_method_22_code 81 = .ok (.iload_n 3, 1) := by decide +kernel
theorem d_X9_change_82 : decode prog_1_method_22_code 82 = .ok (.iload 4, 2) := by decide +kernel
theorem d_X9_change_84 : decode prog_1_method_22_code 84 = .ok (.invokevirtual 203, 3) := by decide +kernel
theorem d_X9_change_87 : decode prog_1_method_22_code 87 = .ok (.aload_n 0, 1) := by decide +kernel
theorem d_X9_change_88 : decode prog_1_method_22_code 88 = .ok (.getfield 32, 3) := by decide +kernel
theorem d_X9_change_91 : decode prog_1_method_22_code 91 = .ok (.invokevirtual 181, 3) := by decide +kernel
theorem d_X9_change_94 : decode prog_1_method_22_code 94 = .ok (.iload_n 1, 1) := by decide +kernel
theorem d_X9_change_95 : decode prog_1_method_22_code 95 = .ok (.if_icmp .ge 19, 3) := by decide +kernel
theorem d_X9_change_98 : decode prog_1_method_22_code 98 = .ok (.aload_n 0, 1) := by decide +kernel
theorem d_X9_change_99 : decode prog_1_method_22_code 99 = .ok (.getfield 32, 3) := by decide +kernel
theorem d_X9_change_102 : decode prog_1_method_22_code 102 = .ok (.invokevirtual 181, 3) := by decide +kernel
theorem d_X9_change_105 : decode prog_1_method_22_code 105 = .ok (.istore_n 1, 1) := by decide +kernel
theorem d_X9_change_106 : decode prog_1_method_22_code 106 = .ok (.bipush 10, 2) := by decide +kernel
theorem d_X9_change_108 : decode prog_1_method_22_code 108 = .ok (.iload_n 3, 1) := by decide +kernel
theorem d_X9_change_109 : decode prog_1_method_22_code 109 = .ok (.imul, 1) := by decide +kernel
theorem d_X9_change_110 : decode prog_1_method_22_code 110 = .ok (.iload 4, 2) := by decide +kernel
theorem d_X9_change_112 : decode prog_1_method_22_code 112 = .ok (.iadd, 1) := by decide +kernel
theorem d_X9_change_113 : decode prog_1_method_22_code 113 = .ok (.istore_n 2, 1) := by decide +kernel
theorem d_X9_change_114 : decode prog_1_method_22_code 114 = .ok (.iinc 4 1, 3) := by decide +kernel
theorem d_X9_change_117 : decode prog_1_method_22_code 117 = .ok (.goto (-73), 3) := by decide +kernel
theorem d_X9_change_120 : decode prog_1_method_22_code 120 = .ok (.iinc 3 1, 3) := by decide +kernel
theorem d_X9_change_123 : decode prog_1_method_22_code 123 = .ok (.goto (-95), 3) := by decide +kernel
theorem d_X9_change_126 : decode prog_1_method_22_code 126 = .ok (.iload_n 2, 1) := by decide +kernel
theorem d_X9_change_127 : decode prog_1_method_22_code 127 = .ok (.ireturn, 1) := by decide +kernel
theorem d_X9_heatFor_0 : decode prog_1_method_23_code 0 = .ok (.aload_n 0, 1) := by decide +kernel
theorem d_X9_heatFor_1 : decode prog_1_method_23_code 1 = .ok (.getfield 19, 3) := by decide +kernel
theorem d_X9_heatFor_4 : decode prog_1_method_23_code 4 = .ok (.aload_n 0, 1) := by decide +kernel
theorem d_X9_heatFor_5 : decode prog_1_method_23_code 5 = .ok (.getfield 12, 3) := by decide +kernel
theorem d_X9_heatFor_8 : decode prog_1_method_23_code 8 = .ok (.invokevirtual 207, 3) := by decide +kernel
theorem d_X9_heatFor_11 : decode prog_1_method_23_code 11 = .ok (.iconst 0, 1) := by decide +kernel
theorem d_X9_heatFor_12 : decode prog_1_method_23_code 12 = .ok (.istore_n 1, 1) := by decide +kernel
theorem d_X9_heatFor_13 : decode prog_1_method_23_code 13 = .ok (.iload_n 1, 1) := by decide +kernel
theorem d_X9_heatFor_14 : decode prog_1_method_23_code 14 = .ok (.getstatic 142, 3) := by decide +kernel
theorem d_X9_heatFor_17 : decode prog_1_method_23_code 17 = .ok (.iconst 0, 1) := by decide +kernel
theorem d_X9_heatFor_18 : decode prog_1_method_23_code 18 = .ok (.iaload, 1) := by decide +kernel
theorem d_X9_heatFor_19 : decode prog_1_method_23_code 19 = .ok (.if_icmp .gt 20, 3) := by decide +kernel
theorem d_X9_heatFor_22 : decode prog_1_method_23_code 22 = .ok (.aload_n 0, 1) := by decide +kernel
theorem d_X9_heatFor_23 : decode prog_1_method_23_code 23 = .ok (.iconst 0, 1) := by decide +kernel
theorem d_X9_heatFor_24 : decode prog_1_method_23_code 24 = .ok (.iload_n 1, 1) := by decide +kernel
theorem d_X9_heatFor_25 : decode prog_1_method_23_code 25 = .ok (.invokevirtual 213, 3) := by decide +kernel
theorem d_X9_heatFor_28 : decode prog_1_method_23_code 28 = .ok (.ifCond .eq 5, 3) := by decide +kernel
theorem d_X9_heatFor_31 : decode prog_1_method_23_code 31 = .ok (.iload_n 1, 1) := by decide +kernel
theorem d_X9_heatFor_32 : decode prog_1_method_23_code 32 = .ok (.ireturn, 1) := by decide +kernel
theorem d_X9_heatFor_33 : decode prog_1_method_23_code 33 = .ok (.iinc 1 1, 3) := by decide +kernel
theorem d_X9_heatFor_36 : decode prog_1_method_23_code 36 = .ok (.goto (-23), 3) := by decide +kernel
theorem d_X9_heatFor_39 : decode prog_1_method_23_code 39 = .ok (.bipush (-3), 2) := by decide +kernel
theorem d_X9_heatFor_41 : decode prog_1_method_23_code 41 = .ok (.ireturn, 1) := by decide +kernel
theorem d_X9_eyes_0 : decode prog_1_method_24_code 0 = .ok (.aload_n 0, 1) := by decide +kernel
theorem d_X9_eyes_1 : decode prog_1_method_24_code 1 = .ok (.getfield 19, 3) := by decide +kernel
theorem d_X9_eyes_4 : decode prog_1_method_24_code 4 = .ok (.aload_n 0, 1) := by decide +kernel
theorem d_X9_eyes_5 : decode prog_1_method_24_code 5 = .ok (.getfield 12, 3) := by decide +kernel
theorem d_X9_eyes_8 : decode prog_1_method_24_code 8 = .ok (.invokevirtual 207, 3) := by decide +kernel
theorem d_X9_eyes_11 : decode prog_1_method_24_code 11 = .ok (.iconst 0, 1) := by decide +kernel
theorem d_X9_eyes_12 : decode prog_1_method_24_code 12 = .ok (.istore_n 1, 1) := by decide +kernel
theorem d_X9_eyes_13 : decode prog_1_method_24_code 13 = .ok (.getstatic 139, 3) := by decide +kernel
theorem d_X9_eyes_16 : decode prog_1_method_24_code 16 = .ok (.iconst 2, 1) := by decide +kernel
theorem d_X9_eyes_17 : decode prog_1_method_24_code 17 = .ok (.iaload, 1) := by decide +kernel
theorem d_X9_eyes_18 : decode prog_1_method_24_code 18 = .ok (.istore_n 2, 1) := by decide +kernel
theorem d_X9_eyes_19 : decode prog_1_method_24_code 19 = .ok (.iload_n 2, 1) := by decide +kernel
theorem d_X9_eyes_20 : decode prog_1_method_24_code 20 = .ok (.getstatic 142, 3) := by decide +kernel
theorem d_X9_eyes_23 : decode prog_1_method_24_code 23 = .ok (.iconst 2, 1) := by decide +kernel
theorem d_X9_eyes_24 : decode prog_1_method_24_code 24 = .ok (.iaload, 1) := by decide +kernel
theorem d_X9_eyes_25 : decode prog_1_method_24_code 25 = .ok (.if_icmp .gt 21, 3) := by decide +kernel
theorem d_X9_eyes_28 : decode prog_1_method_24_code 28 = .ok (.aload_n 0, 1) := by decide +kernel
theorem d_X9_eyes_29 : decode prog_1_method_24_code 29 = .ok (.iconst 2, 1) := by decide +kernel
theorem d_X9_eyes_30 : decode prog_1_method_24_code 30 = .ok (.iload_n 2, 1) := by decide +kernel
theorem d_X9_eyes_31 : decode prog_1_method_24_code 31 = .ok (.invokevirtual 213, 3) := by decide +kernel
theorem d_X9_eyes_34 : decode prog_1_method_24_code 34 = .ok (.ifCond .eq 6, 3) := by decide +kernel
theorem d_X9_eyes_37 : decode prog_1_method_24_code 37 = .ok (.iinc 1 1, 3) := by decide +kernel
theorem d_X9_eyes_40 : decode prog_1_method_24_code 40 = .ok (.iinc 2 1, 3) := by decide +kernel
theorem d_X9_eyes_43 : decode prog_1_method_24_code 43 = .ok (.goto (-24), 3) := by decide +kernel
theorem d_X9_eyes_46 : decode prog_1_method_24_code 46 = .ok (.iload_n 1, 1) := by decide +kernel
theorem d_X9_eyes_47 : decode prog_1_method_24_code 47 = .ok (.ireturn, 1) := by decide +kernel
theorem d_X9_least_0 : decode prog_1_method_25_code 0 = .ok (.iload_n 1, 1) := by decide +kernel
theorem d_X9_least_1 : decode prog_1_method_25_code 1 = .ok (.invokestatic 217, 3) := by decide +kernel
theorem d_X9_least_4 : decode prog_1_method_25_code 4 = .ok (.ifCond .ne 5, 3) := by decide +kernel
theorem d_X9_least_7 : decode prog_1_method_25_code 7 = .ok (.iconst (-1), 1) := by decide +kernel
theorem d_X9_least_8 : decode prog_1_method_25_code 8 = .ok (.ireturn, 1) := by decide +kernel
theorem d_X9_least_9 : decode prog_1_method_25_code 9 = .ok (.aload_n 0, 1) := by decide +kernel
theorem d_X9_least_10 : decode prog_1_method_25_code 10 = .ok (.getfield 12, 3) := by decide +kernel
theorem d_X9_least_13 : decode prog_1_method_25_code 13 = .ok (.getfield 102, 3) := by decide +kernel
theorem d_X9_least_16 : decode prog_1_method_25_code 16 = .ok (.iload_n 1, 1) := by decide +kernel
theorem d_X9_least_17 : decode prog_1_method_25_code 17 = .ok (.if_icmp .ge 6, 3) := by decide +kernel
theorem d_X9_least_20 : decode prog_1_method_25_code 20 = .ok (.bipush (-3), 2) := by decide +kernel
theorem d_X9_least_22 : decode prog_1_method_25_code 22 = .ok (.ireturn, 1) := by decide +kernel
theorem d_X9_least_23 : decode prog_1_method_25_code 23 = .ok (.aload_n 0, 1) := by decide +kernel
theorem d_X9_least_24 : decode prog_1_method_25_code 24 = .ok (.getfield 41, 3) := by decide +kernel
theorem d_X9_least_27 : decode prog_1_method_25_code 27 = .ok (.aload_n 0, 1) := by decide +kernel
theorem d_X9_least_28 : decode prog_1_method_25_code 28 = .ok (.getfield 12, 3) := by decide +kernel
theorem d_X9_least_31 : decode prog_1_method_25_code 31 = .ok (.iload_n 1, 1) := by decide +kernel
theorem d_X9_least_32 : decode prog_1_method_25_code 32 = .ok (.invokevirtual 220, 3) := by decide +kernel
theorem d_X9_least_35 : decode prog_1_method_25_code 35 = .ok (.aload_n 0, 1) := by decide +kernel
theorem d_X9_least_36 : decode prog_1_method_25_code 36 = .ok (.getfield 41, 3) := by decide +kernel
theorem d_X9_least_39 : decode prog_1_method_25_code 39 = .ok (.getfield 224, 3) := by decide +kernel
theorem d_X9_least_42 : decode prog_1_method_25_code 42 = .ok (.ireturn, 1) := by decide +kernel
theorem d_X9_pick_0 : decode prog_1_method_26_code 0 = .ok (.iload_n 1, 1) := by decide +kernel
theorem d_X9_pick_1 : decode prog_1_method_26_code 1 = .ok (.invokestatic 217, 3) := by decide +kernel
theorem d_X9_pick_4 : decode prog_1_method_26_code 4 = .ok (.ifCond .eq 14, 3) := by decide +kernel
theorem d_X9_pick_7 : decode prog_1_method_26_code 7 = .ok (.iload_n 2, 1) := by decide +kernel
theorem d_X9_pick_8 : decode prog_1_method_26_code 8 = .ok (.iconst 0, 1) := by decide +kernel
theorem d_X9_pick_9 : decode prog_1_method_26_code 9 = .ok (.iload_n 1, 1) := by decide +kernel
theorem d_X9_pick_10 : decode prog_1_method_26_code 10 = .ok (.iconst 1, 1) := by decide +kernel
theorem d_X9_pick_11 : decode prog_1_method_26_code 11 = .ok (.isub, 1) := by decide +kernel
theorem d_X9_pick_12 : decode prog_1_method_26_code 12 = .ok (.invokestatic 98, 3) := by decide +kernel
theorem d_X9_pick_15 : decode prog_1_method_26_code 15 = .ok (.ifCond .ne 5, 3) := by decide +kernel
theorem d_X9_pick_18 : decode prog_1_method_26_code 18 = .ok (.iconst (-1), 1) := by decide +kernel
theorem d_X9_pick_19 : decode prog_1_method_26_code 19 = .ok (.ireturn, 1) := by decide +kernel
theorem d_X9_pick_20 : decode prog_1_method_26_code 20 = .ok (.aload_n 0, 1) := by decide +kernel
theorem d_X9_pick_21 : decode prog_1_method_26_code 21 = .ok (.getfield 12, 3) := by decide +kernel
theorem d_X9_pick_24 : decode prog_1_method_26_code 24 = .ok (.getfield 102, 3) := by decide +kernel
theorem d_X9_pick_27 : decode prog_1_method_26_code 27 = .ok (.iload_n 1, 1) := by decide +kernel
theorem d_X9_pick_28 : decode prog_1_method_26_code 28 = .ok (.if_icmp .ge 6, 3) := by decide +kernel
theorem d_X9_pick_31 : decode prog_1_method_26_code 31 = .ok (.bipush (-3), 2) := by decide +kernel
theorem d_X9_pick_33 : decode prog_1_method_26_code 33 = .ok (.ireturn, 1) := by decide +kernel
theorem d_X9_pick_34 : decode prog_1_method_26_code 34 = .ok (.aload_n 0, 1) := by decide +kernel
theorem d_X9_pick_35 : decode prog_1_method_26_code 35 = .ok (.getfield 41, 3) := by decide +kernel
theorem d_X9_pick_38 : decode prog_1_method_26_code 38 = .ok (.aload_n 0, 1) := by decide +kernel
theorem d_X9_pick_39 : decode prog_1_method_26_code 39 = .ok (.getfield 12, 3) := by decide +kernel
theorem d_X9_pick_42 : decode prog_1_method_26_code 42 = .ok (.iload_n 1, 1) := by decide +kernel
theorem d_X9_pick_43 : decode prog_1_method_26_code 43 = .ok (.invokevirtual 220, 3) := by decide +kernel
theorem d_X9_pick_46 : decode prog_1_method_26_code 46 = .ok (.bipush 10, 2) := by decide +kernel
theorem d_X9_pick_48 : decode prog_1_method_26_code 48 = .ok (.aload_n 0, 1) := by decide +kernel
theorem d_X9_pick_49 : decode prog_1_method_26_code 49 = .ok (.getfield 41, 3) := by decide +kernel
theorem d_X9_pick_52 : decode prog_1_method_26_code 52 = .ok (.getfield 227, 3) := by decide +kernel
theorem d_X9_pick_55 : decode prog_1_method_26_code 55 = .ok (.iload_n 2, 1) := by decide +kernel
theorem d_X9_pick_56 : decode prog_1_method_26_code 56 = .ok (.iaload, 1) := by decide +kernel
theorem d_X9_pick_57 : decode prog_1_method_26_code 57 = .ok (.imul, 1) := by decide +kernel
theorem d_X9_pick_58 : decode prog_1_method_26_code 58 = .ok (.aload_n 0, 1) := by decide +kernel
theorem d_X9_pick_59 : decode prog_1_method_26_code 59 = .ok (.getfield 41, 3) := by decide +kernel
theorem d_X9_pick_62 : decode prog_1_method_26_code 62 = .ok (.getfield 230, 3) := by decide +kernel
theorem d_X9_pick_65 : decode prog_1_method_26_code 65 = .ok (.iload_n 2, 1) := by decide +kernel
theorem d_X9_pick_66 : decode prog_1_method_26_code 66 = .ok (.iaload, 1) := by decide +kernel
theorem d_X9_pick_67 : decode prog_1_method_26_code 67 = .ok (.iadd, 1) := by decide +kernel
theorem d_X9_pick_68 : decode prog_1_method_26_code 68 = .ok (.ireturn, 1) := by decide +kernel
theorem d_X9_good_0 : decode prog_1_method_27_code 0 = .ok (.iload_n 1, 1) := by decide +kernel
theorem d_X9_good_1 : decode prog_1_method_27_code 1 = .ok (.invokestatic 217, 3) := by decide +kernel
theorem d_X9_good_4 : decode prog_1_method_27_code 4 = .ok (.ifCond .ne 5, 3) := by decide +kernel
theorem d_X9_good_7 : decode prog_1_method_27_code 7 = .ok (.iconst (-1), 1) := by decide +kernel
theorem d_X9_good_8 : decode prog_1_method_27_code 8 = .ok (.ireturn, 1) := by decide +kernel
theorem d_X9_good_9 : decode prog_1_method_27_code 9 = .ok (.aload_n 0, 1) := by decide +kernel
theorem d_X9_good_10 : decode prog_1_method_27_code 10 = .ok (.getfield 41, 3) := by decide +kernel
theorem d_X9_good_13 : decode prog_1_method_27_code 13 = .ok (.aload_n 0, 1) := by decide +kernel
theorem d_X9_good_14 : decode prog_1_method_27_code 14 = .ok (.getfield 12, 3) := by decide +kernel
theorem d_X9_good_17 : decode prog_1_method_27_code 17 = .ok (.iload_n 1, 1) := by decide +kernel
theorem d_X9_good_18 : decode prog_1_method_27_code 18 = .ok (.invokevirtual 220, 3) := by decide +kernel
theorem d_X9_good_21 : decode prog_1_method_27_code 21 = .ok (.aload_n 0, 1) := by decide +kernel
theorem d_X9_good_22 : decode prog_1_method_27_code 22 = .ok (.getfield 41, 3) := by decide +kernel
theorem d_X9_good_25 : decode prog_1_method_27_code 25 = .ok (.getfield 233, 3) := by decide +kernel
theorem d_X9_good_28 : decode prog_1_method_27_code 28 = .ok (.ireturn, 1) := by decide +kernel
theorem d_X9_pairs_0 : decode prog_1_method_28_code 0 = .ok (.aload_n 0, 1) := by decide +kernel
theorem d_X9_pairs_1 : decode prog_1_method_28_code 1 = .ok (.getfield 41, 3) := by decide +kernel
theorem d_X9_pairs_4 : decode prog_1_method_28_code 4 = .ok (.aload_n 0, 1) := by decide +kernel
theorem d_X9_pairs_5 : decode prog_1_method_28_code 5 = .ok (.getfield 12, 3) := by decide +kernel
theorem d_X9_pairs_8 : decode prog_1_method_28_code 8 = .ok (.invokevirtual 236, 3) := by decide +kernel
theorem d_X9_pairs_11 : decode prog_1_method_28_code 11 = .ok (.aload_n 0, 1) := by decide +kernel
theorem d_X9_pairs_12 : decode prog_1_method_28_code 12 = .ok (.getfield 41, 3) := by decide +kernel
theorem d_X9_pairs_15 : decode prog_1_method_28_code 15 = .ok (.getfield 239, 3) := by decide +kernel
theorem d_X9_pairs_18 : decode prog_1_method_28_code 18 = .ok (.ireturn, 1) := by decide +kernel
theorem d_X9_mate_0 : decode prog_1_method_29_code 0 = .ok (.aload_n 0, 1) := by decide +kernel
theorem d_X9_mate_1 : decode prog_1_method_29_code 1 = .ok (.getfield 12, 3) := by decide +kernel
theorem d_X9_mate_4 : decode prog_1_method_29_code 4 = .ok (.iload_n 1, 1) := by decide +kernel
theorem d_X9_mate_5 : decode prog_1_method_29_code 5 = .ok (.invokevirtual 118, 3) := by decide +kernel
theorem d_X9_mate_8 : decode prog_1_method_29_code 8 = .ok (.ifCond .ne 5, 3) := by decide +kernel
theorem d_X9_mate_11 : decode prog_1_method_29_code 11 = .ok (.iconst (-1), 1) := by decide +kernel
theorem d_X9_mate_12 : decode prog_1_method_29_code 12 = .ok (.ireturn, 1) := by decide +kernel
theorem d_X9_mate_13 : decode prog_1_method_29_code 13 = .ok (.aload_n 0, 1) := by decide +kernel
theorem d_X9_mate_14 : decode prog_1_method_29_code 14 = .ok (.getfield 41, 3) := by decide +kernel
theorem d_X9_mate_17 : decode prog_1_method_29_code 17 = .ok (.aload_n 0, 1) := by decide +kernel
theorem d_X9_mate_18 : decode prog_1_method_29_code 18 = .ok (.getfield 12, 3) := by decide +kernel
theorem d_X9_mate_21 : decode prog_1_method_29_code 21 = .ok (.invokevirtual 236, 3) := by decide +kernel
theorem d_X9_mate_24 : decode prog_1_method_29_code 24 = .ok (.aload_n 0, 1) := by decide +kernel
theorem d_X9_mate_25 : decode prog_1_method_29_code 25 = .ok (.getfield 41, 3) := by decide +kernel
theorem d_X9_mate_28 : decode prog_1_method_29_code 28 = .ok (.getfield 242, 3) := by decide +kernel
theorem d_X9_mate_31 : decode prog_1_method_29_code 31 = .ok (.iload_n 1, 1) := by decide +kernel
theorem d_X9_mate_32 : decode prog_1_method_29_code 32 = .ok (.iaload, 1) := by decide +kernel
theorem d_X9_mate_33 : decode prog_1_method_29_code 33 = .ok (.ireturn, 1) := by decide +kernel
theorem d_X9_years_0 : decode prog_1_method_30_code 0 = .ok (.aload_n 0, 1) := by decide +kernel
theorem d_X9_years_1 : decode prog_1_method_30_code 1 = .ok (.getfield 55, 3) := by decide +kernel
theorem d_X9_years_4 : decode prog_1_method_30_code 4 = .ok (.aload_n 0, 1) := by decide +kernel
theorem d_X9_years_5 : decode prog_1_method_30_code 5 = .ok (.getfield 12, 3) := by decide +kernel
theorem d_X9_years_8 : decode prog_1_method_30_code 8 = .ok (.invokevirtual 245, 3) := by decide +kernel
theorem d_X9_years_11 : decode prog_1_method_30_code 11 = .ok (.ireturn, 1) := by decide +kernel
theorem d_X9_turned_0 : decode prog_1_method_31_code 0 = .ok (.iload_n 1, 1) := by decide +kernel
theorem d_X9_turned_1 : decode prog_1_method_31_code 1 = .ok (.iconst 1, 1) := by decide +kernel
theorem d_X9_turned_2 : decode prog_1_method_31_code 2 = .ok (.bipush 20, 2) := by decide +kernel
theorem d_X9_turned_4 : decode prog_1_method_31_code 4 = .ok (.invokestatic 98, 3) := by decide +kernel
theorem d_X9_turned_7 : decode prog_1_method_31_code 7 = .ok (.ifCond .ne 5, 3) := by decide +kernel
theorem d_X9_turned_10 : decode prog_1_method_31_code 10 = .ok (.iconst (-1), 1) := by decide +kernel
theorem d_X9_turned_11 : decode prog_1_method_31_code 11 = .ok (.ireturn, 1) := by decide +kernel
theorem d_X9_turned_12 : decode prog_1_method_31_code 12 = .ok (.aload_n 0, 1) := by decide +kernel
theorem d_X9_turned_13 : decode prog_1_method_31_code 13 = .ok (.getfield 55, 3) := by decide +kernel
theorem d_X9_turned_16 : decode prog_1_method_31_code 16 = .ok (.aload_n 0, 1) := by decide +kernel
theorem d_X9_turned_17 : decode prog_1_method_31_code 17 = .ok (.getfield 12, 3) := by decide +kernel
theorem d_X9_turned_20 : decode prog_1_method_31_code 20 = .ok (.invokevirtual 245, 3) := by decide +kernel
theorem d_X9_turned_23 : decode prog_1_method_31_code 23 = .ok (.iload_n 1, 1) := by decide +kernel
theorem d_X9_turned_24 : decode prog_1_method_31_code 24 = .ok (.if_icmp .gt 6, 3) := by decide +kernel
theorem d_X9_turned_27 : decode prog_1_method_31_code 27 = .ok (.bipush (-3), 2) := by decide +kernel
theorem d_X9_turned_29 : decode prog_1_method_31_code 29 = .ok (.ireturn, 1) := by decide +kernel
theorem d_X9_turned_30 : decode prog_1_method_31_code 30 = .ok (.aload_n 0, 1) := by decide +kernel
theorem d_X9_turned_31 : decode prog_1_method_31_code 31 = .ok (.getfield 55, 3) := by decide +kernel
theorem d_X9_turned_34 : decode prog_1_method_31_code 34 = .ok (.iload_n 1, 1) := by decide +kernel
theorem d_X9_turned_35 : decode prog_1_method_31_code 35 = .ok (.invokevirtual 249, 3) := by decide +kernel
theorem d_X9_turned_38 : decode prog_1_method_31_code 38 = .ok (.ireturn, 1) := by decide +kernel
theorem d_X9_game_0 : decode prog_1_method_32_code 0 = .ok (.iload_n 1, 1) := by decide +kernel
theorem d_X9_game_1 : decode prog_1_method_32_code 1 = .ok (.invokestatic 217, 3) := by decide +kernel
theorem d_X9_game_4 : decode prog_1_method_32_code 4 = .ok (.ifCond .ne 5, 3) := by decide +kernel
theorem d_X9_game_7 : decode prog_1_method_32_code 7 = .ok (.iconst (-1), 1) := by decide +kernel
theorem d_X9_game_8 : decode prog_1_method_32_code 8 = .ok (.ireturn, 1) := by decide +kernel
theorem d_X9_game_9 : decode prog_1_method_32_code 9 = .ok (.aload_n 0, 1) := by decide +kernel
theorem d_X9_game_10 : decode prog_1_method_32_code 10 = .ok (.getfield 48, 3) := by decide +kernel
theorem d_X9_game_13 : decode prog_1_method_32_code 13 = .ok (.aload_n 0, 1) := by decide +kernel
theorem d_X9_game_14 : decode prog_1_method_32_code 14 = .ok (.getfield 12, 3) := by decide +kernel
theorem d_X9_game_17 : decode prog_1_method_32_code 17 = .ok (.iload_n 1, 1) := by decide +kernel
theorem d_X9_game_18 : decode prog_1_method_32_code 18 = .ok (.invokevirtual 252, 3) := by decide +kernel
theorem d_X9_game_21 : decode prog_1_method_32_code 21 = .ok (.aload_n 0, 1) := by decide +kernel
theorem d_X9_game_22 : decode prog_1_method_32_code 22 = .ok (.getfield 48, 3) := by decide +kernel
theorem d_X9_game_25 : decode prog_1_method_32_code 25 = .ok (.iconst 0, 1) := by decide +kernel
theorem d_X9_game_26 : decode prog_1_method_32_code 26 = .ok (.invokevirtual 255, 3) := by decide +kernel
theorem d_X9_game_29 : decode prog_1_method_32_code 29 = .ok (.ifCond .eq 7, 3) := by decide +kernel
theorem d_X9_game_32 : decode prog_1_method_32_code 32 = .ok (.iconst 1, 1) := by decide +kernel
theorem d_X9_game_33 : decode prog_1_method_32_code 33 = .ok (.goto 4, 3) := by decide +kernel
theorem d_X9_game_36 : decode prog_1_method_32_code 36 = .ok (.iconst 0, 1) := by decide +kernel
theorem d_X9_game_37 : decode prog_1_method_32_code 37 = .ok (.ireturn, 1) := by decide +kernel
theorem d_X9_play_0 : decode prog_1_method_33_code 0 = .ok (.iload_n 1, 1) := by decide +kernel
theorem d_X9_play_1 : decode prog_1_method_33_code 1 = .ok (.invokestatic 217, 3) := by decide +kernel
theorem d_X9_play_4 : decode prog_1_method_33_code 4 = .ok (.ifCond .ne 5, 3) := by decide +kernel
theorem d_X9_play_7 : decode prog_1_method_33_code 7 = .ok (.iconst (-1), 1) := by decide +kernel
theorem d_X9_play_8 : decode prog_1_method_33_code 8 = .ok (.ireturn, 1) := by decide +kernel
theorem d_X9_play_9 : decode prog_1_method_33_code 9 = .ok (.aload_n 0, 1) := by decide +kernel
theorem d_X9_play_10 : decode prog_1_method_33_code 10 = .ok (.getfield 48, 3) := by decide +kernel
theorem d_X9_play_13 : decode prog_1_method_33_code 13 = .ok (.aload_n 0, 1) := by decide +kernel
theorem d_X9_play_14 : decode prog_1_method_33_code 14 = .ok (.getfield 12, 3) := by decide +kernel
theorem d_X9_play_17 : decode prog_1_method_33_code 17 = .ok (.iload_n 1, 1) := by decide +kernel
theorem d_X9_play_18 : decode prog_1_method_33_code 18 = .ok (.invokevirtual 252, 3) := by decide +kernel
theorem d_X9_play_21 : decode prog_1_method_33_code 21 = .ok (.aload_n 0, 1) := by decide +kernel
theorem d_X9_play_22 : decode prog_1_method_33_code 22 = .ok (.getfield 48, 3) := by decide +kernel
theorem d_X9_play_25 : decode prog_1_method_33_code 25 = .ok (.invokevirtual 258, 3) := by decide +kernel
theorem d_X9_play_28 : decode prog_1_method_33_code 28 = .ok (.ireturn, 1) := by decide +kernel
theorem d_X9_report_0 : decode prog_1_method_34_code 0 = .ok (.iload_n 1, 1) := by decide +kernel
theorem d_X9_report_1 : decode prog_1_method_34_code 1 = .ok (.iconst 0, 1) := by decide +kernel
theorem d_X9_report_2 : decode prog_1_method_34_code 2 = .ok (.iconst 3, 1) := by decide +kernel
theorem d_X9_report_3 : decode prog_1_method_34_code 3 = .ok (.invokestatic 98, 3) := by decide +kernel
theorem d_X9_report_6 : decode prog_1_method_34_code 6 = .ok (.ifCond .eq 12, 3) := by decide +kernel
theorem d_X9_report_9 : decode prog_1_method_34_code 9 = .ok (.iload_n 2, 1) := by decide +kernel
theorem d_X9_report_10 : decode prog_1_method_34_code 10 = .ok (.iconst 0, 1) := by decide +kernel
theorem d_X9_report_11 : decode prog_1_method_34_code 11 = .ok (.iconst 1, 1) := by decide +kernel
theorem d_X9_report_12 : decode prog_1_method_34_code 12 = .ok (.invokestatic 98, 3) := by decide +kernel
theorem d_X9_report_15 : decode prog_1_method_34_code 15 = .ok (.ifCond .ne 5, 3) := by decide +kernel
theorem d_X9_report_18 : decode prog_1_method_34_code 18 = .ok (.iconst (-1), 1) := by decide +kernel
theorem d_X9_report_19 : decode prog_1_method_34_code 19 = .ok (.ireturn, 1) := by decide +kernel
theorem d_X9_report_20 : decode prog_1_method_34_code 20 = .ok (.aload_n 0, 1) := by decide +kernel
theorem d_X9_report_21 : decode prog_1_method_34_code 21 = .ok (.getfield 12, 3) := by decide +kernel
theorem d_X9_report_24 : decode prog_1_method_34_code 24 = .ok (.getfield 261, 3) := by decide +kernel
theorem d_X9_report_27 : decode prog_1_method_34_code 27 = .ok (.bipush 6, 2) := by decide +kernel
theorem d_X9_report_29 : decode prog_1_method_34_code 29 = .ok (.if_icmp .lt 6, 3) := by decide +kernel
theorem d_X9_report_32 : decode prog_1_method_34_code 32 = .ok (.bipush (-2), 2) := by decide +kernel
theorem d_X9_report_34 : decode prog_1_method_34_code 34 = .ok (.ireturn, 1) := by decide +kernel
theorem d_X9_report_35 : decode prog_1_method_34_code 35 = .ok (.aload_n 0, 1) := by decide +kernel
theorem d_X9_report_36 : decode prog_1_method_34_code 36 = .ok (.getfield 12, 3) := by decide +kernel
theorem d_X9_report_39 : decode prog_1_method_34_code 39 = .ok (.getfield 261, 3) := by decide +kernel
theorem d_X9_report_42 : decode prog_1_method_34_code 42 = .ok (.istore_n 3, 1) := by decide +kernel
theorem d_X9_report_43 : decode prog_1_method_34_code 43 = .ok (.aload_n 0, 1) := by decide +kernel
theorem d_X9_report_44 : decode prog_1_method_34_code 44 = .ok (.getfield 12, 3) := by decide +kernel
theorem d_X9_report_47 : decode prog_1_method_34_code 47 = .ok (.getfield 264, 3) := by decide +kernel
theorem d_X9_report_50 : decode prog_1_method_34_code 50 = .ok (.iload_n 3, 1) := by decide +kernel
theorem d_X9_report_51 : decode prog_1_method_34_code 51 = .ok (.iload_n 1, 1) := by decide +kernel
theorem d_X9_report_52 : decode prog_1_method_34_code 52 = .ok (.iastore, 1) := by decide +kernel
theorem d_X9_report_53 : decode prog_1_method_34_code 53 = .ok (.aload_n 0, 1) := by decide +kernel
theorem d_X9_report_54 : decode prog_1_method_34_code 54 = .ok (.getfield 12, 3) := by decide +kernel
theorem d_X9_report_57 : decode prog_1_method_34_code 57 = .ok (.getfield 267, 3) := by decide +kernel
theorem d_X9_report_60 : decode prog_1_method_34_code 60 = .ok (.iload_n 3, 1) := by decide +kernel
theorem d_X9_report_61 : decode prog_1_method_34_code 61 = .ok (.iload_n 2, 1) := by decide +kernel
theorem d_X9_report_62 : decode prog_1_method_34_code 62 = .ok (.iastore, 1) := by decide +kernel
theorem d_X9_report_63 : decode prog_1_method_34_code 63 = .ok (.aload_n 0, 1) := by decide +kernel
theorem d_X9_report_64 : decode prog_1_method_34_code 64 = .ok (.getfield 12, 3) := by decide +kernel
theorem d_X9_report_67 : decode prog_1_method_34_code 67 = .ok (.dup, 1) := by decide +kernel
theorem d_X9_report_68 : decode prog_1_method_34_code 68 = .ok (.getfield 261, 3) := by decide +kernel
theorem d_X9_report_71 : decode prog_1_method_34_code 71 = .ok (.iconst 1, 1) := by decide +kernel
theorem d_X9_report_72 : decode prog_1_method_34_code 72 = .ok (.iadd, 1) := by decide +kernel
theorem d_X9_report_73 : decode prog_1_method_34_code 73 = .ok (.putfield 261, 3) := by decide +kernel
theorem d_X9_report_76 : decode prog_1_method_34_code 76 = .ok (.iload_n 3, 1) := by decide +kernel
theorem d_X9_report_77 : decode prog_1_method_34_code 77 = .ok (.ireturn, 1) := by decide +kernel
theorem d_X9_forget_0 : decode prog_1_method_35_code 0 = .ok (.aload_n 0, 1) := by decide +kernel
theorem d_X9_forget_1 : decode prog_1_method_35_code 1 = .ok (.getfield 12, 3) := by decide +kernel
theorem d_X9_forget_4 : decode prog_1_method_35_code 4 = .ok (.getfield 261, 3) := by decide +kernel
theorem d_X9_forget_7 : decode prog_1_method_35_code 7 = .ok (.istore_n 1, 1) := by decide +kernel
theorem d_X9_forget_8 : decode prog_1_method_35_code 8 = .ok (.aload_n 0, 1) := by decide +kernel
theorem d_X9_forget_9 : decode prog_1_method_35_code 9 = .ok (.getfield 12, 3) := by decide +kernel
theorem d_X9_forget_12 : decode prog_1_method_35_code 12 = .ok (.iconst 0, 1) := by decide +kernel
theorem d_X9_forget_13 : decode prog_1_method_35_code 13 = .ok (.putfield 261, 3) := by decide +kernel
theorem d_X9_forget_16 : decode prog_1_method_35_code 16 = .ok (.iload_n 1, 1) := by decide +kernel
theorem d_X9_forget_17 : decode prog_1_method_35_code 17 = .ok (.ireturn, 1) := by decide +kernel
theorem d_X9_span_0 : decode prog_1_method_36_code 0 = .ok (.iload_n 1, 1) := by decide +kernel
theorem d_X9_span_1 : decode prog_1_method_36_code 1 = .ok (.iconst 0, 1) := by decide +kernel
theorem d_X9_span_2 : decode prog_1_method_36_code 2 = .ok (.iconst 2, 1) := by decide +kernel
theorem d_X9_span_3 : decode prog_1_method_36_code 3 = .ok (.invokestatic 98, 3) := by decide +kernel
theorem d_X9_span_6 : decode prog_1_method_36_code 6 = .ok (.ifCond .ne 5, 3) := by decide +kernel
theorem d_X9_span_9 : decode prog_1_method_36_code 9 = .ok (.iconst (-1), 1) := by decide +kernel
theorem d_X9_span_10 : decode prog_1_method_36_code 10 = .ok (.ireturn, 1) := by decide +kernel
theorem d_X9_span_11 : decode prog_1_method_36_code 11 = .ok (.aload_n 0, 1) := by decide +kernel
theorem d_X9_span_12 : decode prog_1_method_36_code 12 = .ok (.invokevirtual 270, 3) := by decide +kernel
theorem d_X9_span_15 : decode prog_1_method_36_code 15 = .ok (.aload_n 0, 1) := by decide +kernel
theorem d_X9_span_16 : decode prog_1_method_36_code 16 = .ok (.bipush (-3), 2) := by decide +kernel
theorem d_X9_span_18 : decode prog_1_method_36_code 18 = .ok (.invokevirtual 273, 3) := by decide +kernel
theorem d_X9_span_21 : decode prog_1_method_36_code 21 = .ok (.istore_n 2, 1) := by decide +kernel
theorem d_X9_span_22 : decode prog_1_method_36_code 22 = .ok (.iload_n 1, 1) := by decide +kernel
theorem d_X9_span_23 : decode prog_1_method_36_code 23 = .ok (.ifCond .ne 8, 3) := by decide +kernel
theorem d_X9_span_26 : decode prog_1_method_36_code 26 = .ok (.iload_n 2, 1) := by decide +kernel
theorem d_X9_span_27 : decode prog_1_method_36_code 27 = .ok (.invokestatic 276, 3) := by decide +kernel
theorem d_X9_span_30 : decode prog_1_method_36_code 30 = .ok (.ireturn, 1) := by decide +kernel
theorem d_X9_span_31 : decode prog_1_method_36_code 31 = .ok (.iload_n 2, 1) := by decide +kernel
theorem d_X9_span_32 : decode prog_1_method_36_code 32 = .ok (.ifCond .ne 6, 3) := by decide +kernel
theorem d_X9_span_35 : decode prog_1_method_36_code 35 = .ok (.bipush (-3), 2) := by decide +kernel
theorem d_X9_span_37 : decode prog_1_method_36_code 37 = .ok (.ireturn, 1) := by decide +kernel
theorem d_X9_span_38 : decode prog_1_method_36_code 38 = .ok (.bipush 10, 2) := by decide +kernel
theorem d_X9_span_40 : decode prog_1_method_36_code 40 = .ok (.iload_n 1, 1) := by decide +kernel
theorem d_X9_span_41 : decode prog_1_method_36_code 41 = .ok (.iconst 1, 1) := by decide +kernel
theorem d_X9_span_42 : decode prog_1_method_36_code 42 = .ok (.if_icmp .ne 10, 3) := by decide +kernel
theorem d_X9_span_45 : decode prog_1_method_36_code 45 = .ok (.iload_n 2, 1) := by decide +kernel
theorem d_X9_span_46 : decode prog_1_method_36_code 46 = .ok (.invokestatic 281, 3) := by decide +kernel
theorem d_X9_span_49 : decode prog_1_method_36_code 49 = .ok (.goto 7, 3) := by decide +kernel
theorem d_X9_span_52 : decode prog_1_method_36_code 52 = .ok (.iload_n 2, 1) := by decide +kernel
theorem d_X9_span_53 : decode prog_1_method_36_code 53 = .ok (.invokestatic 284, 3) := by decide +kernel
theorem d_X9_span_56 : decode prog_1_method_36_code 56 = .ok (.iadd, 1) := by decide +kernel
theorem d_X9_span_57 : decode prog_1_method_36_code 57 = .ok (.ireturn, 1) := by decide +kernel
theorem d_X9_liar_0 : decode prog_1_method_37_code 0 = .ok (.aload_n 0, 1) := by decide +kernel
theorem d_X9_liar_1 : decode prog_1_method_37_code 1 = .ok (.invokevirtual 270, 3) := by decide +kernel
theorem d_X9_liar_4 : decode prog_1_method_37_code 4 = .ok (.aload_n 0, 1) := by decide +kernel
theorem d_X9_liar_5 : decode prog_1_method_37_code 5 = .ok (.bipush (-3), 2) := by decide +kernel
theorem d_X9_liar_7 : decode prog_1_method_37_code 7 = .ok (.invokevirtual 273, 3) := by decide +kernel
theorem d_X9_liar_10 : decode prog_1_method_37_code 10 = .ok (.ifCond .eq 6, 3) := by decide +kernel
theorem d_X9_liar_13 : decode prog_1_method_37_code 13 = .ok (.bipush (-3), 2) := by decide +kernel
theorem d_X9_liar_15 : decode prog_1_method_37_code 15 = .ok (.ireturn, 1) := by decide +kernel
theorem d_X9_liar_16 : decode prog_1_method_37_code 16 = .ok (.iconst 0, 1) := by decide +kernel
theorem d_X9_liar_17 : decode prog_1_method_37_code 17 = .ok (.istore_n 1, 1) := by decide +kernel
theorem d_X9_liar_18 : decode prog_1_method_37_code 18 = .ok (.iload_n 1, 1) := by decide +kernel
theorem d_X9_liar_19 : decode prog_1_method_37_code 19 = .ok (.aload_n 0, 1) := by decide +kernel
theorem d_X9_liar_20 : decode prog_1_method_37_code 20 = .ok (.getfield 12, 3) := by decide +kernel
theorem d_X9_liar_23 : decode prog_1_method_37_code 23 = .ok (.getfield 261, 3) := by decide +kernel
theorem d_X9_liar_26 : decode prog_1_method_37_code 26 = .ok (.if_icmp .ge 19, 3) := by decide +kernel
theorem d_X9_liar_29 : decode prog_1_method_37_code 29 = .ok (.aload_n 0, 1) := by decide +kernel
theorem d_X9_liar_30 : decode prog_1_method_37_code 30 = .ok (.iload_n 1, 1) := by decide +kernel
theorem d_X9_liar_31 : decode prog_1_method_37_code 31 = .ok (.invokevirtual 273, 3) := by decide +kernel
theorem d_X9_liar_34 : decode prog_1_method_37_code 34 = .ok (.ifCond .eq 5, 3) := by decide +kernel
theorem d_X9_liar_37 : decode prog_1_method_37_code 37 = .ok (.iload_n 1, 1) := by decide +kernel
theorem d_X9_liar_38 : decode prog_1_method_37_code 38 = .ok (.ireturn, 1) := by decide +kernel
theorem d_X9_liar_39 : decode prog_1_method_37_code 39 = .ok (.iinc 1 1, 3) := by decide +kernel
theorem d_X9_liar_42 : decode prog_1_method_37_code 42 = .ok (.goto (-24), 3) := by decide +kernel
theorem d_X9_liar_45 : decode prog_1_method_37_code 45 = .ok (.bipush (-3), 2) := by decide +kernel
theorem d_X9_liar_47 : decode prog_1_method_37_code 47 = .ok (.ireturn, 1) := by decide +kernel
theorem d_X9_seed_0 : decode prog_1_method_38_code 0 = .ok (.aload_n 0, 1) := by decide +kernel
theorem d_X9_seed_1 : decode prog_1_method_38_code 1 = .ok (.getfield 12, 3) := by decide +kernel
theorem d_X9_seed_4 : decode prog_1_method_38_code 4 = .ok (.getfield 287, 3) := by decide +kernel
theorem d_X9_seed_7 : decode prog_1_method_38_code 7 = .ok (.istore_n 2, 1) := by decide +kernel
theorem d_X9_seed_8 : decode prog_1_method_38_code 8 = .ok (.aload_n 0, 1) := by decide +kernel
theorem d_X9_seed_9 : decode prog_1_method_38_code 9 = .ok (.getfield 12, 3) := by decide +kernel
theorem d_X9_seed_12 : decode prog_1_method_38_code 12 = .ok (.iload_n 1, 1) := by decide +kernel
theorem d_X9_seed_13 : decode prog_1_method_38_code 13 = .ok (.putfield 287, 3) := by decide +kernel
theorem d_X9_seed_16 : decode prog_1_method_38_code 16 = .ok (.iload_n 2, 1) := by decide +kernel
theorem d_X9_seed_17 : decode prog_1_method_38_code 17 = .ok (.ireturn, 1) := by decide +kernel
theorem d_X9_draw_0 : decode prog_1_method_39_code 0 = .ok (.aload_n 0, 1) := by decide +kernel
theorem d_X9_draw_1 : decode prog_1_method_39_code 1 = .ok (.getfield 12, 3) := by decide +kernel
theorem d_X9_draw_4 : decode prog_1_method_39_code 4 = .ok (.invokevirtual 290, 3) := by decide +kernel
theorem d_X9_draw_7 : decode prog_1_method_39_code 7 = .ok (.ireturn, 1) := by decide +kernel
theorem d_X9_often_0 : decode prog_1_method_40_code 0 = .ok (.iload_n 1, 1) := by decide +kernel
theorem d_X9_often_1 : decode prog_1_method_40_code 1 = .ok (.iconst 1, 1) := by decide +kernel
theorem d_X9_often_2 : decode prog_1_method_40_code 2 = .ok (.bipush 60, 2) := by decide +kernel
theorem d_X9_often_4 : decode prog_1_method_40_code 4 = .ok (.invokestatic 98, 3) := by decide +kernel
theorem d_X9_often_7 : decode prog_1_method_40_code 7 = .ok (.ifCond .ne 5, 3) := by decide +kernel
theorem d_X9_often_10 : decode prog_1_method_40_code 10 = .ok (.iconst (-1), 1) := by decide +kernel
theorem d_X9_often_11 : decode prog_1_method_40_code 11 = .ok (.ireturn, 1) := by decide +kernel
theorem d_X9_often_12 : decode prog_1_method_40_code 12 = .ok (.aload_n 0, 1) := by decide +kernel
theorem d_X9_often_13 : decode prog_1_method_40_code 13 = .ok (.getfield 19, 3) := by decide +kernel
theorem d_X9_often_16 : decode prog_1_method_40_code 16 = .ok (.aload_n 0, 1) := by decide +kernel
theorem d_X9_often_17 : decode prog_1_method_40_code 17 = .ok (.getfield 12, 3) := by decide +kernel
theorem d_X9_often_20 : decode prog_1_method_40_code 20 = .ok (.invokevirtual 207, 3) := by decide +kernel
theorem d_X9_often_23 : decode prog_1_method_40_code 23 = .ok (.aload_n 0, 1) := by decide +kernel
theorem d_X9_often_24 : decode prog_1_method_40_code 24 = .ok (.getfield 32, 3) := by decide +kernel
theorem d_X9_often_27 : decode prog_1_method_40_code 27 = .ok (.aload_n 0, 1) := by decide +kernel
theorem d_X9_often_28 : decode prog_1_method_40_code 28 = .ok (.getfield 19, 3) := by decide +kernel
theorem d_X9_often_31 : decode prog_1_method_40_code 31 = .ok (.invokevirtual 121, 3) := by decide +kernel
theorem d_X9_often_34 : decode prog_1_method_40_code 34 = .ok (.iconst 0, 1) := by decide +kernel
theorem d_X9_often_35 : decode prog_1_method_40_code 35 = .ok (.istore_n 2, 1) := by decide +kernel
theorem d_X9_often_36 : decode prog_1_method_40_code 36 = .ok (.iconst 0, 1) := by decide +kernel
theorem d_X9_often_37 : decode prog_1_method_40_code 37 = .ok (.istore_n 3, 1) := by decide +kernel
theorem d_X9_often_38 : decode prog_1_method_40_code 38 = .ok (.iload_n 3, 1) := by decide +kernel
theorem d_X9_often_39 : decode prog_1_method_40_code 39 = .ok (.iload_n 1, 1) := by decide +kernel
theorem d_X9_often_40 : decode prog_1_method_40_code 40 = .ok (.if_icmp .ge 47, 3) := by decide +kernel
theorem d_X9_often_43 : decode prog_1_method_40_code 43 = .ok (.aload_n 0, 1) := by decide +kernel
theorem d_X9_often_44 : decode prog_1_method_40_code 44 = .ok (.getfield 19, 3) := by decide +kernel
theorem d_X9_often_47 : decode prog_1_method_40_code 47 = .ok (.invokevirtual 290, 3) := by decide +kernel
theorem d_X9_often_50 : decode prog_1_method_40_code 50 = .ok (.bipush (-3), 2) := by decide +kernel
theorem d_X9_often_52 : decode prog_1_method_40_code 52 = .ok (.if_icmp .ne 5, 3) := by decide +kernel
theorem d_X9_often_55 : decode prog_1_method_40_code 55 = .ok (.iconst 0, 1) := by decide +kernel
theorem d_X9_often_56 : decode prog_1_method_40_code 56 = .ok (.ireturn, 1) := by decide +kernel
theorem d_X9_often_57 : decode prog_1_method_40_code 57 = .ok (.aload_n 0, 1) := by decide +kernel
theorem d_X9_often_58 : decode prog_1_method_40_code 58 = .ok (.getfield 32, 3) := by decide +kernel
theorem d_X9_often_61 : decode prog_1_method_40_code 61 = .ok (.aload_n 0, 1) := by decide +kernel
theorem d_X9_often_62 : decode prog_1_method_40_code 62 = .ok (.getfield 19, 3) := by decide +kernel
theorem d_X9_often_65 : decode prog_1_method_40_code 65 = .ok (.invokevirtual 210, 3) := by decide +kernel
theorem d_X9_often_68 : decode prog_1_method_40_code 68 = .ok (.aload_n 0, 1) := by decide +kernel
theorem d_X9_often_69 : decode prog_1_method_40_code 69 = .ok (.getfield 32, 3) := by decide +kernel
theorem d_X9_often_72 : decode prog_1_method_40_code 72 = .ok (.invokevirtual 184, 3) := by decide +kernel
theorem d_X9_often_75 : decode prog_1_method_40_code 75 = .ok (.ifCond .eq 6, 3) := by decide +kernel
theorem d_X9_often_78 : decode prog_1_method_40_code 78 = .ok (.iinc 2 1, 3) := by decide +kernel
theorem d_X9_often_81 : decode prog_1_method_40_code 81 = .ok (.iinc 3 1, 3) := by decide +kernel
theorem d_X9_often_84 : decode prog_1_method_40_code 84 = .ok (.goto (-46), 3) := by decide +kernel
theorem d_X9_often_87 : decode prog_1_method_40_code 87 = .ok (.iload_n 2, 1) := by decide +kernel
theorem d_X9_often_88 : decode prog_1_method_40_code 88 = .ok (.ireturn, 1) := by decide +kernel
theorem d_X9_prove_0 : decode prog_1_method_41_code 0 = .ok (.iload_n 1, 1) := by decide +kernel
theorem d_X9_prove_1 : decode prog_1_method_41_code 1 = .ok (.invokestatic 95, 3) := by decide +kernel
theorem d_X9_prove_4 : decode prog_1_method_41_code 4 = .ok (.ifCond .ne 5, 3) := by decide +kernel
theorem d_X9_prove_7 : decode prog_1_method_41_code 7 = .ok (.iconst (-1), 1) := by decide +kernel
theorem d_X9_prove_8 : decode prog_1_method_41_code 8 = .ok (.ireturn, 1) := by decide +kernel
theorem d_X9_prove_9 : decode prog_1_method_41_code 9 = .ok (.aload_n 0, 1) := by decide +kernel
theorem d_X9_prove_10 : decode prog_1_method_41_code 10 = .ok (.invokevirtual 168, 3) := by decide +kernel
theorem d_X9_prove_13 : decode prog_1_method_41_code 13 = .ok (.aload_n 0, 1) := by decide +kernel
theorem d_X9_prove_14 : decode prog_1_method_41_code 14 = .ok (.aload_n 0, 1) := by decide +kernel
theorem d_X9_prove_15 : decode prog_1_method_41_code 15 = .ok (.getfield 12, 3) := by decide +kernel
theorem d_X9_prove_18 : decode prog_1_method_41_code 18 = .ok (.getfield 191, 3) := by decide +kernel
theorem d_X9_prove_21 : decode prog_1_method_41_code 21 = .ok (.iconst 2, 1) := by decide +kernel
theorem d_X9_prove_22 : decode prog_1_method_41_code 22 = .ok (.iadd, 1) := by decide +kernel
theorem d_X9_prove_23 : decode prog_1_method_41_code 23 = .ok (.putfield 293, 3) := by decide +kernel
theorem d_X9_prove_26 : decode prog_1_method_41_code 26 = .ok (.iconst 0, 1) := by decide +kernel
theorem d_X9_prove_27 : decode prog_1_method_41_code 27 = .ok (.istore_n 2, 1) := by decide +kernel
theorem d_X9_prove_28 : decode prog_1_method_41_code 28 = .ok (.iload_n 2, 1) := by decide +kernel
theorem d_X9_prove_29 : decode prog_1_method_41_code 29 = .ok (.aload_n 0, 1) := by decide +kernel
theorem d_X9_prove_30 : decode prog_1_method_41_code 30 = .ok (.getfield 293, 3) := by decide +kernel
theorem d_X9_prove_33 : decode prog_1_method_41_code 33 = .ok (.if_icmp .ge 60, 3) := by decide +kernel
theorem d_X9_prove_36 : decode prog_1_method_41_code 36 = .ok (.aload_n 0, 1) := by decide +kernel
theorem d_X9_prove_37 : decode prog_1_method_41_code 37 = .ok (.getfield 63, 3) := by decide +kernel
theorem d_X9_prove_40 : decode prog_1_method_41_code 40 = .ok (.iconst 3, 1) := by decide +kernel
theorem d_X9_prove_41 : decode prog_1_method_41_code 41 = .ok (.iload_n 2, 1) := by decide +kernel
theorem d_X9_prove_42 : decode prog_1_method_41_code 42 = .ok (.imul, 1) := by decide +kernel
theorem d_X9_prove_43 : decode prog_1_method_41_code 43 = .ok (.aload_n 0, 1) := by decide +kernel
theorem d_X9_prove_44 : decode prog_1_method_41_code 44 = .ok (.iload_n 2, 1) := by decide +kernel
theorem d_X9_prove_45 : decode prog_1_method_41_code 45 = .ok (.invokevirtual 296, 3) := by decide +kernel
theorem d_X9_prove_48 : decode prog_1_method_41_code 48 = .ok (.iastore, 1) := by decide +kernel
theorem d_X9_prove_49 : decode prog_1_method_41_code 49 = .ok (.aload_n 0, 1) := by decide +kernel
theorem d_X9_prove_50 : decode prog_1_method_41_code 50 = .ok (.getfield 63, 3) := by decide +kernel
theorem d_X9_prove_53 : decode prog_1_method_41_code 53 = .ok (.iconst 3, 1) := by decide +kernel
theorem d_X9_prove_54 : decode prog_1_method_41_code 54 = .ok (.iload_n 2, 1) := by decide +kernel
theorem d_X9_prove_55 : decode prog_1_method_41_code 55 = .ok (.imul, 1) := by decide +kernel
theorem d_X9_prove_56 : decode prog_1_method_41_code 56 = .ok (.iconst 1, 1) := by decide +kernel
theorem d_X9_prove_57 : decode prog_1_method_41_code 57 = .ok (.iadd, 1) := by decide +kernel
theorem d_X9_prove_58 : decode prog_1_method_41_code 58 = .ok (.aload_n 0, 1) := by decide +kernel
theorem d_X9_prove_59 : decode prog_1_method_41_code 59 = .ok (.getfield 32, 3) := by decide +kernel
theorem d_X9_prove_62 : decode prog_1_method_41_code 62 = .ok (.iload_n 2, 1) := by decide +kernel
theorem d_X9_prove_63 : decode prog_1_method_41_code 63 = .ok (.iload_n 1, 1) := by decide +kernel
theorem d_X9_prove_64 : decode prog_1_method_41_code 64 = .ok (.invokevirtual 299, 3) := by decide +kernel
theorem d_X9_prove_67 : decode prog_1_method_41_code 67 = .ok (.iastore, 1) := by decide +kernel
theorem d_X9_prove_68 : decode prog_1_method_41_code 68 = .ok (.aload_n 0, 1) := by decide +kernel
theorem d_X9_prove_69 : decode prog_1_method_41_code 69 = .ok (.getfield 63, 3) := by decide +kernel
theorem d_X9_prove_72 : decode prog_1_method_41_code 72 = .ok (.iconst 3, 1) := by decide +kernel
theorem d_X9_prove_73 : decode prog_1_method_41_code 73 = .ok (.iload_n 2, 1) := by decide +kernel
theorem d_X9_prove_74 : decode prog_1_method_41_code 74 = .ok (.imul, 1) := by decide +kernel
theorem d_X9_prove_75 : decode prog_1_method_41_code 75 = .ok (.iconst 2, 1) := by decide +kernel
theorem d_X9_prove_76 : decode prog_1_method_41_code 76 = .ok (.iadd, 1) := by decide +kernel
theorem d_X9_prove_77 : decode prog_1_method_41_code 77 = .ok (.aload_n 0, 1) := by decide +kernel
theorem d_X9_prove_78 : decode prog_1_method_41_code 78 = .ok (.getfield 32, 3) := by decide +kernel
theorem d_X9_prove_81 : decode prog_1_method_41_code 81 = .ok (.iload_n 2, 1) := by decide +kernel
theorem d_X9_prove_82 : decode prog_1_method_41_code 82 = .ok (.iload_n 1, 1) := by decide +kernel
theorem d_X9_prove_83 : decode prog_1_method_41_code 83 = .ok (.invokevirtual 303, 3) := by decide +kernel
theorem d_X9_prove_86 : decode prog_1_method_41_code 86 = .ok (.iastore, 1) := by decide +kernel
theorem d_X9_prove_87 : decode prog_1_method_41_code 87 = .ok (.iinc 2 1, 3) := by decide +kernel
theorem d_X9_prove_90 : decode prog_1_method_41_code 90 = .ok (.goto (-62), 3) := by decide +kernel
theorem d_X9_prove_93 : decode prog_1_method_41_code 93 = .ok (.aload_n 0, 1) := by decide +kernel
theorem d_X9_prove_94 : decode prog_1_method_41_code 94 = .ok (.getfield 293, 3) := by decide +kernel
theorem d_X9_prove_97 : decode prog_1_method_41_code 97 = .ok (.ireturn, 1) := by decide +kernel
theorem d_X9_row_0 : decode prog_1_method_42_code 0 = .ok (.aload_n 0, 1) := by decide +kernel
theorem d_X9_row_1 : decode prog_1_method_42_code 1 = .ok (.iload_n 1, 1) := by decide +kernel
theorem d_X9_row_2 : decode prog_1_method_42_code 2 = .ok (.iload_n 2, 1) := by decide +kernel
theorem d_X9_row_3 : decode prog_1_method_42_code 3 = .ok (.invokevirtual 306, 3) := by decide +kernel
theorem d_X9_row_6 : decode prog_1_method_42_code 6 = .ok (.ifCond .eq 16, 3) := by decide +kernel
theorem d_X9_row_9 : decode prog_1_method_42_code 9 = .ok (.aload_n 0, 1) := by decide +kernel
theorem d_X9_row_10 : decode prog_1_method_42_code 10 = .ok (.getfield 63, 3) := by decide +kernel
theorem d_X9_row_13 : decode prog_1_method_42_code 13 = .ok (.iconst 3, 1) := by decide +kernel
theorem d_X9_row_14 : decode prog_1_method_42_code 14 = .ok (.iload_n 1, 1) := by decide +kernel
theorem d_X9_row_15 : decode prog_1_method_42_code 15 = .ok (.imul, 1) := by decide +kernel
theorem d_X9_row_16 : decode prog_1_method_42_code 16 = .ok (.iload_n 2, 1) := by decide +kernel
theorem d_X9_row_17 : decode prog_1_method_42_code 17 = .ok (.iadd, 1) := by decide +kernel
theorem d_X9_row_18 : decode prog_1_method_42_code 18 = .ok (.iaload, 1) := by decide +kernel
theorem d_X9_row_19 : decode prog_1_method_42_code 19 = .ok (.goto 5, 3) := by decide +kernel
theorem d_X9_row_22 : decode prog_1_method_42_code 22 = .ok (.bipush (-9), 2) := by decide +kernel
theorem d_X9_row_24 : decode prog_1_method_42_code 24 = .ok (.ireturn, 1) := by decide +kernel
theorem d_X9_alterRow_0 : decode prog_1_method_43_code 0 = .ok (.aload_n 0, 1) := by decide +kernel
theorem d_X9_alterRow_1 : decode prog_1_method_43_code 1 = .ok (.iload_n 1, 1) := by decide +kernel
theorem d_X9_alterRow_2 : decode prog_1_method_43_code 2 = .ok (.iload_n 2, 1) := by decide +kernel
theorem d_X9_alterRow_3 : decode prog_1_method_43_code 3 = .ok (.invokevirtual 306, 3) := by decide +kernel
theorem d_X9_alterRow_6 : decode prog_1_method_43_code 6 = .ok (.ifCond .eq 21, 3) := by decide +kernel
theorem d_X9_alterRow_9 : decode prog_1_method_43_code 9 = .ok (.iconst 1, 1) := by decide +kernel
theorem d_X9_alterRow_10 : decode prog_1_method_43_code 10 = .ok (.aload_n 0, 1) := by decide +kernel
theorem d_X9_alterRow_11 : decode prog_1_method_43_code 11 = .ok (.getfield 63, 3) := by decide +kernel
theorem d_X9_alterRow_14 : decode prog_1_method_43_code 14 = .ok (.iconst 3, 1) := by decide +kernel
theorem d_X9_alterRow_15 : decode prog_1_method_43_code 15 = .ok (.iload_n 1, 1) := by decide +kernel
theorem d_X9_alterRow_16 : decode prog_1_method_43_code 16 = .ok (.imul, 1) := by decide +kernel
theorem d_X9_alterRow_17 : decode prog_1_method_43_code 17 = .ok (.iload_n 2, 1) := by decide +kernel
theorem d_X9_alterRow_18 : decode prog_1_method_43_code 18 = .ok (.iadd, 1) := by decide +kernel
theorem d_X9_alterRow_19 : decode prog_1_method_43_code 19 = .ok (.iload_n 3, 1) := by decide +kernel
theorem d_X9_alterRow_20 : decode prog_1_method_43_code 20 = .ok (.invokestatic 132, 3) := by decide +kernel
theorem d_X9_alterRow_23 : decode prog_1_method_43_code 23 = .ok (.iadd, 1) := by decide +kernel
theorem d_X9_alterRow_24 : decode prog_1_method_43_code 24 = .ok (.goto 4, 3) := by decide +kernel
theorem d_X9_alterRow_27 : decode prog_1_method_43_code 27 = .ok (.iconst 0, 1) := by decide +kernel
theorem d_X9_alterRow_28 : decode prog_1_method_43_code 28 = .ok (.ireturn, 1) := by decide +kernel
theorem d_X9_judge_0 : decode prog_1_method_44_code 0 = .ok (.aload_n 0, 1) := by decide +kernel
theorem d_X9_judge_1 : decode prog_1_method_44_code 1 = .ok (.getfield 293, 3) := by decide +kernel
theorem d_X9_judge_4 : decode prog_1_method_44_code 4 = .ok (.ifCond .ne 5, 3) := by decide +kernel
theorem d_X9_judge_7 : decode prog_1_method_44_code 7 = .ok (.iconst 0, 1) := by decide +kernel
theorem d_X9_judge_8 : decode prog_1_method_44_code 8 = .ok (.ireturn, 1) := by decide +kernel
theorem d_X9_judge_9 : decode prog_1_method_44_code 9 = .ok (.aload_n 0, 1) := by decide +kernel
theorem d_X9_judge_10 : decode prog_1_method_44_code 10 = .ok (.getfield 63, 3) := by decide +kernel
theorem d_X9_judge_13 : decode prog_1_method_44_code 13 = .ok (.iconst 1, 1) := by decide +kernel
theorem d_X9_judge_14 : decode prog_1_method_44_code 14 = .ok (.iaload, 1) := by decide +kernel
theorem d_X9_judge_15 : decode prog_1_method_44_code 15 = .ok (.istore_n 1, 1) := by decide +kernel
theorem d_X9_judge_16 : decode prog_1_method_44_code 16 = .ok (.aload_n 0, 1) := by decide +kernel
theorem d_X9_judge_17 : decode prog_1_method_44_code 17 = .ok (.getfield 63, 3) := by decide +kernel
theorem d_X9_judge_20 : decode prog_1_method_44_code 20 = .ok (.iconst 0, 1) := by decide +kernel
theorem d_X9_judge_21 : decode prog_1_method_44_code 21 = .ok (.iaload, 1) := by decide +kernel
theorem d_X9_judge_22 : decode prog_1_method_44_code 22 = .ok (.bipush (-9), 2) := by decide +kernel
theorem d_X9_judge_24 : decode prog_1_method_44_code 24 = .ok (.if_icmp .ne 19, 3) := by decide +kernel
theorem d_X9_judge_27 : decode prog_1_method_44_code 27 = .ok (.iload_n 1, 1) := by decide +kernel
theorem d_X9_judge_28 : decode prog_1_method_44_code 28 = .ok (.invokestatic 95, 3) := by decide +kernel
theorem d_X9_judge_31 : decode prog_1_method_44_code 31 = .ok (.ifCond .eq 12, 3) := by decide +kernel
theorem d_X9_judge_34 : decode prog_1_method_44_code 34 = .ok (.aload_n 0, 1) := by decide +kernel
theorem d_X9_judge_35 : decode prog_1_method_44_code 35 = .ok (.getfield 63, 3) := by decide +kernel
theorem d_X9_judge_38 : decode prog_1_method_44_code 38 = .ok (.iconst 2, 1) := by decide +kernel
theorem d_X9_judge_39 : decode prog_1_method_44_code 39 = .ok (.iaload, 1) := by decide +kernel
theorem d_X9_judge_40 : decode prog_1_method_44_code 40 = .ok (.ifCond .eq 5, 3) := by decide +kernel
theorem d_X9_judge_43 : decode prog_1_method_44_code 43 = .ok (.iconst 1, 1) := by decide +kernel
theorem d_X9_judge_44 : decode prog_1_method_44_code 44 = .ok (.ireturn, 1) := by decide +kernel
theorem d_X9_judge_45 : decode prog_1_method_44_code 45 = .ok (.aload_n 0, 1) := by decide +kernel
theorem d_X9_judge_46 : decode prog_1_method_44_code 46 = .ok (.invokevirtual 168, 3) := by decide +kernel
theorem d_X9_judge_49 : decode prog_1_method_44_code 49 = .ok (.iconst 1, 1) := by decide +kernel
theorem d_X9_judge_50 : decode prog_1_method_44_code 50 = .ok (.istore_n 2, 1) := by decide +kernel
theorem d_X9_judge_51 : decode prog_1_method_44_code 51 = .ok (.iload_n 2, 1) := by decide +kernel
theorem d_X9_judge_52 : decode prog_1_method_44_code 52 = .ok (.aload_n 0, 1) := by decide +kernel
theorem d_X9_judge_53 : decode prog_1_method_44_code 53 = .ok (.getfield 293, 3) := by decide +kernel
theorem d_X9_judge_56 : decode prog_1_method_44_code 56 = .ok (.if_icmp .ge 22, 3) := by decide +kernel
theorem d_X9_judge_59 : decode prog_1_method_44_code 59 = .ok (.aload_n 0, 1) := by decide +kernel
theorem d_X9_judge_60 : decode prog_1_method_44_code 60 = .ok (.iload_n 2, 1) := by decide +kernel
theorem d_X9_judge_61 : decode prog_1_method_44_code 61 = .ok (.iload_n 1, 1) := by decide +kernel
theorem d_X9_judge_62 : decode prog_1_method_44_code 62 = .ok (.invokevirtual 309, 3) := by decide +kernel
theorem d_X9_judge_65 : decode prog_1_method_44_code 65 = .ok (.ifCond .ne 7, 3) := by decide +kernel
theorem d_X9_judge_68 : decode prog_1_method_44_code 68 = .ok (.iload_n 2, 1) := by decide +kernel
theorem d_X9_judge_69 : decode prog_1_method_44_code 69 = .ok (.iconst 1, 1) := by decide +kernel
theorem d_X9_judge_70 : decode prog_1_method_44_code 70 = .ok (.iadd, 1) := by decide +kernel
theorem d_X9_judge_71 : decode prog_1_method_44_code 71 = .ok (.ireturn, 1) := by decide +kernel
theorem d_X9_judge_72 : decode prog_1_method_44_code 72 = .ok (.iinc 2 1, 3) := by decide +kernel
theorem d_X9_judge_75 : decode prog_1_method_44_code 75 = .ok (.goto (-24), 3) := by decide +kernel
theorem d_X9_judge_78 : decode prog_1_method_44_code 78 = .ok (.iconst 0, 1) := by decide +kernel
theorem d_X9_judge_79 : decode prog_1_method_44_code 79 = .ok (.ireturn, 1) := by decide +kernel
theorem d_X9_sheet_0 : decode prog_1_method_45_code 0 = .ok (.iload_n 1, 1) := by decide +kernel
theorem d_X9_sheet_1 : decode prog_1_method_45_code 1 = .ok (.invokestatic 312, 3) := by decide +kernel
theorem d_X9_sheet_4 : decode prog_1_method_45_code 4 = .ok (.ifCond .ne 5, 3) := by decide +kernel
theorem d_X9_sheet_7 : decode prog_1_method_45_code 7 = .ok (.iconst (-1), 1) := by decide +kernel
theorem d_X9_sheet_8 : decode prog_1_method_45_code 8 = .ok (.ireturn, 1) := by decide +kernel
theorem d_X9_sheet_9 : decode prog_1_method_45_code 9 = .ok (.iload_n 2, 1) := by decide +kernel
theorem d_X9_sheet_10 : decode prog_1_method_45_code 10 = .ok (.iconst (-1), 1) := by decide +kernel
theorem d_X9_sheet_11 : decode prog_1_method_45_code 11 = .ok (.if_icmp .ne 12, 3) := by decide +kernel
theorem d_X9_sheet_14 : decode prog_1_method_45_code 14 = .ok (.aload_n 0, 1) := by decide +kernel
theorem d_X9_sheet_15 : decode prog_1_method_45_code 15 = .ok (.getfield 68, 3) := by decide +kernel
theorem d_X9_sheet_18 : decode prog_1_method_45_code 18 = .ok (.iload_n 1, 1) := by decide +kernel
theorem d_X9_sheet_19 : decode prog_1_method_45_code 19 = .ok (.aconst_null, 1) := by decide +kernel
theorem d_X9_sheet_20 : decode prog_1_method_45_code 20 = .ok (.aastore, 1) := by decide +kernel
theorem d_X9_sheet_21 : decode prog_1_method_45_code 21 = .ok (.iconst 1, 1) := by decide +kernel
theorem d_X9_sheet_22 : decode prog_1_method_45_code 22 = .ok (.ireturn, 1) := by decide +kernel
theorem d_X9_sheet_23 : decode prog_1_method_45_code 23 = .ok (.iload_n 2, 1) := by decide +kernel
theorem d_X9_sheet_24 : decode prog_1_method_45_code 24 = .ok (.invokestatic 315, 3) := by decide +kernel
theorem d_X9_sheet_27 : decode prog_1_method_45_code 27 = .ok (.ifCond .eq 9, 3) := by decide +kernel
theorem d_X9_sheet_30 : decode prog_1_method_45_code 30 = .ok (.iload_n 3, 1) := by decide +kernel
theorem d_X9_sheet_31 : decode prog_1_method_45_code 31 = .ok (.bipush 40, 2) := by decide +kernel
theorem d_X9_sheet_33 : decode prog_1_method_45_code 33 = .ok (.if_icmp .le 5, 3) := by decide +kernel
theorem d_X9_sheet_36 : decode prog_1_method_45_code 36 = .ok (.iconst (-1), 1) := by decide +kernel
theorem d_X9_sheet_37 : decode prog_1_method_45_code 37 = .ok (.ireturn, 1) := by decide +kernel
theorem d_X9_sheet_38 : decode prog_1_method_45_code 38 = .ok (.iload_n 3, 1) := by decide +kernel
theorem d_X9_sheet_39 : decode prog_1_method_45_code 39 = .ok (.ifCond .ge 6, 3) := by decide +kernel
theorem d_X9_sheet_42 : decode prog_1_method_45_code 42 = .ok (.bipush (-14), 2) := by decide +kernel
theorem d_X9_sheet_44 : decode prog_1_method_45_code 44 = .ok (.ireturn, 1) := by decide +kernel
theorem d_X9_sheet_45 : decode prog_1_method_45_code 45 = .ok (.aload_n 0, 1) := by decide +kernel
theorem d_X9_sheet_46 : decode prog_1_method_45_code 46 = .ok (.getfield 68, 3) := by decide +kernel
theorem d_X9_sheet_49 : decode prog_1_method_45_code 49 = .ok (.iload_n 1, 1) := by decide +kernel
theorem d_X9_sheet_50 : decode prog_1_method_45_code 50 = .ok (.new 66, 3) := by decide +kernel
theorem d_X9_sheet_53 : decode prog_1_method_45_code 53 = .ok (.dup, 1) := by decide +kernel
theorem d_X9_sheet_54 : decode prog_1_method_45_code 54 = .ok (.iload_n 2, 1) := by decide +kernel
theorem d_X9_sheet_55 : decode prog_1_method_45_code 55 = .ok (.iload_n 3, 1) := by decide +kernel
theorem d_X9_sheet_56 : decode prog_1_method_45_code 56 = .ok (.invokespecial 318, 3) := by decide +kernel
theorem d_X9_sheet_59 : decode prog_1_method_45_code 59 = .ok (.aastore, 1) := by decide +kernel
theorem d_X9_sheet_60 : decode prog_1_method_45_code 60 = .ok (.iconst 1, 1) := by decide +kernel
theorem d_X9_sheet_61 : decode prog_1_method_45_code 61 = .ok (.ireturn, 1) := by decide +kernel
theorem d_X9_write_0 : decode prog_1_method_46_code 0 = .ok (.iload_n 1, 1) := by decide +kernel
theorem d_X9_write_1 : decode prog_1_method_46_code 1 = .ok (.invokestatic 312, 3) := by decide +kernel
theorem d_X9_write_4 : decode prog_1_method_46_code 4 = .ok (.ifCond .ne 5, 3) := by decide +kernel
theorem d_X9_write_7 : decode prog_1_method_46_code 7 = .ok (.iconst (-1), 1) := by decide +kernel
theorem d_X9_write_8 : decode prog_1_method_46_code 8 = .ok (.ireturn, 1) := by decide +kernel
theorem d_X9_write_9 : decode prog_1_method_46_code 9 = .ok (.aload_n 0, 1) := by decide +kernel
theorem d_X9_write_10 : decode prog_1_method_46_code 10 = .ok (.getfield 68, 3) := by decide +kernel
theorem d_X9_write_13 : decode prog_1_method_46_code 13 = .ok (.iload_n 1, 1) := by decide +kernel
theorem d_X9_write_14 : decode prog_1_method_46_code 14 = .ok (.aaload, 1) := by decide +kernel
theorem d_X9_write_15 : decode prog_1_method_46_code 15 = .ok (.astore 4, 2) := by decide +kernel
theorem d_X9_write_17 : decode prog_1_method_46_code 17 = .ok (.aload 4, 2) := by decide +kernel
theorem d_X9_write_19 : decode prog_1_method_46_code 19 = .ok (.ifnonnull 6, 3) := by decide +kernel
theorem d_X9_write_22 : decode prog_1_method_46_code 22 = .ok (.bipush (-11), 2) := by decide +kernel
theorem d_X9_write_24 : decode prog_1_method_46_code 24 = .ok (.ireturn, 1) := by decide +kernel
theorem d_X9_write_25 : decode prog_1_method_46_code 25 = .ok (.aload 4, 2) := by decide +kernel
theorem d_X9_write_27 : decode prog_1_method_46_code 27 = .ok (.iload_n 2, 1) := by decide +kernel
theorem d_X9_write_28 : decode prog_1_method_46_code 28 = .ok (.invokevirtual 320, 3) := by decide +kernel
theorem d_X9_write_31 : decode prog_1_method_46_code 31 = .ok (.ifCond .ne 6, 3) := by decide +kernel
theorem d_X9_write_34 : decode prog_1_method_46_code 34 = .ok (.bipush (-12), 2) := by decide +kernel
theorem d_X9_write_36 : decode prog_1_method_46_code 36 = .ok (.ireturn, 1) := by decide +kernel
theorem d_X9_write_37 : decode prog_1_method_46_code 37 = .ok (.aload 4, 2) := by decide +kernel
theorem d_X9_write_39 : decode prog_1_method_46_code 39 = .ok (.getfield 323, 3) := by decide +kernel
theorem d_X9_write_42 : decode prog_1_method_46_code 42 = .ok (.iload_n 2, 1) := by decide +kernel
theorem d_X9_write_43 : decode prog_1_method_46_code 43 = .ok (.aload 4, 2) := by decide +kernel
theorem d_X9_write_45 : decode prog_1_method_46_code 45 = .ok (.iload_n 3, 1) := by decide +kernel
theorem d_X9_write_46 : decode prog_1_method_46_code 46 = .ok (.invokevirtual 326, 3) := by decide +kernel
theorem d_X9_write_49 : decode prog_1_method_46_code 49 = .ok (.iastore, 1) := by decide +kernel
theorem d_X9_write_50 : decode prog_1_method_46_code 50 = .ok (.iconst 1, 1) := by decide +kernel
theorem d_X9_write_51 : decode prog_1_method_46_code 51 = .ok (.ireturn, 1) := by decide +kernel
theorem d_X9_item_0 : decode prog_1_method_47_code 0 = .ok (.iload_n 1, 1) := by decide +kernel
theorem d_X9_item_1 : decode prog_1_method_47_code 1 = .ok (.invokestatic 312, 3) := by decide +kernel
theorem d_X9_item_4 : decode prog_1_method_47_code 4 = .ok (.ifCond .eq 10, 3) := by decide +kernel
theorem d_X9_item_7 : decode prog_1_method_47_code 7 = .ok (.iload_n 2, 1) := by decide +kernel
theorem d_X9_item_8 : decode prog_1_method_47_code 8 = .ok (.invokestatic 315, 3) := by decide +kernel
theorem d_X9_item_11 : decode prog_1_method_47_code 11 = .ok (.ifCond .ne 5, 3) := by decide +kernel
theorem d_X9_item_14 : decode prog_1_method_47_code 14 = .ok (.iconst (-1), 1) := by decide +kernel
theorem d_X9_item_15 : decode prog_1_method_47_code 15 = .ok (.ireturn, 1) := by decide +kernel
theorem d_X9_item_16 : decode prog_1_method_47_code 16 = .ok (.aload_n 0, 1) := by decide +kernel
theorem d_X9_item_17 : decode prog_1_method_47_code 17 = .ok (.getfield 68, 3) := by decide +kernel
theorem d_X9_item_20 : decode prog_1_method_47_code 20 = .ok (.iload_n 1, 1) := by decide +kernel
theorem d_X9_item_21 : decode prog_1_method_47_code 21 = .ok (.aaload, 1) := by decide +kernel
theorem d_X9_item_22 : decode prog_1_method_47_code 22 = .ok (.astore 4, 2) := by decide +kernel
theorem d_X9_item_24 : decode prog_1_method_47_code 24 = .ok (.aload 4, 2) := by decide +kernel
theorem d_X9_item_26 : decode prog_1_method_47_code 26 = .ok (.ifnonnull 6, 3) := by decide +kernel
theorem d_X9_item_29 : decode prog_1_method_47_code 29 = .ok (.bipush (-11), 2) := by decide +kernel
theorem d_X9_item_31 : decode prog_1_method_47_code 31 = .ok (.ireturn, 1) := by decide +kernel
theorem d_X9_item_32 : decode prog_1_method_47_code 32 = .ok (.aload 4, 2) := by decide +kernel
theorem d_X9_item_34 : decode prog_1_method_47_code 34 = .ok (.getfield 329, 3) := by decide +kernel
theorem d_X9_item_37 : decode prog_1_method_47_code 37 = .ok (.iload_n 2, 1) := by decide +kernel
theorem d_X9_item_38 : decode prog_1_method_47_code 38 = .ok (.if_icmp .eq 6, 3) := by decide +kernel
theorem d_X9_item_41 : decode prog_1_method_47_code 41 = .ok (.bipush (-13), 2) := by decide +kernel
theorem d_X9_item_43 : decode prog_1_method_47_code 43 = .ok (.ireturn, 1) := by decide +kernel
theorem d_X9_item_44 : decode prog_1_method_47_code 44 = .ok (.aload 4, 2) := by decide +kernel
theorem d_X9_item_46 : decode prog_1_method_47_code 46 = .ok (.iload_n 3, 1) := by decide +kernel
theorem d_X9_item_47 : decode prog_1_method_47_code 47 = .ok (.invokevirtual 320, 3) := by decide +kernel
theorem d_X9_item_50 : decode prog_1_method_47_code 50 = .ok (.ifCond .eq 13, 3) := by decide +kernel
theorem d_X9_item_53 : decode prog_1_method_47_code 53 = .ok (.aload 4, 2) := by decide +kernel
theorem d_X9_item_55 : decode prog_1_method_47_code 55 = .ok (.getfield 323, 3) := by decide +kernel
theorem d_X9_item_58 : decode prog_1_method_47_code 58 = .ok (.iload_n 3, 1) := by decide +kernel
theorem d_X9_item_59 : decode prog_1_method_47_code 59 = .ok (.iaload, 1) := by decide +kernel
theorem d_X9_item_60 : decode prog_1_method_47_code 60 = .ok (.goto 5, 3) := by decide +kernel
theorem d_X9_item_63 : decode prog_1_method_47_code 63 = .ok (.bipush (-12), 2) := by decide +kernel
theorem d_X9_item_65 : decode prog_1_method_47_code 65 = .ok (.ireturn, 1) := by decide +kernel
theorem d_X9_fits_0 : decode prog_1_method_48_code 0 = .ok (.iload_n 1, 1) := by decide +kernel
theorem d_X9_fits_1 : decode prog_1_method_48_code 1 = .ok (.invokestatic 312, 3) := by decide +kernel
theorem d_X9_fits_4 : decode prog_1_method_48_code 4 = .ok (.ifCond .eq 13, 3) := by decide +kernel
theorem d_X9_fits_7 : decode prog_1_method_48_code 7 = .ok (.iload_n 3, 1) := by decide +kernel
theorem d_X9_fits_8 : decode prog_1_method_48_code 8 = .ok (.iconst 0, 1) := by decide +kernel
theorem d_X9_fits_9 : decode prog_1_method_48_code 9 = .ok (.bipush 20, 2) := by decide +kernel
theorem d_X9_fits_11 : decode prog_1_method_48_code 11 = .ok (.invokestatic 98, 3) := by decide +kernel
theorem d_X9_fits_14 : decode prog_1_method_48_code 14 = .ok (.ifCond .ne 5, 3) := by decide +kernel
theorem d_X9_fits_17 : decode prog_1_method_48_code 17 = .ok (.iconst (-1), 1) := by decide +kernel
theorem d_X9_fits_18 : decode prog_1_method_48_code 18 = .ok (.ireturn, 1) := by decide +kernel
theorem d_X9_fits_19 : decode prog_1_method_48_code 19 = .ok (.aload_n 0, 1) := by decide +kernel
theorem d_X9_fits_20 : decode prog_1_method_48_code 20 = .ok (.getfield 68, 3) := by decide +kernel
theorem d_X9_fits_23 : decode prog_1_method_48_code 23 = .ok (.iload_n 1, 1) := by decide +kernel
theorem d_X9_fits_24 : decode prog_1_method_48_code 24 = .ok (.aaload, 1) := by decide +kernel
theorem d_X9_fits_25 : decode prog_1_method_48_code 25 = .ok (.astore 4, 2) := by decide +kernel
theorem d_X9_fits_27 : decode prog_1_method_48_code 27 = .ok (.aload 4, 2) := by decide +kernel
theorem d_X9_fits_29 : decode prog_1_method_48_code 29 = .ok (.ifnonnull 6, 3) := by decide +kernel
theorem d_X9_fits_32 : decode prog_1_method_48_code 32 = .ok (.bipush (-11), 2) := by decide +kernel
theorem d_X9_fits_34 : decode prog_1_method_48_code 34 = .ok (.ireturn, 1) := by decide +kernel
theorem d_X9_fits_35 : decode prog_1_method_48_code 35 = .ok (.aload 4, 2) := by decide +kernel
theorem d_X9_fits_37 : decode prog_1_method_48_code 37 = .ok (.getfield 329, 3) := by decide +kernel
theorem d_X9_fits_40 : decode prog_1_method_48_code 40 = .ok (.ifCond .eq 6, 3) := by decide +kernel
theorem d_X9_fits_43 : decode prog_1_method_48_code 43 = .ok (.bipush (-13), 2) := by decide +kernel
theorem d_X9_fits_45 : decode prog_1_method_48_code 45 = .ok (.ireturn, 1) := by decide +kernel
theorem d_X9_fits_46 : decode prog_1_method_48_code 46 = .ok (.iconst 0, 1) := by decide +kernel
theorem d_X9_fits_47 : decode prog_1_method_48_code 47 = .ok (.istore 5, 2) := by decide +kernel
theorem d_X9_fits_49 : decode prog_1_method_48_code 49 = .ok (.iconst 0, 1) := by decide +kernel
theorem d_X9_fits_50 : decode prog_1_method_48_code 50 = .ok (.istore 6, 2) := by decide +kernel
theorem d_X9_fits_52 : decode prog_1_method_48_code 52 = .ok (.iload 6, 2) := by decide +kernel
theorem d_X9_fits_54 : decode prog_1_method_48_code 54 = .ok (.iload_n 3, 1) := by decide +kernel
theorem d_X9_fits_55 : decode prog_1_method_48_code 55 = .ok (.if_icmp .ge 45, 3) := by decide +kernel
theorem d_X9_fits_58 : decode prog_1_method_48_code 58 = .ok (.aload 4, 2) := by decide +kernel
theorem d_X9_fits_60 : decode prog_1_method_48_code 60 = .ok (.iload_n 2, 1) := by decide +kernel
theorem d_X9_fits_61 : decode prog_1_method_48_code 61 = .ok (.iload 6, 2) := by decide +kernel
theorem d_X9_fits_63 : decode prog_1_method_48_code 63 = .ok (.iadd, 1) := by decide +kernel
theorem d_X9_fits_64 : decode prog_1_method_48_code 64 = .ok (.invokevirtual 320, 3) := by decide +kernel
theorem d_X9_fits_67 : decode prog_1_method_48_code 67 = .ok (.ifCond .ne 6, 3) := by decide +kernel
theorem d_X9_fits_70 : decode prog_1_method_48_code 70 = .ok (.bipush (-12), 2) := by decide +kernel
theorem d_X9_fits_72 : decode prog_1_method_48_code 72 = .ok (.ireturn, 1) := by decide +kernel
theorem d_X9_fits_73 : decode prog_1_method_48_code 73 = .ok (.aload_n 0, 1) := by decide +kernel
theorem d_X9_fits_74 : decode prog_1_method_48_code 74 = .ok (.aload 4, 2) := by decide +kernel
theorem d_X9_fits_76 : decode prog_1_method_48_code 76 = .ok (.getfield 323, 3) := by decide +kernel
theorem d_X9_fits_79 : decode prog_1_method_48_code 79 = .ok (.iload_n 2, 1) := by decide +kernel
theorem d_X9_fits_80 : decode prog_1_method_48_code 80 = .ok (.iload 6, 2) := by decide +kernel
theorem d_X9_fits_82 : decode prog_1_method_48_code 82 = .ok (.iadd, 1) := by decide +kernel
theorem d_X9_fits_83 : decode prog_1_method_48_code 83 = .ok (.iaload, 1) := by decide +kernel
theorem d_X9_fits_84 : decode prog_1_method_48_code 84 = .ok (.iconst 0, 1) := by decide +kernel
theorem d_X9_fits_85 : decode prog_1_method_48_code 85 = .ok (.invokevirtual 332, 3) := by decide +kernel
theorem d_X9_fits_88 : decode prog_1_method_48_code 88 = .ok (.ifCond .lt 6, 3) := by decide +kernel
theorem d_X9_fits_91 : decode prog_1_method_48_code 91 = .ok (.iinc 5 1, 3) := by decide +kernel
theorem d_X9_fits_94 : decode prog_1_method_48_code 94 = .ok (.iinc 6 1, 3) := by decide +kernel
theorem d_X9_fits_97 : decode prog_1_method_48_code 97 = .ok (.goto (-45), 3) := by decide +kernel
theorem d_X9_fits_100 : decode prog_1_method_48_code 100 = .ok (.iload 5, 2) := by decide +kernel
theorem d_X9_fits_102 : decode prog_1_method_48_code 102 = .ok (.ireturn, 1) := by decide +kernel
theorem d_X9_spread_0 : decode prog_1_method_49_code 0 = .ok (.iload_n 1, 1) := by decide +kernel
theorem d_X9_spread_1 : decode prog_1_method_49_code 1 = .ok (.invokestatic 312, 3) := by decide +kernel
theorem d_X9_spread_4 : decode prog_1_method_49_code 4 = .ok (.ifCond .eq 13, 3) := by decide +kernel
theorem d_X9_spread_7 : decode prog_1_method_49_code 7 = .ok (.iload_n 3, 1) := by decide +kernel
theorem d_X9_spread_8 : decode prog_1_method_49_code 8 = .ok (.iconst 1, 1) := by decide +kernel
theorem d_X9_spread_9 : decode prog_1_method_49_code 9 = .ok (.bipush 20, 2) := by decide +kernel
theorem d_X9_spread_11 : decode prog_1_method_49_code 11 = .ok (.invokestatic 98, 3) := by decide +kernel
theorem d_X9_spread_14 : decode prog_1_method_49_code 14 = .ok (.ifCond .ne 5, 3) := by decide +kernel
theorem d_X9_spread_17 : decode prog_1_method_49_code 17 = .ok (.iconst (-1), 1) := by decide +kernel
theorem d_X9_spread_18 : decode prog_1_method_49_code 18 = .ok (.ireturn, 1) := by decide +kernel
theorem d_X9_spread_19 : decode prog_1_method_49_code 19 = .ok (.aload_n 0, 1) := by decide +kernel
theorem d_X9_spread_20 : decode prog_1_method_49_code 20 = .ok (.getfield 68, 3) := by decide +kernel
theorem d_X9_spread_23 : decode prog_1_method_49_code 23 = .ok (.iload_n 1, 1) := by decide +kernel
theorem d_X9_spread_24 : decode prog_1_method_49_code 24 = .ok (.aaload, 1) := by decide +kernel
theorem d_X9_spread_25 : decode prog_1_method_49_code 25 = .ok (.astore 4, 2) := by decide +kernel
theorem d_X9_spread_27 : decode prog_1_method_49_code 27 = .ok (.aload 4, 2) := by decide +kernel
theorem d_X9_spread_29 : decode prog_1_method_49_code 29 = .ok (.ifnonnull 6, 3) := by decide +kernel
theorem d_X9_spread_32 : decode prog_1_method_49_code 32 = .ok (.bipush (-11), 2) := by decide +kernel
theorem d_X9_spread_34 : decode prog_1_method_49_code 34 = .ok (.ireturn, 1) := by decide +kernel
theorem d_X9_spread_35 : decode prog_1_method_49_code 35 = .ok (.aload 4, 2) := by decide +kernel
theorem d_X9_spread_37 : decode prog_1_method_49_code 37 = .ok (.getfield 329, 3) := by decide +kernel
theorem d_X9_spread_40 : decode prog_1_method_49_code 40 = .ok (.ifCond .eq 6, 3) := by decide +kernel
theorem d_X9_spread_43 : decode prog_1_method_49_code 43 = .ok (.bipush (-13), 2) := by decide +kernel
theorem d_X9_spread_45 : decode prog_1_method_49_code 45 = .ok (.ireturn, 1) := by decide +kernel
theorem d_X9_spread_46 : decode prog_1_method_49_code 46 = .ok (.aload_n 0, 1) := by decide +kernel
theorem d_X9_spread_47 : decode prog_1_method_49_code 47 = .ok (.invokevirtual 168, 3) := by decide +kernel
theorem d_X9_spread_50 : decode prog_1_method_49_code 50 = .ok (.iconst 0, 1) := by decide +kernel
theorem d_X9_spread_51 : decode prog_1_method_49_code 51 = .ok (.istore 5, 2) := by decide +kernel
theorem d_X9_spread_53 : decode prog_1_method_49_code 53 = .ok (.iconst 0, 1) := by decide +kernel
theorem d_X9_spread_54 : decode prog_1_method_49_code 54 = .ok (.istore 6, 2) := by decide +kernel
theorem d_X9_spread_56 : decode prog_1_method_49_code 56 = .ok (.iconst 0, 1) := by decide +kernel
theorem d_X9_spread_57 : decode prog_1_method_49_code 57 = .ok (.istore 7, 2) := by decide +kernel
theorem d_X9_spread_59 : decode prog_1_method_49_code 59 = .ok (.iload 7, 2) := by decide +kernel
theorem d_X9_spread_61 : decode prog_1_method_49_code 61 = .ok (.iload_n 3, 1) := by decide +kernel
theorem d_X9_spread_62 : decode prog_1_method_49_code 62 = .ok (.if_icmp .ge 94, 3) := by decide +kernel
theorem d_X9_spread_65 : decode prog_1_method_49_code 65 = .ok (.aload 4, 2) := by decide +kernel
theorem d_X9_spread_67 : decode prog_1_method_49_code 67 = .ok (.iload_n 2, 1) := by decide +kernel
theorem d_X9_spread_68 : decode prog_1_method_49_code 68 = .ok (.iload 7, 2) := by decide +kernel
theorem d_X9_spread_70 : decode prog_1_method_49_code 70 = .ok (.iadd, 1) := by decide +kernel
theorem d_X9_spread_71 : decode prog_1_method_49_code 71 = .ok (.invokevirtual 320, 3) := by decide +kernel
theorem d_X9_spread_74 : decode prog_1_method_49_code 74 = .ok (.ifCond .ne 6, 3) := by decide +kernel
theorem d_X9_spread_77 : decode prog_1_method_49_code 77 = .ok (.bipush (-12), 2) := by decide +kernel
theorem d_X9_spread_79 : decode prog_1_method_49_code 79 = .ok (.ireturn, 1) := by decide +kernel
theorem d_X9_spread_80 : decode prog_1_method_49_code 80 = .ok (.aload 4, 2) := by decide +kernel
theorem d_X9_spread_82 : decode prog_1_method_49_code 82 = .ok (.getfield 323, 3) := by decide +kernel
theorem d_X9_spread_85 : decode prog_1_method_49_code 85 = .ok (.iload_n 2, 1) := by decide +kernel
theorem d_X9_spread_86 : decode prog_1_method_49_code 86 = .ok (.iload 7, 2) := by decide +kernel
theorem d_X9_spread_88 : decode prog_1_method_49_code 88 = .ok (.iadd, 1) := by decide +kernel
theorem d_X9_spread_89 : decode prog_1_method_49_code 89 = .ok (.iaload, 1) := by decide +kernel
theorem d_X9_spread_90 : decode prog_1_method_49_code 90 = .ok (.invokestatic 95, 3) := by decide +kernel
theorem d_X9_spread_93 : decode prog_1_method_49_code 93 = .ok (.ifCond .ne 6, 3) := by decide +kernel
theorem d_X9_spread_96 : decode prog_1_method_49_code 96 = .ok (.bipush (-4), 2) := by decide +kernel
theorem d_X9_spread_98 : decode prog_1_method_49_code 98 = .ok (.ireturn, 1) := by decide +kernel
theorem d_X9_spread_99 : decode prog_1_method_49_code 99 = .ok (.aload_n 0, 1) := by decide +kernel
theorem d_X9_spread_100 : decode prog_1_method_49_code 100 = .ok (.getfield 32, 3) := by decide +kernel
theorem d_X9_spread_103 : decode prog_1_method_49_code 103 = .ok (.aload 4, 2) := by decide +kernel
theorem d_X9_spread_105 : decode prog_1_method_49_code 105 = .ok (.getfield 323, 3) := by decide +kernel
theorem d_X9_spread_108 : decode prog_1_method_49_code 108 = .ok (.iload_n 2, 1) := by decide +kernel
theorem d_X9_spread_109 : decode prog_1_method_49_code 109 = .ok (.iload 7, 2) := by decide +kernel
theorem d_X9_spread_111 : decode prog_1_method_49_code 111 = .ok (.iadd, 1) := by decide +kernel
theorem d_X9_spread_112 : decode prog_1_method_49_code 112 = .ok (.iaload, 1) := by decide +kernel
theorem d_X9_spread_113 : decode prog_1_method_49_code 113 = .ok (.invokevirtual 171, 3) := by decide +kernel
theorem d_X9_spread_116 : decode prog_1_method_49_code 116 = .ok (.istore 8, 2) := by decide +kernel
theorem d_X9_spread_118 : decode prog_1_method_49_code 118 = .ok (.iload 7, 2) := by decide +kernel
theorem d_X9_spread_120 : decode prog_1_method_49_code 120 = .ok (.ifCond .eq 10, 3) := by decide +kernel
theorem d_X9_spread_123 : decode prog_1_method_49_code 123 = .ok (.iload 8, 2) := by decide +kernel
theorem d_X9_spread_125 : decode prog_1_method_49_code 125 = .ok (.iload 5, 2) := by decide +kernel
theorem d_X9_spread_127 : decode prog_1_method_49_code 127 = .ok (.if_icmp .ge 7, 3) := by decide +kernel
theorem d_X9_spread_130 : decode prog_1_method_49_code 130 = .ok (.iload 8, 2) := by decide +kernel
theorem d_X9_spread_132 : decode prog_1_method_49_code 132 = .ok (.istore 5, 2) := by decide +kernel
theorem d_X9_spread_134 : decode prog_1_method_49_code 134 = .ok (.iload 7, 2) := by decide +kernel
theorem d_X9_spread_136 : decode prog_1_method_49_code 136 = .ok (.ifCond .eq 10, 3) := by decide +kernel
theorem d_X9_spread_139 : decode prog_1_method_49_code 139 = .ok (.iload 8, 2) := by decide +kernel
theorem d_X9_spread_141 : decode prog_1_method_49_code 141 = .ok (.iload 6, 2) := by decide +kernel
theorem d_X9_spread_143 : decode prog_1_method_49_code 143 = .ok (.if_icmp .le 7, 3) := by decide +kernel
theorem d_X9_spread_146 : decode prog_1_method_49_code 146 = .ok (.iload 8, 2) := by decide +kernel
theorem d_X9_spread_148 : decode prog_1_method_49_code 148 = .ok (.istore 6, 2) := by decide +kernel
theorem d_X9_spread_150 : decode prog_1_method_49_code 150 = .ok (.iinc 7 1, 3) := by decide +kernel
theorem d_X9_spread_153 : decode prog_1_method_49_code 153 = .ok (.goto (-94), 3) := by decide +kernel
theorem d_X9_spread_156 : decode prog_1_method_49_code 156 = .ok (.iload 6, 2) := by decide +kernel
theorem d_X9_spread_158 : decode prog_1_method_49_code 158 = .ok (.iload 5, 2) := by decide +kernel
theorem d_X9_spread_160 : decode prog_1_method_49_code 160 = .ok (.isub, 1) := by decide +kernel
theorem d_X9_spread_161 : decode prog_1_method_49_code 161 = .ok (.ireturn, 1) := by decide +kernel
theorem d_X9_shelf_0 : decode prog_1_method_50_code 0 = .ok (.iload_n 1, 1) := by decide +kernel
theorem d_X9_shelf_1 : decode prog_1_method_50_code 1 = .ok (.invokestatic 335, 3) := by decide +kernel
theorem d_X9_shelf_4 : decode prog_1_method_50_code 4 = .ok (.ifCond .ne 5, 3) := by decide +kernel
theorem d_X9_shelf_7 : decode prog_1_method_50_code 7 = .ok (.iconst (-1), 1) := by decide +kernel
theorem d_X9_shelf_8 : decode prog_1_method_50_code 8 = .ok (.ireturn, 1) := by decide +kernel
theorem d_X9_shelf_9 : decode prog_1_method_50_code 9 = .ok (.iload_n 2, 1) := by decide +kernel
theorem d_X9_shelf_10 : decode prog_1_method_50_code 10 = .ok (.tableswitch 81 0 2 #[26, 49, 73], 26) := by decide +kernel
theorem d_X9_shelf_36 : decode prog_1_method_50_code 36 = .ok (.aload_n 0, 1) := by decide +kernel
theorem d_X9_shelf_37 : decode prog_1_method_50_code 37 = .ok (.getfield 12, 3) := by decide +kernel
theorem d_X9_shelf_40 : decode prog_1_method_50_code 40 = .ok (.iload_n 3, 1) := by decide +kernel
theorem d_X9_shelf_41 : decode prog_1_method_50_code 41 = .ok (.invokevirtual 118, 3) := by decide +kernel
theorem d_X9_shelf_44 : decode prog_1_method_50_code 44 = .ok (.ifCond .eq 13, 3) := by decide +kernel
theorem d_X9_shelf_47 : decode prog_1_method_50_code 47 = .ok (.aload_n 0, 1) := by decide +kernel
theorem d_X9_shelf_48 : decode prog_1_method_50_code 48 = .ok (.iload_n 1, 1) := by decide +kernel
theorem d_X9_shelf_49 : decode prog_1_method_50_code 49 = .ok (.iload_n 3, 1) := by decide +kernel
theorem d_X9_shelf_50 : decode prog_1_method_50_code 50 = .ok (.aconst_null, 1) := by decide +kernel
theorem d_X9_shelf_51 : decode prog_1_method_50_code 51 = .ok (.invokevirtual 338, 3) := by decide +kernel
theorem d_X9_shelf_54 : decode prog_1_method_50_code 54 = .ok (.goto 4, 3) := by decide +kernel
theorem d_X9_shelf_57 : decode prog_1_method_50_code 57 = .ok (.iconst (-1), 1) := by decide +kernel
theorem d_X9_shelf_58 : decode prog_1_method_50_code 58 = .ok (.ireturn, 1) := by decide +kernel
theorem d_X9_shelf_59 : decode prog_1_method_50_code 59 = .ok (.iload_n 3, 1) := by decide +kernel
theorem d_X9_shelf_60 : decode prog_1_method_50_code 60 = .ok (.invokestatic 312, 3) := by decide +kernel
theorem d_X9_shelf_63 : decode prog_1_method_50_code 63 = .ok (.ifCond .eq 18, 3) := by decide +kernel
theorem d_X9_shelf_66 : decode prog_1_method_50_code 66 = .ok (.aload_n 0, 1) := by decide +kernel
theorem d_X9_shelf_67 : decode prog_1_method_50_code 67 = .ok (.iload_n 1, 1) := by decide +kernel
theorem d_X9_shelf_68 : decode prog_1_method_50_code 68 = .ok (.iconst (-1), 1) := by decide +kernel
theorem d_X9_shelf_69 : decode prog_1_method_50_code 69 = .ok (.aload_n 0, 1) := by decide +kernel
theorem d_X9_shelf_70 : decode prog_1_method_50_code 70 = .ok (.getfield 68, 3) := by decide +kernel
theorem d_X9_shelf_73 : decode prog_1_method_50_code 73 = .ok (.iload_n 3, 1) := by decide +kernel
theorem d_X9_shelf_74 : decode prog_1_method_50_code 74 = .ok (.aaload, 1) := by decide +kernel
theorem d_X9_shelf_75 : decode prog_1_method_50_code 75 = .ok (.invokevirtual 338, 3) := by decide +kernel
theorem d_X9_shelf_78 : decode prog_1_method_50_code 78 = .ok (.goto 4, 3) := by decide +kernel
theorem d_X9_shelf_81 : decode prog_1_method_50_code 81 = .ok (.iconst (-1), 1) := by decide +kernel
theorem d_X9_shelf_82 : decode prog_1_method_50_code 82 = .ok (.ireturn, 1) := by decide +kernel
theorem d_X9_shelf_83 : decode prog_1_method_50_code 83 = .ok (.aload_n 0, 1) := by decide +kernel
theorem d_X9_shelf_84 : decode prog_1_method_50_code 84 = .ok (.iload_n 1, 1) := by decide +kernel
theorem d_X9_shelf_85 : decode prog_1_method_50_code 85 = .ok (.iconst (-1), 1) := by decide +kernel
theorem d_X9_shelf_86 : decode prog_1_method_50_code 86 = .ok (.aconst_null, 1) := by decide +kernel
theorem d_X9_shelf_87 : decode prog_1_method_50_code 87 = .ok (.invokevirtual 338, 3) := by decide +kernel
theorem d_X9_shelf_90 : decode prog_1_method_50_code 90 = .ok (.ireturn, 1) := by decide +kernel
theorem d_X9_shelf_91 : decode prog_1_method_50_code 91 = .ok (.iconst (-1), 1) := by decide +kernel
theorem d_X9_shelf_92 : decode prog_1_method_50_code 92 = .ok (.ireturn, 1) := by decide +kernel
theorem d_X9_taken_0 : decode prog_1_method_51_code 0 = .ok (.iload_n 2, 1) := by decide +kernel
theorem d_X9_taken_1 : decode prog_1_method_51_code 1 = .ok (.iconst 0, 1) := by decide +kernel
theorem d_X9_taken_2 : decode prog_1_method_51_code 2 = .ok (.iconst 5, 1) := by decide +kernel
theorem d_X9_taken_3 : decode prog_1_method_51_code 3 = .ok (.invokestatic 98, 3) := by decide +kernel
theorem d_X9_taken_6 : decode prog_1_method_51_code 6 = .ok (.istore_n 3, 1) := by decide +kernel
theorem d_X9_taken_7 : decode prog_1_method_51_code 7 = .ok (.iload_n 1, 1) := by decide +kernel
theorem d_X9_taken_8 : decode prog_1_method_51_code 8 = .ok (.invokestatic 335, 3) := by decide +kernel
theorem d_X9_taken_11 : decode prog_1_method_51_code 11 = .ok (.ifCond .eq 17, 3) := by decide +kernel
theorem d_X9_taken_14 : decode prog_1_method_51_code 14 = .ok (.iload_n 3, 1) := by decide +kernel
theorem d_X9_taken_15 : decode prog_1_method_51_code 15 = .ok (.ifCond .ne 15, 3) := by decide +kernel
theorem d_X9_taken_18 : decode prog_1_method_51_code 18 = .ok (.iload_n 2, 1) := by decide +kernel
theorem d_X9_taken_19 : decode prog_1_method_51_code 19 = .ok (.bipush 10, 2) := by decide +kernel
theorem d_X9_taken_21 : decode prog_1_method_51_code 21 = .ok (.isub, 1) := by decide +kernel
theorem d_X9_taken_22 : decode prog_1_method_51_code 22 = .ok (.invokestatic 315, 3) := by decide +kernel
theorem d_X9_taken_25 : decode prog_1_method_51_code 25 = .ok (.ifCond .ne 5, 3) := by decide +kernel
theorem d_X9_taken_28 : decode prog_1_method_51_code 28 = .ok (.iconst (-1), 1) := by decide +kernel
theorem d_X9_taken_29 : decode prog_1_method_51_code 29 = .ok (.ireturn, 1) := by decide +kernel
theorem d_X9_taken_30 : decode prog_1_method_51_code 30 = .ok (.aload_n 0, 1) := by decide +kernel
theorem d_X9_taken_31 : decode prog_1_method_51_code 31 = .ok (.getfield 75, 3) := by decide +kernel
theorem d_X9_taken_34 : decode prog_1_method_51_code 34 = .ok (.iload_n 1, 1) := by decide +kernel
theorem d_X9_taken_35 : decode prog_1_method_51_code 35 = .ok (.iaload, 1) := by decide +kernel
theorem d_X9_taken_36 : decode prog_1_method_51_code 36 = .ok (.istore 4, 2) := by decide +kernel
theorem d_X9_taken_38 : decode prog_1_method_51_code 38 = .ok (.aload_n 0, 1) := by decide +kernel
theorem d_X9_taken_39 : decode prog_1_method_51_code 39 = .ok (.getfield 72, 3) := by decide +kernel
theorem d_X9_taken_42 : decode prog_1_method_51_code 42 = .ok (.iload_n 1, 1) := by decide +kernel
theorem d_X9_taken_43 : decode prog_1_method_51_code 43 = .ok (.aaload, 1) := by decide +kernel
theorem d_X9_taken_44 : decode prog_1_method_51_code 44 = .ok (.astore 5, 2) := by decide +kernel
theorem d_X9_taken_46 : decode prog_1_method_51_code 46 = .ok (.aload_n 0, 1) := by decide +kernel
theorem d_X9_taken_47 : decode prog_1_method_51_code 47 = .ok (.getfield 12, 3) := by decide +kernel
theorem d_X9_taken_50 : decode prog_1_method_51_code 50 = .ok (.iload 4, 2) := by decide +kernel
theorem d_X9_taken_52 : decode prog_1_method_51_code 52 = .ok (.invokevirtual 118, 3) := by decide +kernel
theorem d_X9_taken_55 : decode prog_1_method_51_code 55 = .ok (.ifCond .eq 32, 3) := by decide +kernel
theorem d_X9_taken_58 : decode prog_1_method_51_code 58 = .ok (.iload_n 3, 1) := by decide +kernel
theorem d_X9_taken_59 : decode prog_1_method_51_code 59 = .ok (.ifCond .eq 25, 3) := by decide +kernel
theorem d_X9_taken_62 : decode prog_1_method_51_code 62 = .ok (.aload_n 0, 1) := by decide +kernel
theorem d_X9_taken_63 : decode prog_1_method_51_code 63 = .ok (.getfield 12, 3) := by decide +kernel
theorem d_X9_taken_66 : decode prog_1_method_51_code 66 = .ok (.getfield 106, 3) := by decide +kernel
theorem d_X9_taken_69 : decode prog_1_method_51_code 69 = .ok (.iload 4, 2) := by decide +kernel
theorem d_X9_taken_71 : decode prog_1_method_51_code 71 = .ok (.iaload, 1) := by decide +kernel
theorem d_X9_taken_72 : decode prog_1_method_51_code 72 = .ok (.iload_n 2, 1) := by decide +kernel
theorem d_X9_taken_73 : decode prog_1_method_51_code 73 = .ok (.invokestatic 342, 3) := by decide +kernel
theorem d_X9_taken_76 : decode prog_1_method_51_code 76 = .ok (.ifCond .eq 8, 3) := by decide +kernel
theorem d_X9_taken_79 : decode prog_1_method_51_code 79 = .ok (.iload 4, 2) := by decide +kernel
theorem d_X9_taken_81 : decode prog_1_method_51_code 81 = .ok (.goto 5, 3) := by decide +kernel
theorem d_X9_taken_84 : decode prog_1_method_51_code 84 = .ok (.bipush (-13), 2) := by decide +kernel
theorem d_X9_taken_86 : decode prog_1_method_51_code 86 = .ok (.ireturn, 1) := by decide +kernel
theorem d_X9_taken_87 : decode prog_1_method_51_code 87 = .ok (.aload 5, 2) := by decide +kernel
theorem d_X9_taken_89 : decode prog_1_method_51_code 89 = .ok (.ifnonnull 6, 3) := by decide +kernel
theorem d_X9_taken_92 : decode prog_1_method_51_code 92 = .ok (.bipush (-11), 2) := by decide +kernel
theorem d_X9_taken_94 : decode prog_1_method_51_code 94 = .ok (.ireturn, 1) := by decide +kernel
theorem d_X9_taken_95 : decode prog_1_method_51_code 95 = .ok (.aload 5, 2) := by decide +kernel
theorem d_X9_taken_97 : decode prog_1_method_51_code 97 = .ok (.getfield 329, 3) := by decide +kernel
theorem d_X9_taken_100 : decode prog_1_method_51_code 100 = .ok (.iload_n 2, 1) := by decide +kernel
theorem d_X9_taken_101 : decode prog_1_method_51_code 101 = .ok (.bipush 10, 2) := by decide +kernel
theorem d_X9_taken_103 : decode prog_1_method_51_code 103 = .ok (.isub, 1) := by decide +kernel
theorem d_X9_taken_104 : decode prog_1_method_51_code 104 = .ok (.if_icmp .ne 12, 3) := by decide +kernel
theorem d_X9_taken_107 : decode prog_1_method_51_code 107 = .ok (.aload 5, 2) := by decide +kernel
theorem d_X9_taken_109 : decode prog_1_method_51_code 109 = .ok (.getfield 323, 3) := by decide +kernel
theorem d_X9_taken_112 : decode prog_1_method_51_code 112 = .ok (.arraylength, 1) := by decide +kernel
theorem d_X9_taken_113 : decode prog_1_method_51_code 113 = .ok (.goto 5, 3) := by decide +kernel
theorem d_X9_taken_116 : decode prog_1_method_51_code 116 = .ok (.bipush (-13), 2) := by decide +kernel
theorem d_X9_taken_118 : decode prog_1_method_51_code 118 = .ok (.ireturn, 1) := by decide +kernel
theorem d_X9_act_0 : decode prog_1_method_52_code 0 = .ok (.aload_n 0, 1) := by decide +kernel
theorem d_X9_act_1 : decode prog_1_method_52_code 1 = .ok (.getfield 81, 3) := by decide +kernel
theorem d_X9_act_4 : decode prog_1_method_52_code 4 = .ok (.iconst 0, 1) := by decide +kernel
theorem d_X9_act_5 : decode prog_1_method_52_code 5 = .ok (.putfield 345, 3) := by decide +kernel
theorem d_X9_act_8 : decode prog_1_method_52_code 8 = .ok (.iload_n 1, 1) := by decide +kernel
theorem d_X9_act_9 : decode prog_1_method_52_code 9 = .ok (.invokestatic 335, 3) := by decide +kernel
theorem d_X9_act_12 : decode prog_1_method_52_code 12 = .ok (.ifCond .eq 28, 3) := by decide +kernel
theorem d_X9_act_15 : decode prog_1_method_52_code 15 = .ok (.iload_n 2, 1) := by decide +kernel
theorem d_X9_act_16 : decode prog_1_method_52_code 16 = .ok (.iconst 0, 1) := by decide +kernel
theorem d_X9_act_17 : decode prog_1_method_52_code 17 = .ok (.iconst 3, 1) := by decide +kernel
theorem d_X9_act_18 : decode prog_1_method_52_code 18 = .ok (.invokestatic 98, 3) := by decide +kernel
theorem d_X9_act_21 : decode prog_1_method_52_code 21 = .ok (.ifCond .eq 19, 3) := by decide +kernel
theorem d_X9_act_24 : decode prog_1_method_52_code 24 = .ok (.aload_n 0, 1) := by decide +kernel
theorem d_X9_act_25 : decode prog_1_method_52_code 25 = .ok (.getfield 12, 3) := by decide +kernel
theorem d_X9_act_28 : decode prog_1_method_52_code 28 = .ok (.aload_n 0, 1) := by decide +kernel
theorem d_X9_act_29 : decode prog_1_method_52_code 29 = .ok (.getfield 75, 3) := by decide +kernel
theorem d_X9_act_32 : decode prog_1_method_52_code 32 = .ok (.iload_n 1, 1) := by decide +kernel
theorem d_X9_act_33 : decode prog_1_method_52_code 33 = .ok (.iaload, 1) := by decide +kernel
theorem d_X9_act_34 : decode prog_1_method_52_code 34 = .ok (.invokevirtual 118, 3) := by decide +kernel
theorem d_X9_act_37 : decode prog_1_method_52_code 37 = .ok (.ifCond .ne 5, 3) := by decide +kernel
theorem d_X9_act_40 : decode prog_1_method_52_code 40 = .ok (.iconst 0, 1) := by decide +kernel
theorem d_X9_act_41 : decode prog_1_method_52_code 41 = .ok (.ireturn, 1) := by decide +kernel
theorem d_X9_act_42 : decode prog_1_method_52_code 42 = .ok (.aload_n 0, 1) := by decide +kernel
theorem d_X9_act_43 : decode prog_1_method_52_code 43 = .ok (.getfield 75, 3) := by decide +kernel
theorem d_X9_act_46 : decode prog_1_method_52_code 46 = .ok (.iload_n 1, 1) := by decide +kernel
theorem d_X9_act_47 : decode prog_1_method_52_code 47 = .ok (.iaload, 1) := by decide +kernel
theorem d_X9_act_48 : decode prog_1_method_52_code 48 = .ok (.istore 4, 2) := by decide +kernel
theorem d_X9_act_50 : decode prog_1_method_52_code 50 = .ok (.aload_n 0, 1) := by decide +kernel
theorem d_X9_act_51 : decode prog_1_method_52_code 51 = .ok (.getfield 81, 3) := by decide +kernel
theorem d_X9_act_54 : decode prog_1_method_52_code 54 = .ok (.aload_n 0, 1) := by decide +kernel
theorem d_X9_act_55 : decode prog_1_method_52_code 55 = .ok (.getfield 12, 3) := by decide +kernel
theorem d_X9_act_58 : decode prog_1_method_52_code 58 = .ok (.getfield 106, 3) := by decide +kernel
theorem d_X9_act_61 : decode prog_1_method_52_code 61 = .ok (.iload 4, 2) := by decide +kernel
theorem d_X9_act_63 : decode prog_1_method_52_code 63 = .ok (.iaload, 1) := by decide +kernel
theorem d_X9_act_64 : decode prog_1_method_52_code 64 = .ok (.iload 4, 2) := by decide +kernel
theorem d_X9_act_66 : decode prog_1_method_52_code 66 = .ok (.aload_n 0, 1) := by decide +kernel
theorem d_X9_act_67 : decode prog_1_method_52_code 67 = .ok (.getfield 12, 3) := by decide +kernel
theorem d_X9_act_70 : decode prog_1_method_52_code 70 = .ok (.getfield 109, 3) := by decide +kernel
theorem d_X9_act_73 : decode prog_1_method_52_code 73 = .ok (.iload 4, 2) := by decide +kernel
theorem d_X9_act_75 : decode prog_1_method_52_code 75 = .ok (.iaload, 1) := by decide +kernel
theorem d_X9_act_76 : decode prog_1_method_52_code 76 = .ok (.invokevirtual 348, 3) := by decide +kernel
theorem d_X9_act_79 : decode prog_1_method_52_code 79 = .ok (.iload_n 2, 1) := by decide +kernel
theorem d_X9_act_80 : decode prog_1_method_52_code 80 = .ok (.tableswitch 67 0 2 #[28, 41, 54], 28) := by decide +kernel
theorem d_X9_act_108 : decode prog_1_method_52_code 108 = .ok (.aload_n 0, 1) := by decide +kernel
theorem d_X9_act_109 : decode prog_1_method_52_code 109 = .ok (.getfield 81, 3) := by decide +kernel
theorem d_X9_act_112 : decode prog_1_method_52_code 112 = .ok (.iload_n 3, 1) := by decide +kernel
theorem d_X9_act_113 : decode prog_1_method_52_code 113 = .ok (.invokevirtual 352, 3) := by decide +kernel
theorem d_X9_act_116 : decode prog_1_method_52_code 116 = .ok (.istore 5, 2) := by decide +kernel
theorem d_X9_act_118 : decode prog_1_method_52_code 118 = .ok (.goto 39, 3) := by decide +kernel
theorem d_X9_act_121 : decode prog_1_method_52_code 121 = .ok (.aload_n 0, 1) := by decide +kernel
theorem d_X9_act_122 : decode prog_1_method_52_code 122 = .ok (.getfield 81, 3) := by decide +kernel
theorem d_X9_act_125 : decode prog_1_method_52_code 125 = .ok (.iload_n 3, 1) := by decide +kernel
theorem d_X9_act_126 : decode prog_1_method_52_code 126 = .ok (.invokevirtual 355, 3) := by decide +kernel
theorem d_X9_act_129 : decode prog_1_method_52_code 129 = .ok (.istore 5, 2) := by decide +kernel
theorem d_X9_act_131 : decode prog_1_method_52_code 131 = .ok (.goto 26, 3) := by decide +kernel
theorem d_X9_act_134 : decode prog_1_method_52_code 134 = .ok (.aload_n 0, 1) := by decide +kernel
theorem d_X9_act_135 : decode prog_1_method_52_code 135 = .ok (.getfield 81, 3) := by decide +kernel
theorem d_X9_act_138 : decode prog_1_method_52_code 138 = .ok (.iload_n 3, 1) := by decide +kernel
theorem d_X9_act_139 : decode prog_1_method_52_code 139 = .ok (.invokevirtual 358, 3) := by decide +kernel
theorem d_X9_act_142 : decode prog_1_method_52_code 142 = .ok (.istore 5, 2) := by decide +kernel
theorem d_X9_act_144 : decode prog_1_method_52_code 144 = .ok (.goto 13, 3) := by decide +kernel
theorem d_X9_act_147 : decode prog_1_method_52_code 147 = .ok (.aload_n 0, 1) := by decide +kernel
theorem d_X9_act_148 : decode prog_1_method_52_code 148 = .ok (.getfield 81, 3) := by decide +kernel
theorem d_X9_act_151 : decode prog_1_method_52_code 151 = .ok (.iload_n 3, 1) := by decide +kernel
theorem d_X9_act_152 : decode prog_1_method_52_code 152 = .ok (.invokevirtual 361, 3) := by decide +kernel
theorem d_X9_act_155 : decode prog_1_method_52_code 155 = .ok (.istore 5, 2) := by decide +kernel
theorem d_X9_act_157 : decode prog_1_method_52_code 157 = .ok (.aload_n 0, 1) := by decide +kernel
theorem d_X9_act_158 : decode prog_1_method_52_code 158 = .ok (.getfield 81, 3) := by decide +kernel
theorem d_X9_act_161 : decode prog_1_method_52_code 161 = .ok (.getfield 364, 3) := by decide +kernel
theorem d_X9_act_164 : decode prog_1_method_52_code 164 = .ok (.ifCond .eq 8, 3) := by decide +kernel
theorem d_X9_act_167 : decode prog_1_method_52_code 167 = .ok (.bipush (-15), 2) := by decide +kernel
theorem d_X9_act_169 : decode prog_1_method_52_code 169 = .ok (.goto 5, 3) := by decide +kernel
theorem d_X9_act_172 : decode prog_1_method_52_code 172 = .ok (.iload 5, 2) := by decide +kernel
theorem d_X9_act_174 : decode prog_1_method_52_code 174 = .ok (.ireturn, 1) := by decide +kernel
theorem d_X9_trace_0 : decode prog_1_method_53_code 0 = .ok (.iload_n 1, 1) := by decide +kernel
theorem d_X9_trace_1 : decode prog_1_method_53_code 1 = .ok (.iconst 0, 1) := by decide +kernel
theorem d_X9_trace_2 : decode prog_1_method_53_code 2 = .ok (.aload_n 0, 1) := by decide +kernel
theorem d_X9_trace_3 : decode prog_1_method_53_code 3 = .ok (.getfield 81, 3) := by decide +kernel
theorem d_X9_trace_6 : decode prog_1_method_53_code 6 = .ok (.getfield 345, 3) := by decide +kernel
theorem d_X9_trace_9 : decode prog_1_method_53_code 9 = .ok (.iconst 1, 1) := by decide +kernel
theorem d_X9_trace_10 : decode prog_1_method_53_code 10 = .ok (.isub, 1) := by decide +kernel
theorem d_X9_trace_11 : decode prog_1_method_53_code 11 = .ok (.invokestatic 98, 3) := by decide +kernel
theorem d_X9_trace_14 : decode prog_1_method_53_code 14 = .ok (.ifCond .eq 15, 3) := by decide +kernel
theorem d_X9_trace_17 : decode prog_1_method_53_code 17 = .ok (.aload_n 0, 1) := by decide +kernel
theorem d_X9_trace_18 : decode prog_1_method_53_code 18 = .ok (.getfield 81, 3) := by decide +kernel
theorem d_X9_trace_21 : decode prog_1_method_53_code 21 = .ok (.getfield 368, 3) := by decide +kernel
theorem d_X9_trace_24 : decode prog_1_method_53_code 24 = .ok (.iload_n 1, 1) := by decide +kernel
theorem d_X9_trace_25 : decode prog_1_method_53_code 25 = .ok (.iaload, 1) := by decide +kernel
theorem d_X9_trace_26 : decode prog_1_method_53_code 26 = .ok (.goto 5, 3) := by decide +kernel
theorem d_X9_trace_29 : decode prog_1_method_53_code 29 = .ok (.bipush (-3), 2) := by decide +kernel
theorem d_X9_trace_31 : decode prog_1_method_53_code 31 = .ok (.ireturn, 1) := by decide +kernel
theorem d_X9_many_0 : decode prog_1_method_54_code 0 = .ok (.iload_n 1, 1) := by decide +kernel
theorem d_X9_many_1 : decode prog_1_method_54_code 1 = .ok (.tableswitch 99 0 6 #[43, 51, 62, 70, 78, 83, 91], 43) := by decide +kernel
theorem d_X9_many_44 : decode prog_1_method_54_code 44 = .ok (.aload_n 0, 1) := by decide +kernel
theorem d_X9_many_45 : decode prog_1_method_54_code 45 = .ok (.getfield 12, 3) := by decide +kernel
theorem d_X9_many_48 : decode prog_1_method_54_code 48 = .ok (.getfield 102, 3) := by decide +kernel
theorem d_X9_many_51 : decode prog_1_method_54_code 51 = .ok (.ireturn, 1) := by decide +kernel
theorem d_X9_many_52 : decode prog_1_method_54_code 52 = .ok (.aload_n 0, 1) := by decide +kernel
theorem d_X9_many_53 : decode prog_1_method_54_code 53 = .ok (.getfield 12, 3) := by decide +kernel
theorem d_X9_many_56 : decode prog_1_method_54_code 56 = .ok (.getfield 159, 3) := by decide +kernel
theorem d_X9_many_59 : decode prog_1_method_54_code 59 = .ok (.getfield 163, 3) := by decide +kernel
theorem d_X9_many_62 : decode prog_1_method_54_code 62 = .ok (.ireturn, 1) := by decide +kernel
theorem d_X9_many_63 : decode prog_1_method_54_code 63 = .ok (.aload_n 0, 1) := by decide +kernel
theorem d_X9_many_64 : decode prog_1_method_54_code 64 = .ok (.getfield 12, 3) := by decide +kernel
theorem d_X9_many_67 : decode prog_1_method_54_code 67 = .ok (.getfield 191, 3) := by decide +kernel
theorem d_X9_many_70 : decode prog_1_method_54_code 70 = .ok (.ireturn, 1) := by decide +kernel
theorem d_X9_many_71 : decode prog_1_method_54_code 71 = .ok (.aload_n 0, 1) := by decide +kernel
theorem d_X9_many_72 : decode prog_1_method_54_code 72 = .ok (.getfield 12, 3) := by decide +kernel
theorem d_X9_many_75 : decode prog_1_method_54_code 75 = .ok (.getfield 261, 3) := by decide +kernel
theorem d_X9_many_78 : decode prog_1_method_54_code 78 = .ok (.ireturn, 1) := by decide +kernel
theorem d_X9_many_79 : decode prog_1_method_54_code 79 = .ok (.aload_n 0, 1) := by decide +kernel
theorem d_X9_many_80 : decode prog_1_method_54_code 80 = .ok (.getfield 293, 3) := by decide +kernel
theorem d_X9_many_83 : decode prog_1_method_54_code 83 = .ok (.ireturn, 1) := by decide +kernel
theorem d_X9_many_84 : decode prog_1_method_54_code 84 = .ok (.aload_n 0, 1) := by decide +kernel
theorem d_X9_many_85 : decode prog_1_method_54_code 85 = .ok (.getfield 25, 3) := by decide +kernel
theorem d_X9_many_88 : decode prog_1_method_54_code 88 = .ok (.getfield 145, 3) := by decide +kernel
theorem d_X9_many_91 : decode prog_1_method_54_code 91 = .ok (.ireturn, 1) := by decide +kernel
theorem d_X9_many_92 : decode prog_1_method_54_code 92 = .ok (.aload_n 0, 1) := by decide +kernel
theorem d_X9_many_93 : decode prog_1_method_54_code 93 = .ok (.getfield 81, 3) := by decide +kernel
theorem d_X9_many_96 : decode prog_1_method_54_code 96 = .ok (.getfield 345, 3) := by decide +kernel
theorem d_X9_many_99 : decode prog_1_method_54_code 99 = .ok (.ireturn, 1) := by decide +kernel
theorem d_X9_many_100 : decode prog_1_method_54_code 100 = .ok (.iconst (-1), 1) := by decide +kernel
theorem d_X9_many_101 : decode prog_1_method_54_code 101 = .ok (.ireturn, 1) := by decide +kernel
theorem d_X9_keep_0 : decode prog_1_method_55_code 0 = .ok (.aload_n 0, 1) := by decide +kernel
theorem d_X9_keep_1 : decode prog_1_method_55_code 1 = .ok (.getfield 16, 3) := by decide +kernel
theorem d_X9_keep_4 : decode prog_1_method_55_code 4 = .ok (.aload_n 0, 1) := by decide +kernel
theorem d_X9_keep_5 : decode prog_1_method_55_code 5 = .ok (.getfield 12, 3) := by decide +kernel
theorem d_X9_keep_8 : decode prog_1_method_55_code 8 = .ok (.invokevirtual 207, 3) := by decide +kernel
theorem d_X9_keep_11 : decode prog_1_method_55_code 11 = .ok (.aload_n 0, 1) := by decide +kernel
theorem d_X9_keep_12 : decode prog_1_method_55_code 12 = .ok (.iconst 1, 1) := by decide +kernel
theorem d_X9_keep_13 : decode prog_1_method_55_code 13 = .ok (.putfield 371, 3) := by decide +kernel
theorem d_X9_keep_16 : decode prog_1_method_55_code 16 = .ok (.iconst 1, 1) := by decide +kernel
theorem d_X9_keep_17 : decode prog_1_method_55_code 17 = .ok (.ireturn, 1) := by decide +kernel
theorem d_X9_again_0 : decode prog_1_method_56_code 0 = .ok (.aload_n 0, 1) := by decide +kernel
theorem d_X9_again_1 : decode prog_1_method_56_code 1 = .ok (.getfield 371, 3) := by decide +kernel
theorem d_X9_again_4 : decode prog_1_method_56_code 4 = .ok (.ifCond .ne 6, 3) := by decide +kernel
theorem d_X9_again_7 : decode prog_1_method_56_code 7 = .ok (.bipush (-3), 2) := by decide +kernel
theorem d_X9_again_9 : decode prog_1_method_56_code 9 = .ok (.ireturn, 1) := by decide +kernel
theorem d_X9_again_10 : decode prog_1_method_56_code 10 = .ok (.aload_n 0, 1) := by decide +kernel
theorem d_X9_again_11 : decode prog_1_method_56_code 11 = .ok (.getfield 12, 3) := by decide +kernel
theorem d_X9_again_14 : decode prog_1_method_56_code 14 = .ok (.aload_n 0, 1) := by decide +kernel
theorem d_X9_again_15 : decode prog_1_method_56_code 15 = .ok (.getfield 16, 3) := by decide +kernel
theorem d_X9_again_18 : decode prog_1_method_56_code 18 = .ok (.invokevirtual 207, 3) := by decide +kernel
theorem d_X9_again_21 : decode prog_1_method_56_code 21 = .ok (.aload_n 0, 1) := by decide +kernel
theorem d_X9_again_22 : decode prog_1_method_56_code 22 = .ok (.getfield 12, 3) := by decide +kernel
theorem d_X9_again_25 : decode prog_1_method_56_code 25 = .ok (.getfield 102, 3) := by decide +kernel
theorem d_X9_again_28 : decode prog_1_method_56_code 28 = .ok (.ireturn, 1) := by decide +kernel
theorem d_X9_isWithin_0 : decode prog_1_method_57_code 0 = .ok (.iload_n 0, 1) := by decide +kernel
theorem d_X9_isWithin_1 : decode prog_1_method_57_code 1 = .ok (.iload_n 1, 1) := by decide +kernel
theorem d_X9_isWithin_2 : decode prog_1_method_57_code 2 = .ok (.if_icmp .lt 12, 3) := by decide +kernel
theorem d_X9_isWithin_5 : decode prog_1_method_57_code 5 = .ok (.iload_n 0, 1) := by decide +kernel
theorem d_X9_isWithin_6 : decode prog_1_method_57_code 6 = .ok (.iload_n 2, 1) := by decide +kernel
theorem d_X9_isWithin_7 : decode prog_1_method_57_code 7 = .ok (.if_icmp .gt 7, 3) := by decide +kernel
theorem d_X9_isWithin_10 : decode prog_1_method_57_code 10 = .ok (.iconst 1, 1) := by decide +kernel
theorem d_X9_isWithin_11 : decode prog_1_method_57_code 11 = .ok (.goto 4, 3) := by decide +kernel
theorem d_X9_isWithin_14 : decode prog_1_method_57_code 14 = .ok (.iconst 0, 1) := by decide +kernel
theorem d_X9_isWithin_15 : decode prog_1_method_57_code 15 = .ok (.ireturn, 1) := by decide +kernel
theorem d_X9_isSmall_0 : decode prog_1_method_58_code 0 = .ok (.iload_n 0, 1) := by decide +kernel
theorem d_X9_isSmall_1 : decode prog_1_method_58_code 1 = .ok (.bipush (-9), 2) := by decide +kernel
theorem d_X9_isSmall_3 : decode prog_1_method_58_code 3 = .ok (.bipush 9, 2) := by decide +kernel
theorem d_X9_isSmall_5 : decode prog_1_method_58_code 5 = .ok (.invokestatic 98, 3) := by decide +kernel
theorem d_X9_isSmall_8 : decode prog_1_method_58_code 8 = .ok (.ireturn, 1) := by decide +kernel
theorem d_X9_isMadeKind_0 : decode prog_1_method_59_code 0 = .ok (.iload_n 0, 1) := by decide +kernel
theorem d_X9_isMadeKind_1 : decode prog_1_method_59_code 1 = .ok (.iconst 1, 1) := by decide +kernel
theorem d_X9_isMadeKind_2 : decode prog_1_method_59_code 2 = .ok (.iconst 5, 1) := by decide +kernel
theorem d_X9_isMadeKind_3 : decode prog_1_method_59_code 3 = .ok (.invokestatic 98, 3) := by decide +kernel
theorem d_X9_isMadeKind_6 : decode prog_1_method_59_code 6 = .ok (.ireturn, 1) := by decide +kernel
theorem d_X9_isTurn_0 : decode prog_1_method_60_code 0 = .ok (.iload_n 0, 1) := by decide +kernel
theorem d_X9_isTurn_1 : decode prog_1_method_60_code 1 = .ok (.iconst 0, 1) := by decide +kernel
theorem d_X9_isTurn_2 : decode prog_1_method_60_code 2 = .ok (.iconst 3, 1) := by decide +kernel
theorem d_X9_isTurn_3 : decode prog_1_method_60_code 3 = .ok (.invokestatic 98, 3) := by decide +kernel
theorem d_X9_isTurn_6 : decode prog_1_method_60_code 6 = .ok (.ireturn, 1) := by decide +kernel
theorem d_X9_isPut_0 : decode prog_1_method_61_code 0 = .ok (.iload_n 0, 1) := by decide +kernel
theorem d_X9_isPut_1 : decode prog_1_method_61_code 1 = .ok (.iconst 1, 1) := by decide +kernel
theorem d_X9_isPut_2 : decode prog_1_method_61_code 2 = .ok (.iconst 3, 1) := by decide +kernel
theorem d_X9_isPut_3 : decode prog_1_method_61_code 3 = .ok (.invokestatic 98, 3) := by decide +kernel
theorem d_X9_isPut_6 : decode prog_1_method_61_code 6 = .ok (.ireturn, 1) := by decide +kernel
theorem d_X9_isSheet_0 : decode prog_1_method_62_code 0 = .ok (.iload_n 0, 1) := by decide +kernel
theorem d_X9_isSheet_1 : decode prog_1_method_62_code 1 = .ok (.iconst 0, 1) := by decide +kernel
theorem d_X9_isSheet_2 : decode prog_1_method_62_code 2 = .ok (.iconst 3, 1) := by decide +kernel
theorem d_X9_isSheet_3 : decode prog_1_method_62_code 3 = .ok (.invokestatic 98, 3) := by decide +kernel
theorem d_X9_isSheet_6 : decode prog_1_method_62_code 6 = .ok (.ireturn, 1) := by decide +kernel
theorem d_X9_isShelf_0 : decode prog_1_method_63_code 0 = .ok (.iload_n 0, 1) := by decide +kernel
theorem d_X9_isShelf_1 : decode prog_1_method_63_code 1 = .ok (.iconst 0, 1) := by decide +kernel
theorem d_X9_isShelf_2 : decode prog_1_method_63_code 2 = .ok (.iconst 3, 1) := by decide +kernel
theorem d_X9_isShelf_3 : decode prog_1_method_63_code 3 = .ok (.invokestatic 98, 3) := by decide +kernel
theorem d_X9_isShelf_6 : decode prog_1_method_63_code 6 = .ok (.ireturn, 1) := by decide +kernel
theorem d_X9_isSort_0 : decode prog_1_method_64_code 0 = .ok (.iload_n 0, 1) := by decide +kernel
theorem d_X9_isSort_1 : decode prog_1_method_64_code 1 = .ok (.iconst 0, 1) := by decide +kernel
theorem d_X9_isSort_2 : decode prog_1_method_64_code 2 = .ok (.iconst 4, 1) := by decide +kernel
theorem d_X9_isSort_3 : decode prog_1_method_64_code 3 = .ok (.invokestatic 98, 3) := by decide +kernel
theorem d_X9_isSort_6 : decode prog_1_method_64_code 6 = .ok (.ireturn, 1) := by decide +kernel
theorem d_X9_isUnder_0 : decode prog_1_method_65_code 0 = .ok (.iload_n 0, 1) := by decide +kernel
theorem d_X9_isUnder_1 : decode prog_1_method_65_code 1 = .ok (.istore_n 2, 1) := by decide +kernel
theorem d_X9_isUnder_2 : decode prog_1_method_65_code 2 = .ok (.iconst 0, 1) := by decide +kernel
theorem d_X9_isUnder_3 : decode prog_1_method_65_code 3 = .ok (.istore_n 3, 1) := by decide +kernel
theorem d_X9_isUnder_4 : decode prog_1_method_65_code 4 = .ok (.iload_n 3, 1) := by decide +kernel
theorem d_X9_isUnder_5 : decode prog_1_method_65_code 5 = .ok (.getstatic 374, 3) := by decide +kernel
theorem d_X9_isUnder_8 : decode prog_1_method_65_code 8 = .ok (.arraylength, 1) := by decide +kernel
theorem d_X9_isUnder_9 : decode prog_1_method_65_code 9 = .ok (.if_icmp .ge 31, 3) := by decide +kernel
theorem d_X9_isUnder_12 : decode prog_1_method_65_code 12 = .ok (.iload_n 2, 1) := by decide +kernel
theorem d_X9_isUnder_13 : decode prog_1_method_65_code 13 = .ok (.iconst 0, 1) := by decide +kernel
theorem d_X9_isUnder_14 : decode prog_1_method_65_code 14 = .ok (.iconst 5, 1) := by decide +kernel
theorem d_X9_isUnder_15 : decode prog_1_method_65_code 15 = .ok (.invokestatic 98, 3) := by decide +kernel
theorem d_X9_isUnder_18 : decode prog_1_method_65_code 18 = .ok (.ifCond .eq 22, 3) := by decide +kernel
theorem d_X9_isUnder_21 : decode prog_1_method_65_code 21 = .ok (.iload_n 2, 1) := by decide +kernel
theorem d_X9_isUnder_22 : decode prog_1_method_65_code 22 = .ok (.iload_n 1, 1) := by decide +kernel
theorem d_X9_isUnder_23 : decode prog_1_method_65_code 23 = .ok (.if_icmp .ne 5, 3) := by decide +kernel
theorem d_X9_isUnder_26 : decode prog_1_method_65_code 26 = .ok (.iconst 1, 1) := by decide +kernel
theorem d_X9_isUnder_27 : decode prog_1_method_65_code 27 = .ok (.ireturn, 1) := by decide +kernel
theorem d_X9_isUnder_28 : decode prog_1_method_65_code 28 = .ok (.getstatic 374, 3) := by decide +kernel
theorem d_X9_isUnder_31 : decode prog_1_method_65_code 31 = .ok (.iload_n 2, 1) := by decide +kernel
theorem d_X9_isUnder_32 : decode prog_1_method_65_code 32 = .ok (.iaload, 1) := by decide +kernel
theorem d_X9_isUnder_33 : decode prog_1_method_65_code 33 = .ok (.istore_n 2, 1) := by decide +kernel
theorem d_X9_isUnder_34 : decode prog_1_method_65_code 34 = .ok (.iinc 3 1, 3) := by decide +kernel
theorem d_X9_isUnder_37 : decode prog_1_method_65_code 37 = .ok (.goto (-33), 3) := by decide +kernel
theorem d_X9_isUnder_40 : decode prog_1_method_65_code 40 = .ok (.iconst 0, 1) := by decide +kernel
theorem d_X9_isUnder_41 : decode prog_1_method_65_code 41 = .ok (.ireturn, 1) := by decide +kernel
theorem d_X9_store_0 : decode prog_1_method_66_code 0 = .ok (.aload_n 0, 1) := by decide +kernel
theorem d_X9_store_1 : decode prog_1_method_66_code 1 = .ok (.iload_n 1, 1) := by decide +kernel
theorem d_X9_store_2 : decode prog_1_method_66_code 2 = .ok (.iaload, 1) := by decide +kernel
theorem d_X9_store_3 : decode prog_1_method_66_code 3 = .ok (.iload_n 2, 1) := by decide +kernel
theorem d_X9_store_4 : decode prog_1_method_66_code 4 = .ok (.if_icmp .ne 5, 3) := by decide +kernel
theorem d_X9_store_7 : decode prog_1_method_66_code 7 = .ok (.iconst 0, 1) := by decide +kernel
theorem d_X9_store_8 : decode prog_1_method_66_code 8 = .ok (.ireturn, 1) := by decide +kernel
theorem d_X9_store_9 : decode prog_1_method_66_code 9 = .ok (.aload_n 0, 1) := by decide +kernel
theorem d_X9_store_10 : decode prog_1_method_66_code 10 = .ok (.iload_n 1, 1) := by decide +kernel
theorem d_X9_store_11 : decode prog_1_method_66_code 11 = .ok (.iload_n 2, 1) := by decide +kernel
theorem d_X9_store_12 : decode prog_1_method_66_code 12 = .ok (.iastore, 1) := by decide +kernel
theorem d_X9_store_13 : decode prog_1_method_66_code 13 = .ok (.iconst 1, 1) := by decide +kernel
theorem d_X9_store_14 : decode prog_1_method_66_code 14 = .ok (.ireturn, 1) := by decide +kernel
theorem d_X9_shine_0 : decode prog_1_method_67_code 0 = .ok (.aload_n 0, 1) := by decide +kernel
theorem d_X9_shine_1 : decode prog_1_method_67_code 1 = .ok (.getfield 32, 3) := by decide +kernel
theorem d_X9_shine_4 : decode prog_1_method_67_code 4 = .ok (.aload_n 0, 1) := by decide +kernel
theorem d_X9_shine_5 : decode prog_1_method_67_code 5 = .ok (.getfield 12, 3) := by decide +kernel
theorem d_X9_shine_8 : decode prog_1_method_67_code 8 = .ok (.invokevirtual 121, 3) := by decide +kernel
theorem d_X9_shine_11 : decode prog_1_method_67_code 11 = .ok (.aload_n 0, 1) := by decide +kernel
theorem d_X9_shine_12 : decode prog_1_method_67_code 12 = .ok (.getfield 32, 3) := by decide +kernel
theorem d_X9_shine_15 : decode prog_1_method_67_code 15 = .ok (.aload_n 0, 1) := by decide +kernel
theorem d_X9_shine_16 : decode prog_1_method_67_code 16 = .ok (.getfield 12, 3) := by decide +kernel
theorem d_X9_shine_19 : decode prog_1_method_67_code 19 = .ok (.invokevirtual 210, 3) := by decide +kernel
theorem d_X9_shine_22 : decode prog_1_method_67_code 22 = .ok (.return_, 1) := by decide +kernel
theorem d_X9_isMendedWith_0 : decode prog_1_method_68_code 0 = .ok (.aload_n 0, 1) := by decide +kernel
theorem d_X9_isMendedWith_1 : decode prog_1_method_68_code 1 = .ok (.getfield 19, 3) := by decide +kernel
theorem d_X9_isMendedWith_4 : decode prog_1_method_68_code 4 = .ok (.getfield 136, 3) := by decide +kernel
theorem d_X9_isMendedWith_7 : decode prog_1_method_68_code 7 = .ok (.iload_n 1, 1) := by decide +kernel
theorem d_X9_isMendedWith_8 : decode prog_1_method_68_code 8 = .ok (.iload_n 2, 1) := by decide +kernel
theorem d_X9_isMendedWith_9 : decode prog_1_method_68_code 9 = .ok (.iastore, 1) := by decide +kernel
theorem d_X9_isMendedWith_10 : decode prog_1_method_68_code 10 = .ok (.aload_n 0, 1) := by decide +kernel
theorem d_X9_isMendedWith_11 : decode prog_1_method_68_code 11 = .ok (.getfield 32, 3) := by decide +kernel
theorem d_X9_isMendedWith_14 : decode prog_1_method_68_code 14 = .ok (.aload_n 0, 1) := by decide +kernel
theorem d_X9_isMendedWith_15 : decode prog_1_method_68_code 15 = .ok (.getfield 19, 3) := by decide +kernel
theorem d_X9_isMendedWith_18 : decode prog_1_method_68_code 18 = .ok (.invokevirtual 121, 3) := by decide +kernel
theorem d_X9_isMendedWith_21 : decode prog_1_method_68_code 21 = .ok (.aload_n 0, 1) := by decide +kernel
theorem d_X9_isMendedWith_22 : decode prog_1_method_68_code 22 = .ok (.getfield 32, 3) := by decide +kernel
theorem d_X9_isMendedWith_25 : decode prog_1_method_68_code 25 = .ok (.aload_n 0, 1) := by decide +kernel
theorem d_X9_isMendedWith_26 : decode prog_1_method_68_code 26 = .ok (.getfield 19, 3) := by decide +kernel
theorem d_X9_isMendedWith_29 : decode prog_1_method_68_code 29 = .ok (.invokevirtual 210, 3) := by decide +kernel
theorem d_X9_isMendedWith_32 : decode prog_1_method_68_code 32 = .ok (.aload_n 0, 1) := by decide +kernel
theorem d_X9_isMendedWith_33 : decode prog_1_method_68_code 33 = .ok (.getfield 32, 3) := by decide +kernel
theorem d_X9_isMendedWith_36 : decode prog_1_method_68_code 36 = .ok (.invokevirtual 184, 3) := by decide +kernel
theorem d_X9_isMendedWith_39 : decode prog_1_method_68_code 39 = .ok (.ireturn, 1) := by decide +kernel
theorem d_X9_findBends_0 : decode prog_1_method_69_code 0 = .ok (.aload_n 0, 1) := by decide +kernel
theorem d_X9_findBends_1 : decode prog_1_method_69_code 1 = .ok (.getfield 32, 3) := by decide +kernel
theorem d_X9_findBends_4 : decode prog_1_method_69_code 4 = .ok (.aload_n 0, 1) := by decide +kernel
theorem d_X9_findBends_5 : decode prog_1_method_69_code 5 = .ok (.getfield 12, 3) := by decide +kernel
theorem d_X9_findBends_8 : decode prog_1_method_69_code 8 = .ok (.invokevirtual 121, 3) := by decide +kernel
theorem d_X9_findBends_11 : decode prog_1_method_69_code 11 = .ok (.iconst 0, 1) := by decide +kernel
theorem d_X9_findBends_12 : decode prog_1_method_69_code 12 = .ok (.istore_n 1, 1) := by decide +kernel
theorem d_X9_findBends_13 : decode prog_1_method_69_code 13 = .ok (.iload_n 1, 1) := by decide +kernel
theorem d_X9_findBends_14 : decode prog_1_method_69_code 14 = .ok (.aload_n 0, 1) := by decide +kernel
theorem d_X9_findBends_15 : decode prog_1_method_69_code 15 = .ok (.getfield 12, 3) := by decide +kernel
theorem d_X9_findBends_18 : decode prog_1_method_69_code 18 = .ok (.getfield 261, 3) := by decide +kernel
theorem d_X9_findBends_21 : decode prog_1_method_69_code 21 = .ok (.if_icmp .ge 108, 3) := by decide +kernel
theorem d_X9_findBends_24 : decode prog_1_method_69_code 24 = .ok (.aload_n 0, 1) := by decide +kernel
theorem d_X9_findBends_25 : decode prog_1_method_69_code 25 = .ok (.getfield 12, 3) := by decide +kernel
theorem d_X9_findBends_28 : decode prog_1_method_69_code 28 = .ok (.getfield 264, 3) := by decide +kernel
theorem d_X9_findBends_31 : decode prog_1_method_69_code 31 = .ok (.iload_n 1, 1) := by decide +kernel
theorem d_X9_findBends_32 : decode prog_1_method_69_code 32 = .ok (.iaload, 1) := by decide +kernel
theorem d_X9_findBends_33 : decode prog_1_method_69_code 33 = .ok (.istore_n 2, 1) := by decide +kernel
theorem d_X9_findBends_34 : decode prog_1_method_69_code 34 = .ok (.iconst 0, 1) := by decide +kernel
theorem d_X9_findBends_35 : decode prog_1_method_69_code 35 = .ok (.istore_n 3, 1) := by decide +kernel
theorem d_X9_findBends_36 : decode prog_1_method_69_code 36 = .ok (.bipush (-9), 2) := by decide +kernel
theorem d_X9_findBends_38 : decode prog_1_method_69_code 38 = .ok (.istore 4, 2) := by decide +kernel
theorem d_X9_findBends_40 : decode prog_1_method_69_code 40 = .ok (.iload 4, 2) := by decide +kernel
theorem d_X9_findBends_42 : decode prog_1_method_69_code 42 = .ok (.bipush 9, 2) := by decide +kernel
theorem d_X9_findBends_44 : decode prog_1_method_69_code 44 = .ok (.if_icmp .gt 72, 3) := by decide +kernel
theorem d_X9_findBends_47 : decode prog_1_method_69_code 47 = .ok (.iload_n 2, 1) := by decide +kernel
theorem d_X9_findBends_48 : decode prog_1_method_69_code 48 = .ok (.aload_n 0, 1) := by decide +kernel
theorem d_X9_findBends_49 : decode prog_1_method_69_code 49 = .ok (.getfield 12, 3) := by decide +kernel
theorem d_X9_findBends_52 : decode prog_1_method_69_code 52 = .ok (.getfield 191, 3) := by decide +kernel
theorem d_X9_findBends_55 : decode prog_1_method_69_code 55 = .ok (.if_icmp .ge 61, 3) := by decide +kernel
theorem d_X9_findBends_58 : decode prog_1_method_69_code 58 = .ok (.aload_n 0, 1) := by decide +kernel
theorem d_X9_findBends_59 : decode prog_1_method_69_code 59 = .ok (.getfield 32, 3) := by decide +kernel
theorem d_X9_findBends_62 : decode prog_1_method_69_code 62 = .ok (.aload_n 0, 1) := by decide +kernel
theorem d_X9_findBends_63 : decode prog_1_method_69_code 63 = .ok (.getfield 12, 3) := by decide +kernel
theorem d_X9_findBends_66 : decode prog_1_method_69_code 66 = .ok (.iload_n 2, 1) := by decide +kernel
theorem d_X9_findBends_67 : decode prog_1_method_69_code 67 = .ok (.iload 4, 2) := by decide +kernel
theorem d_X9_findBends_69 : decode prog_1_method_69_code 69 = .ok (.invokevirtual 377, 3) := by decide +kernel
theorem d_X9_findBends_72 : decode prog_1_method_69_code 72 = .ok (.aload_n 0, 1) := by decide +kernel
theorem d_X9_findBends_73 : decode prog_1_method_69_code 73 = .ok (.getfield 32, 3) := by decide +kernel
theorem d_X9_findBends_76 : decode prog_1_method_69_code 76 = .ok (.invokevirtual 184, 3) := by decide +kernel
theorem d_X9_findBends_79 : decode prog_1_method_69_code 79 = .ok (.aload_n 0, 1) := by decide +kernel
theorem d_X9_findBends_80 : decode prog_1_method_69_code 80 = .ok (.getfield 12, 3) := by decide +kernel
theorem d_X9_findBends_83 : decode prog_1_method_69_code 83 = .ok (.getfield 267, 3) := by decide +kernel
theorem d_X9_findBends_86 : decode prog_1_method_69_code 86 = .ok (.iload_n 1, 1) := by decide +kernel
theorem d_X9_findBends_87 : decode prog_1_method_69_code 87 = .ok (.iaload, 1) := by decide +kernel
theorem d_X9_findBends_88 : decode prog_1_method_69_code 88 = .ok (.iconst 1, 1) := by decide +kernel
theorem d_X9_findBends_89 : decode prog_1_method_69_code 89 = .ok (.if_icmp .ne 7, 3) := by decide +kernel
theorem d_X9_findBends_92 : decode prog_1_method_69_code 92 = .ok (.iconst 1, 1) := by decide +kernel
theorem d_X9_findBends_93 : decode prog_1_method_69_code 93 = .ok (.goto 4, 3) := by decide +kernel
theorem d_X9_findBends_96 : decode prog_1_method_69_code 96 = .ok (.iconst 0, 1) := by decide +kernel
theorem d_X9_findBends_97 : decode prog_1_method_69_code 97 = .ok (.if_icmp .ne 13, 3) := by decide +kernel
theorem d_X9_findBends_100 : decode prog_1_method_69_code 100 = .ok (.iload_n 3, 1) := by decide +kernel
theorem d_X9_findBends_101 : decode prog_1_method_69_code 101 = .ok (.iconst 1, 1) := by decide +kernel
theorem d_X9_findBends_102 : decode prog_1_method_69_code 102 = .ok (.iload 4, 2) := by decide +kernel
theorem d_X9_findBends_104 : decode prog_1_method_69_code 104 = .ok (.bipush 9, 2) := by decide +kernel
theorem d_X9_findBends_106 : decode prog_1_method_69_code 106 = .ok (.iadd, 1) := by decide +kernel
theorem d_X9_findBends_107 : decode prog_1_method_69_code 107 = .ok (.ishl, 1) := by decide +kernel
theorem d_X9_findBends_108 : decode prog_1_method_69_code 108 = .ok (.ior, 1) := by decide +kernel
theorem d_X9_findBends_109 : decode prog_1_method_69_code 109 = .ok (.istore_n 3, 1) := by decide +kernel
theorem d_X9_findBends_110 : decode prog_1_method_69_code 110 = .ok (.iinc 4 1, 3) := by decide +kernel
theorem d_X9_findBends_113 : decode prog_1_method_69_code 113 = .ok (.goto (-73), 3) := by decide +kernel
theorem d_X9_findBends_116 : decode prog_1_method_69_code 116 = .ok (.aload_n 0, 1) := by decide +kernel
theorem d_X9_findBends_117 : decode prog_1_method_69_code 117 = .ok (.getfield 59, 3) := by decide +kernel
theorem d_X9_findBends_120 : decode prog_1_method_69_code 120 = .ok (.iload_n 1, 1) := by decide +kernel
theorem d_X9_findBends_121 : decode prog_1_method_69_code 121 = .ok (.iload_n 3, 1) := by decide +kernel
theorem d_X9_findBends_122 : decode prog_1_method_69_code 122 = .ok (.iastore, 1) := by decide +kernel
theorem d_X9_findBends_123 : decode prog_1_method_69_code 123 = .ok (.iinc 1 1, 3) := by decide +kernel
theorem d_X9_findBends_126 : decode prog_1_method_69_code 126 = .ok (.goto (-113), 3) := by decide +kernel
theorem d_X9_findBends_129 : decode prog_1_method_69_code 129 = .ok (.return_, 1) := by decide +kernel
theorem d_X9_bendsThatFit_0 : decode prog_1_method_70_code 0 = .ok (.ldc_w 381, 3) := by decide +kernel
theorem d_X9_bendsThatFit_3 : decode prog_1_method_70_code 3 = .ok (.istore_n 2, 1) := by decide +kernel
theorem d_X9_bendsThatFit_4 : decode prog_1_method_70_code 4 = .ok (.iconst 0, 1) := by decide +kernel
theorem d_X9_bendsThatFit_5 : decode prog_1_method_70_code 5 = .ok (.istore_n 3, 1) := by decide +kernel
theorem d_X9_bendsThatFit_6 : decode prog_1_method_70_code 6 = .ok (.iload_n 3, 1) := by decide +kernel
theorem d_X9_bendsThatFit_7 : decode prog_1_method_70_code 7 = .ok (.aload_n 0, 1) := by decide +kernel
theorem d_X9_bendsThatFit_8 : decode prog_1_method_70_code 8 = .ok (.getfield 12, 3) := by decide +kernel
theorem d_X9_bendsThatFit_11 : decode prog_1_method_70_code 11 = .ok (.getfield 261, 3) := by decide +kernel
theorem d_X9_bendsThatFit_14 : decode prog_1_method_70_code 14 = .ok (.if_icmp .ge 23, 3) := by decide +kernel
theorem d_X9_bendsThatFit_17 : decode prog_1_method_70_code 17 = .ok (.iload_n 3, 1) := by decide +kernel
theorem d_X9_bendsThatFit_18 : decode prog_1_method_70_code 18 = .ok (.iload_n 1, 1) := by decide +kernel
theorem d_X9_bendsThatFit_19 : decode prog_1_method_70_code 19 = .ok (.if_icmp .eq 12, 3) := by decide +kernel
theorem d_X9_bendsThatFit_22 : decode prog_1_method_70_code 22 = .ok (.iload_n 2, 1) := by decide +kernel
theorem d_X9_bendsThatFit_23 : decode prog_1_method_70_code 23 = .ok (.aload_n 0, 1) := by decide +kernel
theorem d_X9_bendsThatFit_24 : decode prog_1_method_70_code 24 = .ok (.getfield 59, 3) := by decide +kernel
theorem d_X9_bendsThatFit_27 : decode prog_1_method_70_code 27 = .ok (.iload_n 3, 1) := by decide +kernel
theorem d_X9_bendsThatFit_28 : decode prog_1_method_70_code 28 = .ok (.iaload, 1) := by decide +kernel
theorem d_X9_bendsThatFit_29 : decode prog_1_method_70_code 29 = .ok (.iand, 1) := by decide +kernel
theorem d_X9_bendsThatFit_30 : decode prog_1_method_70_code 30 = .ok (.istore_n 2, 1) := by decide +kernel
theorem d_X9_bendsThatFit_31 : decode prog_1_method_70_code 31 = .ok (.iinc 3 1, 3) := by decide +kernel
theorem d_X9_bendsThatFit_34 : decode prog_1_method_70_code 34 = .ok (.goto (-28), 3) := by decide +kernel
theorem d_X9_bendsThatFit_37 : decode prog_1_method_70_code 37 = .ok (.iload_n 2, 1) := by decide +kernel
theorem d_X9_bendsThatFit_38 : decode prog_1_method_70_code 38 = .ok (.ireturn, 1) := by decide +kernel
theorem d_X9_leastBend_0 : decode prog_1_method_71_code 0 = .ok (.bipush (-9), 2) := by decide +kernel
theorem d_X9_leastBend_2 : decode prog_1_method_71_code 2 = .ok (.istore_n 1, 1) := by decide +kernel
theorem d_X9_leastBend_3 : decode prog_1_method_71_code 3 = .ok (.iload_n 1, 1) := by decide +kernel
theorem d_X9_leastBend_4 : decode prog_1_method_71_code 4 = .ok (.bipush 9, 2) := by decide +kernel
theorem d_X9_leastBend_6 : decode prog_1_method_71_code 6 = .ok (.if_icmp .ge 20, 3) := by decide +kernel
theorem d_X9_leastBend_9 : decode prog_1_method_71_code 9 = .ok (.iload_n 0, 1) := by decide +kernel
theorem d_X9_leastBend_10 : decode prog_1_method_71_code 10 = .ok (.iload_n 1, 1) := by decide +kernel
theorem d_X9_leastBend_11 : decode prog_1_method_71_code 11 = .ok (.bipush 9, 2) := by decide +kernel
theorem d_X9_leastBend_13 : decode prog_1_method_71_code 13 = .ok (.iadd, 1) := by decide +kernel
theorem d_X9_leastBend_14 : decode prog_1_method_71_code 14 = .ok (.ishr, 1) := by decide +kernel
theorem d_X9_leastBend_15 : decode prog_1_method_71_code 15 = .ok (.iconst 1, 1) := by decide +kernel
theorem d_X9_leastBend_16 : decode prog_1_method_71_code 16 = .ok (.iand, 1) := by decide +kernel
theorem d_X9_leastBend_17 : decode prog_1_method_71_code 17 = .ok (.ifCond .ne 9, 3) := by decide +kernel
theorem d_X9_leastBend_20 : decode prog_1_method_71_code 20 = .ok (.iinc 1 1, 3) := by decide +kernel
theorem d_X9_leastBend_23 : decode prog_1_method_71_code 23 = .ok (.goto (-20), 3) := by decide +kernel
theorem d_X9_leastBend_26 : decode prog_1_method_71_code 26 = .ok (.iload_n 1, 1) := by decide +kernel
theorem d_X9_leastBend_27 : decode prog_1_method_71_code 27 = .ok (.ireturn, 1) := by decide +kernel
theorem d_X9_greatestBend_0 : decode prog_1_method_72_code 0 = .ok (.bipush 9, 2) := by decide +kernel
theorem d_X9_greatestBend_2 : decode prog_1_method_72_code 2 = .ok (.istore_n 1, 1) := by decide +kernel
theorem d_X9_greatestBend_3 : decode prog_1_method_72_code 3 = .ok (.iload_n 1, 1) := by decide +kernel
theorem d_X9_greatestBend_4 : decode prog_1_method_72_code 4 = .ok (.bipush (-9), 2) := by decide +kernel
theorem d_X9_greatestBend_6 : decode prog_1_method_72_code 6 = .ok (.if_icmp .le 20, 3) := by decide +kernel
theorem d_X9_greatestBend_9 : decode prog_1_method_72_code 9 = .ok (.iload_n 0, 1) := by decide +kernel
theorem d_X9_greatestBend_10 : decode prog_1_method_72_code 10 = .ok (.iload_n 1, 1) := by decide +kernel
theorem d_X9_greatestBend_11 : decode prog_1_method_72_code 11 = .ok (.bipush 9, 2) := by decide +kernel
theorem d_X9_greatestBend_13 : decode prog_1_method_72_code 13 = .ok (.iadd, 1) := by decide +kernel
theorem d_X9_greatestBend_14 : decode prog_1_method_72_code 14 = .ok (.ishr, 1) := by decide +kernel
theorem d_X9_greatestBend_15 : decode prog_1_method_72_code 15 = .ok (.iconst 1, 1) := by decide +kernel
theorem d_X9_greatestBend_16 : decode prog_1_method_72_code 16 = .ok (.iand, 1) := by decide +kernel
theorem d_X9_greatestBend_17 : decode prog_1_method_72_code 17 = .ok (.ifCond .ne 9, 3) := by decide +kernel
theorem d_X9_greatestBend_20 : decode prog_1_method_72_code 20 = .ok (.iinc 1 (-1), 3) := by decide +kernel
theorem d_X9_greatestBend_23 : decode prog_1_method_72_code 23 = .ok (.goto (-20), 3) := by decide +kernel
theorem d_X9_greatestBend_26 : decode prog_1_method_72_code 26 = .ok (.iload_n 1, 1) := by decide +kernel
theorem d_X9_greatestBend_27 : decode prog_1_method_72_code 27 = .ok (.ireturn, 1) := by decide +kernel
theorem d_X9_isInRows_0 : decode prog_1_method_73_code 0 = .ok (.iload_n 1, 1) := by decide +kernel
theorem d_X9_isInRows_1 : decode prog_1_method_73_code 1 = .ok (.iconst 0, 1) := by decide +kernel
theorem d_X9_isInRows_2 : decode prog_1_method_73_code 2 = .ok (.aload_n 0, 1) := by decide +kernel
theorem d_X9_isInRows_3 : decode prog_1_method_73_code 3 = .ok (.getfield 293, 3) := by decide +kernel
theorem d_X9_isInRows_6 : decode prog_1_method_73_code 6 = .ok (.iconst 1, 1) := by decide +kernel
theorem d_X9_isInRows_7 : decode prog_1_method_73_code 7 = .ok (.isub, 1) := by decide +kernel
theorem d_X9_isInRows_8 : decode prog_1_method_73_code 8 = .ok (.invokestatic 98, 3) := by decide +kernel
theorem d_X9_isInRows_11 : decode prog_1_method_73_code 11 = .ok (.ifCond .eq 16, 3) := by decide +kernel
theorem d_X9_isInRows_14 : decode prog_1_method_73_code 14 = .ok (.iload_n 2, 1) := by decide +kernel
theorem d_X9_isInRows_15 : decode prog_1_method_73_code 15 = .ok (.iconst 0, 1) := by decide +kernel
theorem d_X9_isInRows_16 : decode prog_1_method_73_code 16 = .ok (.iconst 2, 1) := by decide +kernel
theorem d_X9_isInRows_17 : decode prog_1_method_73_code 17 = .ok (.invokestatic 98, 3) := by decide +kernel
theorem d_X9_isInRows_20 : decode prog_1_method_73_code 20 = .ok (.ifCond .eq 7, 3) := by decide +kernel
theorem d_X9_isInRows_23 : decode prog_1_method_73_code 23 = .ok (.iconst 1, 1) := by decide +kernel
theorem d_X9_isInRows_24 : decode prog_1_method_73_code 24 = .ok (.goto 4, 3) := by decide +kernel
theorem d_X9_isInRows_27 : decode prog_1_method_73_code 27 = .ok (.iconst 0, 1) := by decide +kernel
theorem d_X9_isInRows_28 : decode prog_1_method_73_code 28 = .ok (.ireturn, 1) := by decide +kernel
theorem d_X9_dueThrough_0 : decode prog_1_method_74_code 0 = .ok (.iload_n 1, 1) := by decide +kernel
theorem d_X9_dueThrough_1 : decode prog_1_method_74_code 1 = .ok (.ifCond .ne 6, 3) := by decide +kernel
theorem d_X9_dueThrough_4 : decode prog_1_method_74_code 4 = .ok (.bipush (-9), 2) := by decide +kernel
theorem d_X9_dueThrough_6 : decode prog_1_method_74_code 6 = .ok (.ireturn, 1) := by decide +kernel
theorem d_X9_dueThrough_7 : decode prog_1_method_74_code 7 = .ok (.iload_n 1, 1) := by decide +kernel
theorem d_X9_dueThrough_8 : decode prog_1_method_74_code 8 = .ok (.aload_n 0, 1) := by decide +kernel
theorem d_X9_dueThrough_9 : decode prog_1_method_74_code 9 = .ok (.getfield 12, 3) := by decide +kernel
theorem d_X9_dueThrough_12 : decode prog_1_method_74_code 12 = .ok (.getfield 191, 3) := by decide +kernel
theorem d_X9_dueThrough_15 : decode prog_1_method_74_code 15 = .ok (.if_icmp .gt 17, 3) := by decide +kernel
theorem d_X9_dueThrough_18 : decode prog_1_method_74_code 18 = .ok (.aload_n 0, 1) := by decide +kernel
theorem d_X9_dueThrough_19 : decode prog_1_method_74_code 19 = .ok (.getfield 12, 3) := by decide +kernel
theorem d_X9_dueThrough_22 : decode prog_1_method_74_code 22 = .ok (.getfield 194, 3) := by decide +kernel
theorem d_X9_dueThrough_25 : decode prog_1_method_74_code 25 = .ok (.iload_n 1, 1) := by decide +kernel
theorem d_X9_dueThrough_26 : decode prog_1_method_74_code 26 = .ok (.iconst 1, 1) := by decide +kernel
theorem d_X9_dueThrough_27 : decode prog_1_method_74_code 27 = .ok (.isub, 1) := by decide +kernel
theorem d_X9_dueThrough_28 : decode prog_1_method_74_code 28 = .ok (.iaload, 1) := by decide +kernel
theorem d_X9_dueThrough_29 : decode prog_1_method_74_code 29 = .ok (.goto 5, 3) := by decide +kernel
theorem d_X9_dueThrough_32 : decode prog_1_method_74_code 32 = .ok (.bipush 9, 2) := by decide +kernel
theorem d_X9_dueThrough_34 : decode prog_1_method_74_code 34 = .ok (.ireturn, 1) := by decide +kernel
theorem d_X9_isRightRow_0 : decode prog_1_method_75_code 0 = .ok (.aload_n 0, 1) := by decide +kernel
theorem d_X9_isRightRow_1 : decode prog_1_method_75_code 1 = .ok (.getfield 12, 3) := by decide +kernel
theorem d_X9_isRightRow_4 : decode prog_1_method_75_code 4 = .ok (.getfield 191, 3) := by decide +kernel
theorem d_X9_isRightRow_7 : decode prog_1_method_75_code 7 = .ok (.iconst 1, 1) := by decide +kernel
theorem d_X9_isRightRow_8 : decode prog_1_method_75_code 8 = .ok (.iadd, 1) := by decide +kernel
theorem d_X9_isRightRow_9 : decode prog_1_method_75_code 9 = .ok (.istore_n 3, 1) := by decide +kernel
theorem d_X9_isRightRow_10 : decode prog_1_method_75_code 10 = .ok (.iload_n 1, 1) := by decide +kernel
theorem d_X9_isRightRow_11 : decode prog_1_method_75_code 11 = .ok (.iload_n 3, 1) := by decide +kernel
theorem d_X9_isRightRow_12 : decode prog_1_method_75_code 12 = .ok (.if_icmp .gt 18, 3) := by decide +kernel
theorem d_X9_isRightRow_15 : decode prog_1_method_75_code 15 = .ok (.iload_n 1, 1) := by decide +kernel
theorem d_X9_isRightRow_16 : decode prog_1_method_75_code 16 = .ok (.aload_n 0, 1) := by decide +kernel
theorem d_X9_isRightRow_17 : decode prog_1_method_75_code 17 = .ok (.getfield 293, 3) := by decide +kernel
theorem d_X9_isRightRow_20 : decode prog_1_method_75_code 20 = .ok (.iconst 1, 1) := by decide +kernel
theorem d_X9_isRightRow_21 : decode prog_1_method_75_code 21 = .ok (.isub, 1) := by decide +kernel
theorem d_X9_isRightRow_22 : decode prog_1_method_75_code 22 = .ok (.if_icmp .ne 10, 3) := by decide +kernel
theorem d_X9_isRightRow_25 : decode prog_1_method_75_code 25 = .ok (.iload_n 1, 1) := by decide +kernel
theorem d_X9_isRightRow_26 : decode prog_1_method_75_code 26 = .ok (.iload_n 3, 1) := by decide +kernel
theorem d_X9_isRightRow_27 : decode prog_1_method_75_code 27 = .ok (.if_icmp .eq 5, 3) := by decide +kernel
theorem d_X9_isRightRow_30 : decode prog_1_method_75_code 30 = .ok (.iconst 0, 1) := by decide +kernel
theorem d_X9_isRightRow_31 : decode prog_1_method_75_code 31 = .ok (.ireturn, 1) := by decide +kernel
theorem d_X9_isRightRow_32 : decode prog_1_method_75_code 32 = .ok (.aload_n 0, 1) := by decide +kernel
theorem d_X9_isRightRow_33 : decode prog_1_method_75_code 33 = .ok (.getfield 63, 3) := by decide +kernel
theorem d_X9_isRightRow_36 : decode prog_1_method_75_code 36 = .ok (.iconst 3, 1) := by decide +kernel
theorem d_X9_isRightRow_37 : decode prog_1_method_75_code 37 = .ok (.iload_n 1, 1) := by decide +kernel
theorem d_X9_isRightRow_38 : decode prog_1_method_75_code 38 = .ok (.imul, 1) := by decide +kernel
theorem d_X9_isRightRow_39 : decode prog_1_method_75_code 39 = .ok (.iaload, 1) := by decide +kernel
theorem d_X9_isRightRow_40 : decode prog_1_method_75_code 40 = .ok (.aload_n 0, 1) := by decide +kernel
theorem d_X9_isRightRow_41 : decode prog_1_method_75_code 41 = .ok (.iload_n 1, 1) := by decide +kernel
theorem d_X9_isRightRow_42 : decode prog_1_method_75_code 42 = .ok (.invokevirtual 296, 3) := by decide +kernel
theorem d_X9_isRightRow_45 : decode prog_1_method_75_code 45 = .ok (.if_icmp .ne 51, 3) := by decide +kernel
theorem d_X9_isRightRow_48 : decode prog_1_method_75_code 48 = .ok (.aload_n 0, 1) := by decide +kernel
theorem d_X9_isRightRow_49 : decode prog_1_method_75_code 49 = .ok (.getfield 63, 3) := by decide +kernel
theorem d_X9_isRightRow_52 : decode prog_1_method_75_code 52 = .ok (.iconst 3, 1) := by decide +kernel
theorem d_X9_isRightRow_53 : decode prog_1_method_75_code 53 = .ok (.iload_n 1, 1) := by decide +kernel
theorem d_X9_isRightRow_54 : decode prog_1_method_75_code 54 = .ok (.imul, 1) := by decide +kernel
theorem d_X9_isRightRow_55 : decode prog_1_method_75_code 55 = .ok (.iconst 1, 1) := by decide +kernel
theorem d_X9_isRightRow_56 : decode prog_1_method_75_code 56 = .ok (.iadd, 1) := by decide +kernel
theorem d_X9_isRightRow_57 : decode prog_1_method_75_code 57 = .ok (.iaload, 1) := by decide +kernel
theorem d_X9_isRightRow_58 : decode prog_1_method_75_code 58 = .ok (.aload_n 0, 1) := by decide +kernel
theorem d_X9_isRightRow_59 : decode prog_1_method_75_code 59 = .ok (.getfield 32, 3) := by decide +kernel
theorem d_X9_isRightRow_62 : decode prog_1_method_75_code 62 = .ok (.iload_n 1, 1) := by decide +kernel
theorem d_X9_isRightRow_63 : decode prog_1_method_75_code 63 = .ok (.iload_n 2, 1) := by decide +kernel
theorem d_X9_isRightRow_64 : decode prog_1_method_75_code 64 = .ok (.invokevirtual 299, 3) := by decide +kernel
theorem d_X9_isRightRow_67 : decode prog_1_method_75_code 67 = .ok (.if_icmp .ne 29, 3) := by decide +kernel
theorem d_X9_isRightRow_70 : decode prog_1_method_75_code 70 = .ok (.aload_n 0, 1) := by decide +kernel
theorem d_X9_isRightRow_71 : decode prog_1_method_75_code 71 = .ok (.getfield 63, 3) := by decide +kernel
theorem d_X9_isRightRow_74 : decode prog_1_method_75_code 74 = .ok (.iconst 3, 1) := by decide +kernel
theorem d_X9_isRightRow_75 : decode prog_1_method_75_code 75 = .ok (.iload_n 1, 1) := by decide +kernel
theorem d_X9_isRightRow_76 : decode prog_1_method_75_code 76 = .ok (.imul, 1) := by decide +kernel
theorem d_X9_isRightRow_77 : decode prog_1_method_75_code 77 = .ok (.iconst 2, 1) := by decide +kernel
theorem d_X9_isRightRow_78 : decode prog_1_method_75_code 78 = .ok (.iadd, 1) := by decide +kernel
theorem d_X9_isRightRow_79 : decode prog_1_method_75_code 79 = .ok (.iaload, 1) := by decide +kernel
theorem d_X9_isRightRow_80 : decode prog_1_method_75_code 80 = .ok (.aload_n 0, 1) := by decide +kernel
theorem d_X9_isRightRow_81 : decode prog_1_method_75_code 81 = .ok (.getfield 32, 3) := by decide +kernel
theorem d_X9_isRightRow_84 : decode prog_1_method_75_code 84 = .ok (.iload_n 1, 1) := by decide +kernel
theorem d_X9_isRightRow_85 : decode prog_1_method_75_code 85 = .ok (.iload_n 2, 1) := by decide +kernel
theorem d_X9_isRightRow_86 : decode prog_1_method_75_code 86 = .ok (.invokevirtual 303, 3) := by decide +kernel
theorem d_X9_isRightRow_89 : decode prog_1_method_75_code 89 = .ok (.if_icmp .ne 7, 3) := by decide +kernel
theorem d_X9_isRightRow_92 : decode prog_1_method_75_code 92 = .ok (.iconst 1, 1) := by decide +kernel
theorem d_X9_isRightRow_93 : decode prog_1_method_75_code 93 = .ok (.goto 4, 3) := by decide +kernel
theorem d_X9_isRightRow_96 : decode prog_1_method_75_code 96 = .ok (.iconst 0, 1) := by decide +kernel
theorem d_X9_isRightRow_97 : decode prog_1_method_75_code 97 = .ok (.ireturn, 1) := by decide +kernel
theorem d_X9_putOnShelf_0 : decode prog_1_method_76_code 0 = .ok (.aload_n 0, 1) := by decide +kernel
theorem d_X9_putOnShelf_1 : decode prog_1_method_76_code 1 = .ok (.getfield 75, 3) := by decide +kernel
theorem d_X9_putOnShelf_4 : decode prog_1_method_76_code 4 = .ok (.iload_n 1, 1) := by decide +kernel
theorem d_X9_putOnShelf_5 : decode prog_1_method_76_code 5 = .ok (.iload_n 2, 1) := by decide +kernel
theorem d_X9_putOnShelf_6 : decode prog_1_method_76_code 6 = .ok (.iastore, 1) := by decide +kernel
theorem d_X9_putOnShelf_7 : decode prog_1_method_76_code 7 = .ok (.aload_n 0, 1) := by decide +kernel
theorem d_X9_putOnShelf_8 : decode prog_1_method_76_code 8 = .ok (.getfield 72, 3) := by decide +kernel
theorem d_X9_putOnShelf_11 : decode prog_1_method_76_code 11 = .ok (.iload_n 1, 1) := by decide +kernel
theorem d_X9_putOnShelf_12 : decode prog_1_method_76_code 12 = .ok (.aload_n 3, 1) := by decide +kernel
theorem d_X9_putOnShelf_13 : decode prog_1_method_76_code 13 = .ok (.aastore, 1) := by decide +kernel
theorem d_X9_putOnShelf_14 : decode prog_1_method_76_code 14 = .ok (.iconst 1, 1) := by decide +kernel
theorem d_X9_putOnShelf_15 : decode prog_1_method_76_code 15 = .ok (.ireturn, 1) := by decide +kernel
