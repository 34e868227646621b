theorem d_X0_init_0 : decode prog_2_method_1_code 0 = .ok (.aload_n 0, 1) := by decide +kernel
theorem d_X0_init_1 : decode prog_2_method_1_code 1 = .ok (.invokespecial 3, 3) := by decide +kernel
theorem d_X0_init_4 : decode prog_2_method_1_code 4 = .ok (.aload_n 0, 1) := by decide +kernel
theorem d_X0_init_5 : decode prog_2_method_1_code 5 = .ok (.new 9, 3) := by decide +kernel
theorem d_X0_init_8 : decode prog_2_method_1_code 8 = .ok (.dup, 1) := by decide +kernel
theorem d_X0_init_9 : decode prog_2_method_1_code 9 = .ok (.invokespecial 11, 3) := by decide +kernel
theorem d_X0_init_12 : decode prog_2_method_1_code 12 = .ok (.putfield 12, 3) := by decide +kernel
theorem d_X0_init_15 : decode prog_2_method_1_code 15 = .ok (.aload_n 0, 1) := by decide +kernel
theorem d_X0_init_16 : decode prog_2_method_1_code 16 = .ok (.sipush 5632, 3) := by decide +kernel
theorem d_X0_init_19 : decode prog_2_method_1_code 19 = .ok (.newarray .int, 2) := by decide +kernel
theorem d_X0_init_21 : decode prog_2_method_1_code 21 = .ok (.putfield 18, 3) := by decide +kernel
theorem d_X0_init_24 : decode prog_2_method_1_code 24 = .ok (.aload_n 0, 1) := by decide +kernel
theorem d_X0_init_25 : decode prog_2_method_1_code 25 = .ok (.aload_n 1, 1) := by decide +kernel
theorem d_X0_init_26 : decode prog_2_method_1_code 26 = .ok (.putfield 22, 3) := by decide +kernel
theorem d_X0_init_29 : decode prog_2_method_1_code 29 = .ok (.return_, 1) := by decide +kernel
theorem d_X0_lasting_0 : decode prog_2_method_2_code 0 = .ok (.aload_n 0, 1) := by decide +kernel
theorem d_X0_lasting_1 : decode prog_2_method_2_code 1 = .ok (.getfield 12, 3) := by decide +kernel
theorem d_X0_lasting_4 : decode prog_2_method_2_code 4 = .ok (.aload_n 1, 1) := by decide +kernel
theorem d_X0_lasting_5 : decode prog_2_method_2_code 5 = .ok (.invokevirtual 26, 3) := by decide +kernel
theorem d_X0_lasting_8 : decode prog_2_method_2_code 8 = .ok (.bipush 20, 2) := by decide +kernel
theorem d_X0_lasting_10 : decode prog_2_method_2_code 10 = .ok (.istore_n 2, 1) := by decide +kernel
theorem d_X0_lasting_11 : decode prog_2_method_2_code 11 = .ok (.iload_n 2, 1) := by decide +kernel
theorem d_X0_lasting_12 : decode prog_2_method_2_code 12 = .ok (.ifCond .lt 52, 3) := by decide +kernel
theorem d_X0_lasting_15 : decode prog_2_method_2_code 15 = .ok (.aload_n 0, 1) := by decide +kernel
theorem d_X0_lasting_16 : decode prog_2_method_2_code 16 = .ok (.getfield 12, 3) := by decide +kernel
theorem d_X0_lasting_19 : decode prog_2_method_2_code 19 = .ok (.getfield 30, 3) := by decide +kernel
theorem d_X0_lasting_22 : decode prog_2_method_2_code 22 = .ok (.iconst 2, 1) := by decide +kernel
theorem d_X0_lasting_23 : decode prog_2_method_2_code 23 = .ok (.getstatic 33, 3) := by decide +kernel
theorem d_X0_lasting_26 : decode prog_2_method_2_code 26 = .ok (.iconst 2, 1) := by decide +kernel
theorem d_X0_lasting_27 : decode prog_2_method_2_code 27 = .ok (.iaload, 1) := by decide +kernel
theorem d_X0_lasting_28 : decode prog_2_method_2_code 28 = .ok (.aload_n 1, 1) := by decide +kernel
theorem d_X0_lasting_29 : decode prog_2_method_2_code 29 = .ok (.getfield 30, 3) := by decide +kernel
theorem d_X0_lasting_32 : decode prog_2_method_2_code 32 = .ok (.iconst 2, 1) := by decide +kernel
theorem d_X0_lasting_33 : decode prog_2_method_2_code 33 = .ok (.iaload, 1) := by decide +kernel
theorem d_X0_lasting_34 : decode prog_2_method_2_code 34 = .ok (.iload_n 2, 1) := by decide +kernel
theorem d_X0_lasting_35 : decode prog_2_method_2_code 35 = .ok (.iadd, 1) := by decide +kernel
theorem d_X0_lasting_36 : decode prog_2_method_2_code 36 = .ok (.invokestatic 36, 3) := by decide +kernel
theorem d_X0_lasting_39 : decode prog_2_method_2_code 39 = .ok (.iastore, 1) := by decide +kernel
theorem d_X0_lasting_40 : decode prog_2_method_2_code 40 = .ok (.aload_n 0, 1) := by decide +kernel
theorem d_X0_lasting_41 : decode prog_2_method_2_code 41 = .ok (.getfield 22, 3) := by decide +kernel
theorem d_X0_lasting_44 : decode prog_2_method_2_code 44 = .ok (.aload_n 0, 1) := by decide +kernel
theorem d_X0_lasting_45 : decode prog_2_method_2_code 45 = .ok (.getfield 12, 3) := by decide +kernel
theorem d_X0_lasting_48 : decode prog_2_method_2_code 48 = .ok (.invokevirtual 42, 3) := by decide +kernel
theorem d_X0_lasting_51 : decode prog_2_method_2_code 51 = .ok (.aload_n 0, 1) := by decide +kernel
theorem d_X0_lasting_52 : decode prog_2_method_2_code 52 = .ok (.iload_n 2, 1) := by decide +kernel
theorem d_X0_lasting_53 : decode prog_2_method_2_code 53 = .ok (.iconst 0, 1) := by decide +kernel
theorem d_X0_lasting_54 : decode prog_2_method_2_code 54 = .ok (.iconst 0, 1) := by decide +kernel
theorem d_X0_lasting_55 : decode prog_2_method_2_code 55 = .ok (.invokevirtual 47, 3) := by decide +kernel
theorem d_X0_lasting_58 : decode prog_2_method_2_code 58 = .ok (.iinc 2 (-1), 3) := by decide +kernel
theorem d_X0_lasting_61 : decode prog_2_method_2_code 61 = .ok (.goto (-50), 3) := by decide +kernel
theorem d_X0_lasting_64 : decode prog_2_method_2_code 64 = .ok (.aload_n 0, 1) := by decide +kernel
theorem d_X0_lasting_65 : decode prog_2_method_2_code 65 = .ok (.getfield 18, 3) := by decide +kernel
theorem d_X0_lasting_68 : decode prog_2_method_2_code 68 = .ok (.aload_n 0, 1) := by decide +kernel
theorem d_X0_lasting_69 : decode prog_2_method_2_code 69 = .ok (.invokevirtual 51, 3) := by decide +kernel
theorem d_X0_lasting_72 : decode prog_2_method_2_code 72 = .ok (.iaload, 1) := by decide +kernel
theorem d_X0_lasting_73 : decode prog_2_method_2_code 73 = .ok (.ireturn, 1) := by decide +kernel
theorem d_X0_turnsNow_0 : decode prog_2_method_3_code 0 = .ok (.iconst 0, 1) := by decide +kernel
theorem d_X0_turnsNow_1 : decode prog_2_method_3_code 1 = .ok (.istore_n 1, 1) := by decide +kernel
theorem d_X0_turnsNow_2 : decode prog_2_method_3_code 2 = .ok (.iconst 0, 1) := by decide +kernel
theorem d_X0_turnsNow_3 : decode prog_2_method_3_code 3 = .ok (.istore_n 2, 1) := by decide +kernel
theorem d_X0_turnsNow_4 : decode prog_2_method_3_code 4 = .ok (.iload_n 2, 1) := by decide +kernel
theorem d_X0_turnsNow_5 : decode prog_2_method_3_code 5 = .ok (.aload_n 0, 1) := by decide +kernel
theorem d_X0_turnsNow_6 : decode prog_2_method_3_code 6 = .ok (.getfield 12, 3) := by decide +kernel
theorem d_X0_turnsNow_9 : decode prog_2_method_3_code 9 = .ok (.getfield 55, 3) := by decide +kernel
theorem d_X0_turnsNow_12 : decode prog_2_method_3_code 12 = .ok (.if_icmp .ge 25, 3) := by decide +kernel
theorem d_X0_turnsNow_15 : decode prog_2_method_3_code 15 = .ok (.iload_n 1, 1) := by decide +kernel
theorem d_X0_turnsNow_16 : decode prog_2_method_3_code 16 = .ok (.aload_n 0, 1) := by decide +kernel
theorem d_X0_turnsNow_17 : decode prog_2_method_3_code 17 = .ok (.getfield 12, 3) := by decide +kernel
theorem d_X0_turnsNow_20 : decode prog_2_method_3_code 20 = .ok (.getfield 59, 3) := by decide +kernel
theorem d_X0_turnsNow_23 : decode prog_2_method_3_code 23 = .ok (.iload_n 2, 1) := by decide +kernel
theorem d_X0_turnsNow_24 : decode prog_2_method_3_code 24 = .ok (.iaload, 1) := by decide +kernel
theorem d_X0_turnsNow_25 : decode prog_2_method_3_code 25 = .ok (.iconst 2, 1) := by decide +kernel
theorem d_X0_turnsNow_26 : decode prog_2_method_3_code 26 = .ok (.iload_n 2, 1) := by decide +kernel
theorem d_X0_turnsNow_27 : decode prog_2_method_3_code 27 = .ok (.imul, 1) := by decide +kernel
theorem d_X0_turnsNow_28 : decode prog_2_method_3_code 28 = .ok (.ishl, 1) := by decide +kernel
theorem d_X0_turnsNow_29 : decode prog_2_method_3_code 29 = .ok (.ior, 1) := by decide +kernel
theorem d_X0_turnsNow_30 : decode prog_2_method_3_code 30 = .ok (.istore_n 1, 1) := by decide +kernel
theorem d_X0_turnsNow_31 : decode prog_2_method_3_code 31 = .ok (.iinc 2 1, 3) := by decide +kernel
theorem d_X0_turnsNow_34 : decode prog_2_method_3_code 34 = .ok (.goto (-30), 3) := by decide +kernel
theorem d_X0_turnsNow_37 : decode prog_2_method_3_code 37 = .ok (.iload_n 1, 1) := by decide +kernel
theorem d_X0_turnsNow_38 : decode prog_2_method_3_code 38 = .ok (.ireturn, 1) := by decide +kernel
theorem d_X0_fill_0 : decode prog_2_method_4_code 0 = .ok (.iload_n 2, 1) := by decide +kernel
theorem d_X0_fill_1 : decode prog_2_method_4_code 1 = .ok (.aload_n 0, 1) := by decide +kernel
theorem d_X0_fill_2 : decode prog_2_method_4_code 2 = .ok (.getfield 12, 3) := by decide +kernel
theorem d_X0_fill_5 : decode prog_2_method_4_code 5 = .ok (.getfield 55, 3) := by decide +kernel
theorem d_X0_fill_8 : decode prog_2_method_4_code 8 = .ok (.if_icmp .lt 48, 3) := by decide +kernel
theorem d_X0_fill_11 : decode prog_2_method_4_code 11 = .ok (.aload_n 0, 1) := by decide +kernel
theorem d_X0_fill_12 : decode prog_2_method_4_code 12 = .ok (.getfield 22, 3) := by decide +kernel
theorem d_X0_fill_15 : decode prog_2_method_4_code 15 = .ok (.iload_n 2, 1) := by decide +kernel
theorem d_X0_fill_16 : decode prog_2_method_4_code 16 = .ok (.invokevirtual 62, 3) := by decide +kernel
theorem d_X0_fill_19 : decode prog_2_method_4_code 19 = .ok (.aload_n 0, 1) := by decide +kernel
theorem d_X0_fill_20 : decode prog_2_method_4_code 20 = .ok (.getfield 18, 3) := by decide +kernel
theorem d_X0_fill_23 : decode prog_2_method_4_code 23 = .ok (.iload_n 1, 1) := by decide +kernel
theorem d_X0_fill_24 : decode prog_2_method_4_code 24 = .ok (.sipush 256, 3) := by decide +kernel
theorem d_X0_fill_27 : decode prog_2_method_4_code 27 = .ok (.imul, 1) := by decide +kernel
theorem d_X0_fill_28 : decode prog_2_method_4_code 28 = .ok (.iload_n 3, 1) := by decide +kernel
theorem d_X0_fill_29 : decode prog_2_method_4_code 29 = .ok (.iadd, 1) := by decide +kernel
theorem d_X0_fill_30 : decode prog_2_method_4_code 30 = .ok (.aload_n 0, 1) := by decide +kernel
theorem d_X0_fill_31 : decode prog_2_method_4_code 31 = .ok (.getfield 22, 3) := by decide +kernel
theorem d_X0_fill_34 : decode prog_2_method_4_code 34 = .ok (.invokevirtual 66, 3) := by decide +kernel
theorem d_X0_fill_37 : decode prog_2_method_4_code 37 = .ok (.ifCond .eq 16, 3) := by decide +kernel
theorem d_X0_fill_40 : decode prog_2_method_4_code 40 = .ok (.iconst 1, 1) := by decide +kernel
theorem d_X0_fill_41 : decode prog_2_method_4_code 41 = .ok (.aload_n 0, 1) := by decide +kernel
theorem d_X0_fill_42 : decode prog_2_method_4_code 42 = .ok (.iload_n 1, 1) := by decide +kernel
theorem d_X0_fill_43 : decode prog_2_method_4_code 43 = .ok (.iconst 1, 1) := by decide +kernel
theorem d_X0_fill_44 : decode prog_2_method_4_code 44 = .ok (.iadd, 1) := by decide +kernel
theorem d_X0_fill_45 : decode prog_2_method_4_code 45 = .ok (.iload_n 3, 1) := by decide +kernel
theorem d_X0_fill_46 : decode prog_2_method_4_code 46 = .ok (.invokevirtual 70, 3) := by decide +kernel
theorem d_X0_fill_49 : decode prog_2_method_4_code 49 = .ok (.iadd, 1) := by decide +kernel
theorem d_X0_fill_50 : decode prog_2_method_4_code 50 = .ok (.goto 4, 3) := by decide +kernel
theorem d_X0_fill_53 : decode prog_2_method_4_code 53 = .ok (.iconst 0, 1) := by decide +kernel
theorem d_X0_fill_54 : decode prog_2_method_4_code 54 = .ok (.iastore, 1) := by decide +kernel
theorem d_X0_fill_55 : decode prog_2_method_4_code 55 = .ok (.return_, 1) := by decide +kernel
theorem d_X0_fill_56 : decode prog_2_method_4_code 56 = .ok (.iconst 0, 1) := by decide +kernel
theorem d_X0_fill_57 : decode prog_2_method_4_code 57 = .ok (.istore 4, 2) := by decide +kernel
theorem d_X0_fill_59 : decode prog_2_method_4_code 59 = .ok (.iload 4, 2) := by decide +kernel
theorem d_X0_fill_61 : decode prog_2_method_4_code 61 = .ok (.iconst 4, 1) := by decide +kernel
theorem d_X0_fill_62 : decode prog_2_method_4_code 62 = .ok (.if_icmp .ge 44, 3) := by decide +kernel
theorem d_X0_fill_65 : decode prog_2_method_4_code 65 = .ok (.aload_n 0, 1) := by decide +kernel
theorem d_X0_fill_66 : decode prog_2_method_4_code 66 = .ok (.getfield 22, 3) := by decide +kernel
theorem d_X0_fill_69 : decode prog_2_method_4_code 69 = .ok (.iload_n 2, 1) := by decide +kernel
theorem d_X0_fill_70 : decode prog_2_method_4_code 70 = .ok (.aload_n 0, 1) := by decide +kernel
theorem d_X0_fill_71 : decode prog_2_method_4_code 71 = .ok (.getfield 12, 3) := by decide +kernel
theorem d_X0_fill_74 : decode prog_2_method_4_code 74 = .ok (.getfield 73, 3) := by decide +kernel
theorem d_X0_fill_77 : decode prog_2_method_4_code 77 = .ok (.iload_n 2, 1) := by decide +kernel
theorem d_X0_fill_78 : decode prog_2_method_4_code 78 = .ok (.iaload, 1) := by decide +kernel
theorem d_X0_fill_79 : decode prog_2_method_4_code 79 = .ok (.iload 4, 2) := by decide +kernel
theorem d_X0_fill_81 : decode prog_2_method_4_code 81 = .ok (.invokevirtual 76, 3) := by decide +kernel
theorem d_X0_fill_84 : decode prog_2_method_4_code 84 = .ok (.aload_n 0, 1) := by decide +kernel
theorem d_X0_fill_85 : decode prog_2_method_4_code 85 = .ok (.iload_n 1, 1) := by decide +kernel
theorem d_X0_fill_86 : decode prog_2_method_4_code 86 = .ok (.iload_n 2, 1) := by decide +kernel
theorem d_X0_fill_87 : decode prog_2_method_4_code 87 = .ok (.iconst 1, 1) := by decide +kernel
theorem d_X0_fill_88 : decode prog_2_method_4_code 88 = .ok (.iadd, 1) := by decide +kernel
theorem d_X0_fill_89 : decode prog_2_method_4_code 89 = .ok (.iload_n 3, 1) := by decide +kernel
theorem d_X0_fill_90 : decode prog_2_method_4_code 90 = .ok (.iload 4, 2) := by decide +kernel
theorem d_X0_fill_92 : decode prog_2_method_4_code 92 = .ok (.iconst 2, 1) := by decide +kernel
theorem d_X0_fill_93 : decode prog_2_method_4_code 93 = .ok (.iload_n 2, 1) := by decide +kernel
theorem d_X0_fill_94 : decode prog_2_method_4_code 94 = .ok (.imul, 1) := by decide +kernel
theorem d_X0_fill_95 : decode prog_2_method_4_code 95 = .ok (.ishl, 1) := by decide +kernel
theorem d_X0_fill_96 : decode prog_2_method_4_code 96 = .ok (.ior, 1) := by decide +kernel
theorem d_X0_fill_97 : decode prog_2_method_4_code 97 = .ok (.invokevirtual 47, 3) := by decide +kernel
theorem d_X0_fill_100 : decode prog_2_method_4_code 100 = .ok (.iinc 4 1, 3) := by decide +kernel
theorem d_X0_fill_103 : decode prog_2_method_4_code 103 = .ok (.goto (-44), 3) := by decide +kernel
theorem d_X0_fill_106 : decode prog_2_method_4_code 106 = .ok (.return_, 1) := by decide +kernel
theorem d_X0_longest_0 : decode prog_2_method_5_code 0 = .ok (.aload_n 0, 1) := by decide +kernel
theorem d_X0_longest_1 : decode prog_2_method_5_code 1 = .ok (.getfield 18, 3) := by decide +kernel
theorem d_X0_longest_4 : decode prog_2_method_5_code 4 = .ok (.iload_n 1, 1) := by decide +kernel
theorem d_X0_longest_5 : decode prog_2_method_5_code 5 = .ok (.sipush 256, 3) := by decide +kernel
theorem d_X0_longest_8 : decode prog_2_method_5_code 8 = .ok (.imul, 1) := by decide +kernel
theorem d_X0_longest_9 : decode prog_2_method_5_code 9 = .ok (.iload_n 2, 1) := by decide +kernel
theorem d_X0_longest_10 : decode prog_2_method_5_code 10 = .ok (.iadd, 1) := by decide +kernel
theorem d_X0_longest_11 : decode prog_2_method_5_code 11 = .ok (.iaload, 1) := by decide +kernel
theorem d_X0_longest_12 : decode prog_2_method_5_code 12 = .ok (.istore_n 3, 1) := by decide +kernel
theorem d_X0_longest_13 : decode prog_2_method_5_code 13 = .ok (.iconst 0, 1) := by decide +kernel
theorem d_X0_longest_14 : decode prog_2_method_5_code 14 = .ok (.istore 4, 2) := by decide +kernel
theorem d_X0_longest_16 : decode prog_2_method_5_code 16 = .ok (.iload 4, 2) := by decide +kernel
theorem d_X0_longest_18 : decode prog_2_method_5_code 18 = .ok (.aload_n 0, 1) := by decide +kernel
theorem d_X0_longest_19 : decode prog_2_method_5_code 19 = .ok (.getfield 12, 3) := by decide +kernel
theorem d_X0_longest_22 : decode prog_2_method_5_code 22 = .ok (.getfield 55, 3) := by decide +kernel
theorem d_X0_longest_25 : decode prog_2_method_5_code 25 = .ok (.if_icmp .ge 31, 3) := by decide +kernel
theorem d_X0_longest_28 : decode prog_2_method_5_code 28 = .ok (.iload_n 3, 1) := by decide +kernel
theorem d_X0_longest_29 : decode prog_2_method_5_code 29 = .ok (.aload_n 0, 1) := by decide +kernel
theorem d_X0_longest_30 : decode prog_2_method_5_code 30 = .ok (.getfield 18, 3) := by decide +kernel
theorem d_X0_longest_33 : decode prog_2_method_5_code 33 = .ok (.iload_n 1, 1) := by decide +kernel
theorem d_X0_longest_34 : decode prog_2_method_5_code 34 = .ok (.sipush 256, 3) := by decide +kernel
theorem d_X0_longest_37 : decode prog_2_method_5_code 37 = .ok (.imul, 1) := by decide +kernel
theorem d_X0_longest_38 : decode prog_2_method_5_code 38 = .ok (.iload_n 2, 1) := by decide +kernel
theorem d_X0_longest_39 : decode prog_2_method_5_code 39 = .ok (.iload 4, 2) := by decide +kernel
theorem d_X0_longest_41 : decode prog_2_method_5_code 41 = .ok (.invokestatic 79, 3) := by decide +kernel
theorem d_X0_longest_44 : decode prog_2_method_5_code 44 = .ok (.iadd, 1) := by decide +kernel
theorem d_X0_longest_45 : decode prog_2_method_5_code 45 = .ok (.iaload, 1) := by decide +kernel
theorem d_X0_longest_46 : decode prog_2_method_5_code 46 = .ok (.invokestatic 82, 3) := by decide +kernel
theorem d_X0_longest_49 : decode prog_2_method_5_code 49 = .ok (.istore_n 3, 1) := by decide +kernel
theorem d_X0_longest_50 : decode prog_2_method_5_code 50 = .ok (.iinc 4 1, 3) := by decide +kernel
theorem d_X0_longest_53 : decode prog_2_method_5_code 53 = .ok (.goto (-37), 3) := by decide +kernel
theorem d_X0_longest_56 : decode prog_2_method_5_code 56 = .ok (.iload_n 3, 1) := by decide +kernel
theorem d_X0_longest_57 : decode prog_2_method_5_code 57 = .ok (.ireturn, 1) := by decide +kernel
theorem d_X0_quarterMore_0 : decode prog_2_method_6_code 0 = .ok (.iload_n 0, 1) := by decide +kernel
theorem d_X0_quarterMore_1 : decode prog_2_method_6_code 1 = .ok (.iconst 2, 1) := by decide +kernel
theorem d_X0_quarterMore_2 : decode prog_2_method_6_code 2 = .ok (.iload_n 1, 1) := by decide +kernel
theorem d_X0_quarterMore_3 : decode prog_2_method_6_code 3 = .ok (.imul, 1) := by decide +kernel
theorem d_X0_quarterMore_4 : decode prog_2_method_6_code 4 = .ok (.ishr, 1) := by decide +kernel
theorem d_X0_quarterMore_5 : decode prog_2_method_6_code 5 = .ok (.iconst 1, 1) := by decide +kernel
theorem d_X0_quarterMore_6 : decode prog_2_method_6_code 6 = .ok (.iadd, 1) := by decide +kernel
theorem d_X0_quarterMore_7 : decode prog_2_method_6_code 7 = .ok (.iconst 3, 1) := by decide +kernel
theorem d_X0_quarterMore_8 : decode prog_2_method_6_code 8 = .ok (.iand, 1) := by decide +kernel
theorem d_X0_quarterMore_9 : decode prog_2_method_6_code 9 = .ok (.istore_n 2, 1) := by decide +kernel
theorem d_X0_quarterMore_10 : decode prog_2_method_6_code 10 = .ok (.iload_n 0, 1) := by decide +kernel
theorem d_X0_quarterMore_11 : decode prog_2_method_6_code 11 = .ok (.iconst 3, 1) := by decide +kernel
theorem d_X0_quarterMore_12 : decode prog_2_method_6_code 12 = .ok (.iconst 2, 1) := by decide +kernel
theorem d_X0_quarterMore_13 : decode prog_2_method_6_code 13 = .ok (.iload_n 1, 1) := by decide +kernel
theorem d_X0_quarterMore_14 : decode prog_2_method_6_code 14 = .ok (.imul, 1) := by decide +kernel
theorem d_X0_quarterMore_15 : decode prog_2_method_6_code 15 = .ok (.ishl, 1) := by decide +kernel
theorem d_X0_quarterMore_16 : decode prog_2_method_6_code 16 = .ok (.iconst (-1), 1) := by decide +kernel
theorem d_X0_quarterMore_17 : decode prog_2_method_6_code 17 = .ok (.ixor, 1) := by decide +kernel
theorem d_X0_quarterMore_18 : decode prog_2_method_6_code 18 = .ok (.iand, 1) := by decide +kernel
theorem d_X0_quarterMore_19 : decode prog_2_method_6_code 19 = .ok (.iload_n 2, 1) := by decide +kernel
theorem d_X0_quarterMore_20 : decode prog_2_method_6_code 20 = .ok (.iconst 2, 1) := by decide +kernel
theorem d_X0_quarterMore_21 : decode prog_2_method_6_code 21 = .ok (.iload_n 1, 1) := by decide +kernel
theorem d_X0_quarterMore_22 : decode prog_2_method_6_code 22 = .ok (.imul, 1) := by decide +kernel
theorem d_X0_quarterMore_23 : decode prog_2_method_6_code 23 = .ok (.ishl, 1) := by decide +kernel
theorem d_X0_quarterMore_24 : decode prog_2_method_6_code 24 = .ok (.ior, 1) := by decide +kernel
theorem d_X0_quarterMore_25 : decode prog_2_method_6_code 25 = .ok (.ireturn, 1) := by decide +kernel
theorem d_X0_placeTurned_0 : decode prog_2_method_7_code 0 = .ok (.aload_n 0, 1) := by decide +kernel
theorem d_X0_placeTurned_1 : decode prog_2_method_7_code 1 = .ok (.invokevirtual 51, 3) := by decide +kernel
theorem d_X0_placeTurned_4 : decode prog_2_method_7_code 4 = .ok (.istore_n 2, 1) := by decide +kernel
theorem d_X0_placeTurned_5 : decode prog_2_method_7_code 5 = .ok (.iconst 4, 1) := by decide +kernel
theorem d_X0_placeTurned_6 : decode prog_2_method_7_code 6 = .ok (.istore_n 3, 1) := by decide +kernel
theorem d_X0_placeTurned_7 : decode prog_2_method_7_code 7 = .ok (.iconst 1, 1) := by decide +kernel
theorem d_X0_placeTurned_8 : decode prog_2_method_7_code 8 = .ok (.istore 4, 2) := by decide +kernel
theorem d_X0_placeTurned_10 : decode prog_2_method_7_code 10 = .ok (.iload 4, 2) := by decide +kernel
theorem d_X0_placeTurned_12 : decode prog_2_method_7_code 12 = .ok (.iload_n 1, 1) := by decide +kernel
theorem d_X0_placeTurned_13 : decode prog_2_method_7_code 13 = .ok (.if_icmp .gt 79, 3) := by decide +kernel
theorem d_X0_placeTurned_16 : decode prog_2_method_7_code 16 = .ok (.aload_n 0, 1) := by decide +kernel
theorem d_X0_placeTurned_17 : decode prog_2_method_7_code 17 = .ok (.iload 4, 2) := by decide +kernel
theorem d_X0_placeTurned_19 : decode prog_2_method_7_code 19 = .ok (.iload_n 2, 1) := by decide +kernel
theorem d_X0_placeTurned_20 : decode prog_2_method_7_code 20 = .ok (.invokevirtual 70, 3) := by decide +kernel
theorem d_X0_placeTurned_23 : decode prog_2_method_7_code 23 = .ok (.istore 5, 2) := by decide +kernel
theorem d_X0_placeTurned_25 : decode prog_2_method_7_code 25 = .ok (.iconst 4, 1) := by decide +kernel
theorem d_X0_placeTurned_26 : decode prog_2_method_7_code 26 = .ok (.istore_n 3, 1) := by decide +kernel
theorem d_X0_placeTurned_27 : decode prog_2_method_7_code 27 = .ok (.aload_n 0, 1) := by decide +kernel
theorem d_X0_placeTurned_28 : decode prog_2_method_7_code 28 = .ok (.getfield 12, 3) := by decide +kernel
theorem d_X0_placeTurned_31 : decode prog_2_method_7_code 31 = .ok (.getfield 55, 3) := by decide +kernel
theorem d_X0_placeTurned_34 : decode prog_2_method_7_code 34 = .ok (.iconst 1, 1) := by decide +kernel
theorem d_X0_placeTurned_35 : decode prog_2_method_7_code 35 = .ok (.isub, 1) := by decide +kernel
theorem d_X0_placeTurned_36 : decode prog_2_method_7_code 36 = .ok (.istore 6, 2) := by decide +kernel
theorem d_X0_placeTurned_38 : decode prog_2_method_7_code 38 = .ok (.iload 6, 2) := by decide +kernel
theorem d_X0_placeTurned_40 : decode prog_2_method_7_code 40 = .ok (.ifCond .lt 35, 3) := by decide +kernel
theorem d_X0_placeTurned_43 : decode prog_2_method_7_code 43 = .ok (.aload_n 0, 1) := by decide +kernel
theorem d_X0_placeTurned_44 : decode prog_2_method_7_code 44 = .ok (.getfield 18, 3) := by decide +kernel
theorem d_X0_placeTurned_47 : decode prog_2_method_7_code 47 = .ok (.iload 4, 2) := by decide +kernel
theorem d_X0_placeTurned_49 : decode prog_2_method_7_code 49 = .ok (.sipush 256, 3) := by decide +kernel
theorem d_X0_placeTurned_52 : decode prog_2_method_7_code 52 = .ok (.imul, 1) := by decide +kernel
theorem d_X0_placeTurned_53 : decode prog_2_method_7_code 53 = .ok (.iload_n 2, 1) := by decide +kernel
theorem d_X0_placeTurned_54 : decode prog_2_method_7_code 54 = .ok (.iload 6, 2) := by decide +kernel
theorem d_X0_placeTurned_56 : decode prog_2_method_7_code 56 = .ok (.invokestatic 79, 3) := by decide +kernel
theorem d_X0_placeTurned_59 : decode prog_2_method_7_code 59 = .ok (.iadd, 1) := by decide +kernel
theorem d_X0_placeTurned_60 : decode prog_2_method_7_code 60 = .ok (.iaload, 1) := by decide +kernel
theorem d_X0_placeTurned_61 : decode prog_2_method_7_code 61 = .ok (.iload 5, 2) := by decide +kernel
theorem d_X0_placeTurned_63 : decode prog_2_method_7_code 63 = .ok (.if_icmp .ne 6, 3) := by decide +kernel
theorem d_X0_placeTurned_66 : decode prog_2_method_7_code 66 = .ok (.iload 6, 2) := by decide +kernel
theorem d_X0_placeTurned_68 : decode prog_2_method_7_code 68 = .ok (.istore_n 3, 1) := by decide +kernel
theorem d_X0_placeTurned_69 : decode prog_2_method_7_code 69 = .ok (.iinc 6 (-1), 3) := by decide +kernel
theorem d_X0_placeTurned_72 : decode prog_2_method_7_code 72 = .ok (.goto (-34), 3) := by decide +kernel
theorem d_X0_placeTurned_75 : decode prog_2_method_7_code 75 = .ok (.iload_n 3, 1) := by decide +kernel
theorem d_X0_placeTurned_76 : decode prog_2_method_7_code 76 = .ok (.iconst 4, 1) := by decide +kernel
theorem d_X0_placeTurned_77 : decode prog_2_method_7_code 77 = .ok (.if_icmp .ge 9, 3) := by decide +kernel
theorem d_X0_placeTurned_80 : decode prog_2_method_7_code 80 = .ok (.iload_n 2, 1) := by decide +kernel
theorem d_X0_placeTurned_81 : decode prog_2_method_7_code 81 = .ok (.iload_n 3, 1) := by decide +kernel
theorem d_X0_placeTurned_82 : decode prog_2_method_7_code 82 = .ok (.invokestatic 79, 3) := by decide +kernel
theorem d_X0_placeTurned_85 : decode prog_2_method_7_code 85 = .ok (.istore_n 2, 1) := by decide +kernel
theorem d_X0_placeTurned_86 : decode prog_2_method_7_code 86 = .ok (.iinc 4 1, 3) := by decide +kernel
theorem d_X0_placeTurned_89 : decode prog_2_method_7_code 89 = .ok (.goto (-79), 3) := by decide +kernel
theorem d_X0_placeTurned_92 : decode prog_2_method_7_code 92 = .ok (.iload_n 3, 1) := by decide +kernel
theorem d_X0_placeTurned_93 : decode prog_2_method_7_code 93 = .ok (.ireturn, 1) := by decide +kernel
theorem d_X1_init_0 : decode prog_3_method_1_code 0 = .ok (.aload_n 0, 1) := by decide +kernel
theorem d_X1_init_1 : decode prog_3_method_1_code 1 = .ok (.invokespecial 3, 3) := by decide +kernel
theorem d_X1_init_4 : decode prog_3_method_1_code 4 = .ok (.aload_n 0, 1) := by decide +kernel
theorem d_X1_init_5 : decode prog_3_method_1_code 5 = .ok (.bipush 9, 2) := by decide +kernel
theorem d_X1_init_7 : decode prog_3_method_1_code 7 = .ok (.newarray .int, 2) := by decide +kernel
theorem d_X1_init_9 : decode prog_3_method_1_code 9 = .ok (.putfield 9, 3) := by decide +kernel
theorem d_X1_init_12 : decode prog_3_method_1_code 12 = .ok (.aload_n 0, 1) := by decide +kernel
theorem d_X1_init_13 : decode prog_3_method_1_code 13 = .ok (.bipush 9, 2) := by decide +kernel
theorem d_X1_init_15 : decode prog_3_method_1_code 15 = .ok (.newarray .int, 2) := by decide +kernel
theorem d_X1_init_17 : decode prog_3_method_1_code 17 = .ok (.putfield 15, 3) := by decide +kernel
theorem d_X1_init_20 : decode prog_3_method_1_code 20 = .ok (.aload_n 0, 1) := by decide +kernel
theorem d_X1_init_21 : decode prog_3_method_1_code 21 = .ok (.bipush 9, 2) := by decide +kernel
theorem d_X1_init_23 : decode prog_3_method_1_code 23 = .ok (.newarray .int, 2) := by decide +kernel
theorem d_X1_init_25 : decode prog_3_method_1_code 25 = .ok (.putfield 18, 3) := by decide +kernel
theorem d_X1_init_28 : decode prog_3_method_1_code 28 = .ok (.aload_n 0, 1) := by decide +kernel
theorem d_X1_init_29 : decode prog_3_method_1_code 29 = .ok (.bipush 9, 2) := by decide +kernel
theorem d_X1_init_31 : decode prog_3_method_1_code 31 = .ok (.newarray .int, 2) := by decide +kernel
theorem d_X1_init_33 : decode prog_3_method_1_code 33 = .ok (.putfield 21, 3) := by decide +kernel
theorem d_X1_init_36 : decode prog_3_method_1_code 36 = .ok (.aload_n 0, 1) := by decide +kernel
theorem d_X1_init_37 : decode prog_3_method_1_code 37 = .ok (.iconst 4, 1) := by decide +kernel
theorem d_X1_init_38 : decode prog_3_method_1_code 38 = .ok (.newarray .int, 2) := by decide +kernel
theorem d_X1_init_40 : decode prog_3_method_1_code 40 = .ok (.dup, 1) := by decide +kernel
theorem d_X1_init_41 : decode prog_3_method_1_code 41 = .ok (.iconst 0, 1) := by decide +kernel
theorem d_X1_init_42 : decode prog_3_method_1_code 42 = .ok (.iconst 0, 1) := by decide +kernel
theorem d_X1_init_43 : decode prog_3_method_1_code 43 = .ok (.iastore, 1) := by decide +kernel
theorem d_X1_init_44 : decode prog_3_method_1_code 44 = .ok (.dup, 1) := by decide +kernel
theorem d_X1_init_45 : decode prog_3_method_1_code 45 = .ok (.iconst 1, 1) := by decide +kernel
theorem d_X1_init_46 : decode prog_3_method_1_code 46 = .ok (.iconst 1, 1) := by decide +kernel
theorem d_X1_init_47 : decode prog_3_method_1_code 47 = .ok (.iastore, 1) := by decide +kernel
theorem d_X1_init_48 : decode prog_3_method_1_code 48 = .ok (.dup, 1) := by decide +kernel
theorem d_X1_init_49 : decode prog_3_method_1_code 49 = .ok (.iconst 2, 1) := by decide +kernel
theorem d_X1_init_50 : decode prog_3_method_1_code 50 = .ok (.iconst 0, 1) := by decide +kernel
theorem d_X1_init_51 : decode prog_3_method_1_code 51 = .ok (.iastore, 1) := by decide +kernel
theorem d_X1_init_52 : decode prog_3_method_1_code 52 = .ok (.dup, 1) := by decide +kernel
theorem d_X1_init_53 : decode prog_3_method_1_code 53 = .ok (.iconst 3, 1) := by decide +kernel
theorem d_X1_init_54 : decode prog_3_method_1_code 54 = .ok (.iconst 0, 1) := by decide +kernel
theorem d_X1_init_55 : decode prog_3_method_1_code 55 = .ok (.iastore, 1) := by decide +kernel
theorem d_X1_init_56 : decode prog_3_method_1_code 56 = .ok (.putfield 24, 3) := by decide +kernel
theorem d_X1_init_59 : decode prog_3_method_1_code 59 = .ok (.aload_n 0, 1) := by decide +kernel
theorem d_X1_init_60 : decode prog_3_method_1_code 60 = .ok (.new 27, 3) := by decide +kernel
theorem d_X1_init_63 : decode prog_3_method_1_code 63 = .ok (.dup, 1) := by decide +kernel
theorem d_X1_init_64 : decode prog_3_method_1_code 64 = .ok (.iconst 0, 1) := by decide +kernel
theorem d_X1_init_65 : decode prog_3_method_1_code 65 = .ok (.iconst 0, 1) := by decide +kernel
theorem d_X1_init_66 : decode prog_3_method_1_code 66 = .ok (.newarray .int, 2) := by decide +kernel
theorem d_X1_init_68 : decode prog_3_method_1_code 68 = .ok (.invokespecial 29, 3) := by decide +kernel
theorem d_X1_init_71 : decode prog_3_method_1_code 71 = .ok (.putfield 32, 3) := by decide +kernel
theorem d_X1_init_74 : decode prog_3_method_1_code 74 = .ok (.aload_n 0, 1) := by decide +kernel
theorem d_X1_init_75 : decode prog_3_method_1_code 75 = .ok (.iconst 4, 1) := by decide +kernel
theorem d_X1_init_76 : decode prog_3_method_1_code 76 = .ok (.newarray .int, 2) := by decide +kernel
theorem d_X1_init_78 : decode prog_3_method_1_code 78 = .ok (.putfield 36, 3) := by decide +kernel
theorem d_X1_init_81 : decode prog_3_method_1_code 81 = .ok (.aload_n 0, 1) := by decide +kernel
theorem d_X1_init_82 : decode prog_3_method_1_code 82 = .ok (.iconst 4, 1) := by decide +kernel
theorem d_X1_init_83 : decode prog_3_method_1_code 83 = .ok (.newarray .int, 2) := by decide +kernel
theorem d_X1_init_85 : decode prog_3_method_1_code 85 = .ok (.putfield 39, 3) := by decide +kernel
theorem d_X1_init_88 : decode prog_3_method_1_code 88 = .ok (.aload_n 0, 1) := by decide +kernel
theorem d_X1_init_89 : decode prog_3_method_1_code 89 = .ok (.bipush 6, 2) := by decide +kernel
theorem d_X1_init_91 : decode prog_3_method_1_code 91 = .ok (.newarray .int, 2) := by decide +kernel
theorem d_X1_init_93 : decode prog_3_method_1_code 93 = .ok (.putfield 42, 3) := by decide +kernel
theorem d_X1_init_96 : decode prog_3_method_1_code 96 = .ok (.aload_n 0, 1) := by decide +kernel
theorem d_X1_init_97 : decode prog_3_method_1_code 97 = .ok (.bipush 6, 2) := by decide +kernel
theorem d_X1_init_99 : decode prog_3_method_1_code 99 = .ok (.newarray .int, 2) := by decide +kernel
theorem d_X1_init_101 : decode prog_3_method_1_code 101 = .ok (.putfield 45, 3) := by decide +kernel
theorem d_X1_init_104 : decode prog_3_method_1_code 104 = .ok (.aload_n 0, 1) := by decide +kernel
theorem d_X1_init_105 : decode prog_3_method_1_code 105 = .ok (.iconst 1, 1) := by decide +kernel
theorem d_X1_init_106 : decode prog_3_method_1_code 106 = .ok (.putfield 48, 3) := by decide +kernel
theorem d_X1_init_109 : decode prog_3_method_1_code 109 = .ok (.return_, 1) := by decide +kernel
theorem d_X1_hasLens_0 : decode prog_3_method_2_code 0 = .ok (.iload_n 1, 1) := by decide +kernel
theorem d_X1_hasLens_1 : decode prog_3_method_2_code 1 = .ok (.iconst 0, 1) := by decide +kernel
theorem d_X1_hasLens_2 : decode prog_3_method_2_code 2 = .ok (.aload_n 0, 1) := by decide +kernel
theorem d_X1_hasLens_3 : decode prog_3_method_2_code 3 = .ok (.getfield 52, 3) := by decide +kernel
theorem d_X1_hasLens_6 : decode prog_3_method_2_code 6 = .ok (.iconst 1, 1) := by decide +kernel
theorem d_X1_hasLens_7 : decode prog_3_method_2_code 7 = .ok (.isub, 1) := by decide +kernel
theorem d_X1_hasLens_8 : decode prog_3_method_2_code 8 = .ok (.invokestatic 55, 3) := by decide +kernel
theorem d_X1_hasLens_11 : decode prog_3_method_2_code 11 = .ok (.ireturn, 1) := by decide +kernel
theorem d_X1_hasPlace_0 : decode prog_3_method_3_code 0 = .ok (.iload_n 1, 1) := by decide +kernel
theorem d_X1_hasPlace_1 : decode prog_3_method_3_code 1 = .ok (.iconst 0, 1) := by decide +kernel
theorem d_X1_hasPlace_2 : decode prog_3_method_3_code 2 = .ok (.aload_n 0, 1) := by decide +kernel
theorem d_X1_hasPlace_3 : decode prog_3_method_3_code 3 = .ok (.getfield 59, 3) := by decide +kernel
theorem d_X1_hasPlace_6 : decode prog_3_method_3_code 6 = .ok (.iconst 1, 1) := by decide +kernel
theorem d_X1_hasPlace_7 : decode prog_3_method_3_code 7 = .ok (.isub, 1) := by decide +kernel
theorem d_X1_hasPlace_8 : decode prog_3_method_3_code 8 = .ok (.invokestatic 55, 3) := by decide +kernel
theorem d_X1_hasPlace_11 : decode prog_3_method_3_code 11 = .ok (.ireturn, 1) := by decide +kernel
theorem d_X1_placeOf_0 : decode prog_3_method_4_code 0 = .ok (.iconst 0, 1) := by decide +kernel
theorem d_X1_placeOf_1 : decode prog_3_method_4_code 1 = .ok (.istore_n 2, 1) := by decide +kernel
theorem d_X1_placeOf_2 : decode prog_3_method_4_code 2 = .ok (.iload_n 2, 1) := by decide +kernel
theorem d_X1_placeOf_3 : decode prog_3_method_4_code 3 = .ok (.aload_n 0, 1) := by decide +kernel
theorem d_X1_placeOf_4 : decode prog_3_method_4_code 4 = .ok (.getfield 59, 3) := by decide +kernel
theorem d_X1_placeOf_7 : decode prog_3_method_4_code 7 = .ok (.if_icmp .ge 21, 3) := by decide +kernel
theorem d_X1_placeOf_10 : decode prog_3_method_4_code 10 = .ok (.aload_n 0, 1) := by decide +kernel
theorem d_X1_placeOf_11 : decode prog_3_method_4_code 11 = .ok (.getfield 36, 3) := by decide +kernel
theorem d_X1_placeOf_14 : decode prog_3_method_4_code 14 = .ok (.iload_n 2, 1) := by decide +kernel
theorem d_X1_placeOf_15 : decode prog_3_method_4_code 15 = .ok (.iaload, 1) := by decide +kernel
theorem d_X1_placeOf_16 : decode prog_3_method_4_code 16 = .ok (.iload_n 1, 1) := by decide +kernel
theorem d_X1_placeOf_17 : decode prog_3_method_4_code 17 = .ok (.if_icmp .ne 5, 3) := by decide +kernel
theorem d_X1_placeOf_20 : decode prog_3_method_4_code 20 = .ok (.iload_n 2, 1) := by decide +kernel
theorem d_X1_placeOf_21 : decode prog_3_method_4_code 21 = .ok (.ireturn, 1) := by decide +kernel
theorem d_X1_placeOf_22 : decode prog_3_method_4_code 22 = .ok (.iinc 2 1, 3) := by decide +kernel
theorem d_X1_placeOf_25 : decode prog_3_method_4_code 25 = .ok (.goto (-23), 3) := by decide +kernel
theorem d_X1_placeOf_28 : decode prog_3_method_4_code 28 = .ok (.bipush (-9), 2) := by decide +kernel
theorem d_X1_placeOf_30 : decode prog_3_method_4_code 30 = .ok (.ireturn, 1) := by decide +kernel
theorem d_X1_swap_0 : decode prog_3_method_5_code 0 = .ok (.aload_n 0, 1) := by decide +kernel
theorem d_X1_swap_1 : decode prog_3_method_5_code 1 = .ok (.getfield 36, 3) := by decide +kernel
theorem d_X1_swap_4 : decode prog_3_method_5_code 4 = .ok (.iload_n 1, 1) := by decide +kernel
theorem d_X1_swap_5 : decode prog_3_method_5_code 5 = .ok (.iaload, 1) := by decide +kernel
theorem d_X1_swap_6 : decode prog_3_method_5_code 6 = .ok (.istore_n 3, 1) := by decide +kernel
theorem d_X1_swap_7 : decode prog_3_method_5_code 7 = .ok (.aload_n 0, 1) := by decide +kernel
theorem d_X1_swap_8 : decode prog_3_method_5_code 8 = .ok (.getfield 36, 3) := by decide +kernel
theorem d_X1_swap_11 : decode prog_3_method_5_code 11 = .ok (.iload_n 1, 1) := by decide +kernel
theorem d_X1_swap_12 : decode prog_3_method_5_code 12 = .ok (.aload_n 0, 1) := by decide +kernel
theorem d_X1_swap_13 : decode prog_3_method_5_code 13 = .ok (.getfield 36, 3) := by decide +kernel
theorem d_X1_swap_16 : decode prog_3_method_5_code 16 = .ok (.iload_n 2, 1) := by decide +kernel
theorem d_X1_swap_17 : decode prog_3_method_5_code 17 = .ok (.iaload, 1) := by decide +kernel
theorem d_X1_swap_18 : decode prog_3_method_5_code 18 = .ok (.iastore, 1) := by decide +kernel
theorem d_X1_swap_19 : decode prog_3_method_5_code 19 = .ok (.aload_n 0, 1) := by decide +kernel
theorem d_X1_swap_20 : decode prog_3_method_5_code 20 = .ok (.getfield 36, 3) := by decide +kernel
theorem d_X1_swap_23 : decode prog_3_method_5_code 23 = .ok (.iload_n 2, 1) := by decide +kernel
theorem d_X1_swap_24 : decode prog_3_method_5_code 24 = .ok (.iload_n 3, 1) := by decide +kernel
theorem d_X1_swap_25 : decode prog_3_method_5_code 25 = .ok (.iastore, 1) := by decide +kernel
theorem d_X1_swap_26 : decode prog_3_method_5_code 26 = .ok (.aload_n 0, 1) := by decide +kernel
theorem d_X1_swap_27 : decode prog_3_method_5_code 27 = .ok (.getfield 39, 3) := by decide +kernel
theorem d_X1_swap_30 : decode prog_3_method_5_code 30 = .ok (.iload_n 1, 1) := by decide +kernel
theorem d_X1_swap_31 : decode prog_3_method_5_code 31 = .ok (.iaload, 1) := by decide +kernel
theorem d_X1_swap_32 : decode prog_3_method_5_code 32 = .ok (.istore 4, 2) := by decide +kernel
theorem d_X1_swap_34 : decode prog_3_method_5_code 34 = .ok (.aload_n 0, 1) := by decide +kernel
theorem d_X1_swap_35 : decode prog_3_method_5_code 35 = .ok (.getfield 39, 3) := by decide +kernel
theorem d_X1_swap_38 : decode prog_3_method_5_code 38 = .ok (.iload_n 1, 1) := by decide +kernel
theorem d_X1_swap_39 : decode prog_3_method_5_code 39 = .ok (.aload_n 0, 1) := by decide +kernel
theorem d_X1_swap_40 : decode prog_3_method_5_code 40 = .ok (.getfield 39, 3) := by decide +kernel
theorem d_X1_swap_43 : decode prog_3_method_5_code 43 = .ok (.iload_n 2, 1) := by decide +kernel
theorem d_X1_swap_44 : decode prog_3_method_5_code 44 = .ok (.iaload, 1) := by decide +kernel
theorem d_X1_swap_45 : decode prog_3_method_5_code 45 = .ok (.iastore, 1) := by decide +kernel
theorem d_X1_swap_46 : decode prog_3_method_5_code 46 = .ok (.aload_n 0, 1) := by decide +kernel
theorem d_X1_swap_47 : decode prog_3_method_5_code 47 = .ok (.getfield 39, 3) := by decide +kernel
theorem d_X1_swap_50 : decode prog_3_method_5_code 50 = .ok (.iload_n 2, 1) := by decide +kernel
theorem d_X1_swap_51 : decode prog_3_method_5_code 51 = .ok (.iload 4, 2) := by decide +kernel
theorem d_X1_swap_53 : decode prog_3_method_5_code 53 = .ok (.iastore, 1) := by decide +kernel
theorem d_X1_swap_54 : decode prog_3_method_5_code 54 = .ok (.return_, 1) := by decide +kernel
theorem d_X1_drawn_0 : decode prog_3_method_6_code 0 = .ok (.aload_n 0, 1) := by decide +kernel
theorem d_X1_drawn_1 : decode prog_3_method_6_code 1 = .ok (.getfield 59, 3) := by decide +kernel
theorem d_X1_drawn_4 : decode prog_3_method_6_code 4 = .ok (.iconst 1, 1) := by decide +kernel
theorem d_X1_drawn_5 : decode prog_3_method_6_code 5 = .ok (.if_icmp .ge 6, 3) := by decide +kernel
theorem d_X1_drawn_8 : decode prog_3_method_6_code 8 = .ok (.bipush (-3), 2) := by decide +kernel
theorem d_X1_drawn_10 : decode prog_3_method_6_code 10 = .ok (.ireturn, 1) := by decide +kernel
theorem d_X1_drawn_11 : decode prog_3_method_6_code 11 = .ok (.aload_n 0, 1) := by decide +kernel
theorem d_X1_drawn_12 : decode prog_3_method_6_code 12 = .ok (.aload_n 0, 1) := by decide +kernel
theorem d_X1_drawn_13 : decode prog_3_method_6_code 13 = .ok (.getfield 48, 3) := by decide +kernel
theorem d_X1_drawn_16 : decode prog_3_method_6_code 16 = .ok (.ldc 62, 2) := by decide +kernel
theorem d_X1_drawn_18 : decode prog_3_method_6_code 18 = .ok (.imul, 1) := by decide +kernel
theorem d_X1_drawn_19 : decode prog_3_method_6_code 19 = .ok (.sipush 12345, 3) := by decide +kernel
theorem d_X1_drawn_22 : decode prog_3_method_6_code 22 = .ok (.iadd, 1) := by decide +kernel
theorem d_X1_drawn_23 : decode prog_3_method_6_code 23 = .ok (.putfield 48, 3) := by decide +kernel
theorem d_X1_drawn_26 : decode prog_3_method_6_code 26 = .ok (.aload_n 0, 1) := by decide +kernel
theorem d_X1_drawn_27 : decode prog_3_method_6_code 27 = .ok (.getfield 48, 3) := by decide +kernel
theorem d_X1_drawn_30 : decode prog_3_method_6_code 30 = .ok (.bipush 16, 2) := by decide +kernel
theorem d_X1_drawn_32 : decode prog_3_method_6_code 32 = .ok (.iushr, 1) := by decide +kernel
theorem d_X1_drawn_33 : decode prog_3_method_6_code 33 = .ok (.aload_n 0, 1) := by decide +kernel
theorem d_X1_drawn_34 : decode prog_3_method_6_code 34 = .ok (.getfield 59, 3) := by decide +kernel
theorem d_X1_drawn_37 : decode prog_3_method_6_code 37 = .ok (.irem, 1) := by decide +kernel
theorem d_X1_drawn_38 : decode prog_3_method_6_code 38 = .ok (.istore_n 1, 1) := by decide +kernel
theorem d_X1_drawn_39 : decode prog_3_method_6_code 39 = .ok (.aload_n 0, 1) := by decide +kernel
theorem d_X1_drawn_40 : decode prog_3_method_6_code 40 = .ok (.getfield 39, 3) := by decide +kernel
theorem d_X1_drawn_43 : decode prog_3_method_6_code 43 = .ok (.iload_n 1, 1) := by decide +kernel
theorem d_X1_drawn_44 : decode prog_3_method_6_code 44 = .ok (.aload_n 0, 1) := by decide +kernel
theorem d_X1_drawn_45 : decode prog_3_method_6_code 45 = .ok (.getfield 39, 3) := by decide +kernel
theorem d_X1_drawn_48 : decode prog_3_method_6_code 48 = .ok (.iload_n 1, 1) := by decide +kernel
theorem d_X1_drawn_49 : decode prog_3_method_6_code 49 = .ok (.iaload, 1) := by decide +kernel
theorem d_X1_drawn_50 : decode prog_3_method_6_code 50 = .ok (.iconst 1, 1) := by decide +kernel
theorem d_X1_drawn_51 : decode prog_3_method_6_code 51 = .ok (.iadd, 1) := by decide +kernel
theorem d_X1_drawn_52 : decode prog_3_method_6_code 52 = .ok (.iconst 4, 1) := by decide +kernel
theorem d_X1_drawn_53 : decode prog_3_method_6_code 53 = .ok (.irem, 1) := by decide +kernel
theorem d_X1_drawn_54 : decode prog_3_method_6_code 54 = .ok (.iastore, 1) := by decide +kernel
theorem d_X1_drawn_55 : decode prog_3_method_6_code 55 = .ok (.iload_n 1, 1) := by decide +kernel
theorem d_X1_drawn_56 : decode prog_3_method_6_code 56 = .ok (.ireturn, 1) := by decide +kernel
theorem d_X1_become_0 : decode prog_3_method_7_code 0 = .ok (.aload_n 0, 1) := by decide +kernel
theorem d_X1_become_1 : decode prog_3_method_7_code 1 = .ok (.aload_n 1, 1) := by decide +kernel
theorem d_X1_become_2 : decode prog_3_method_7_code 2 = .ok (.getfield 52, 3) := by decide +kernel
theorem d_X1_become_5 : decode prog_3_method_7_code 5 = .ok (.putfield 52, 3) := by decide +kernel
theorem d_X1_become_8 : decode prog_3_method_7_code 8 = .ok (.aload_n 1, 1) := by decide +kernel
theorem d_X1_become_9 : decode prog_3_method_7_code 9 = .ok (.getfield 9, 3) := by decide +kernel
theorem d_X1_become_12 : decode prog_3_method_7_code 12 = .ok (.iconst 0, 1) := by decide +kernel
theorem d_X1_become_13 : decode prog_3_method_7_code 13 = .ok (.aload_n 0, 1) := by decide +kernel
theorem d_X1_become_14 : decode prog_3_method_7_code 14 = .ok (.getfield 9, 3) := by decide +kernel
theorem d_X1_become_17 : decode prog_3_method_7_code 17 = .ok (.iconst 0, 1) := by decide +kernel
theorem d_X1_become_18 : decode prog_3_method_7_code 18 = .ok (.bipush 9, 2) := by decide +kernel
theorem d_X1_become_20 : decode prog_3_method_7_code 20 = .ok (.invokestatic 63, 3) := by decide +kernel
theorem d_X1_become_23 : decode prog_3_method_7_code 23 = .ok (.aload_n 1, 1) := by decide +kernel
theorem d_X1_become_24 : decode prog_3_method_7_code 24 = .ok (.getfield 15, 3) := by decide +kernel
theorem d_X1_become_27 : decode prog_3_method_7_code 27 = .ok (.iconst 0, 1) := by decide +kernel
theorem d_X1_become_28 : decode prog_3_method_7_code 28 = .ok (.aload_n 0, 1) := by decide +kernel
theorem d_X1_become_29 : decode prog_3_method_7_code 29 = .ok (.getfield 15, 3) := by decide +kernel
theorem d_X1_become_32 : decode prog_3_method_7_code 32 = .ok (.iconst 0, 1) := by decide +kernel
theorem d_X1_become_33 : decode prog_3_method_7_code 33 = .ok (.bipush 9, 2) := by decide +kernel
theorem d_X1_become_35 : decode prog_3_method_7_code 35 = .ok (.invokestatic 63, 3) := by decide +kernel
theorem d_X1_become_38 : decode prog_3_method_7_code 38 = .ok (.aload_n 1, 1) := by decide +kernel
theorem d_X1_become_39 : decode prog_3_method_7_code 39 = .ok (.getfield 18, 3) := by decide +kernel
theorem d_X1_become_42 : decode prog_3_method_7_code 42 = .ok (.iconst 0, 1) := by decide +kernel
theorem d_X1_become_43 : decode prog_3_method_7_code 43 = .ok (.aload_n 0, 1) := by decide +kernel
theorem d_X1_become_44 : decode prog_3_method_7_code 44 = .ok (.getfield 18, 3) := by decide +kernel
theorem d_X1_become_47 : decode prog_3_method_7_code 47 = .ok (.iconst 0, 1) := by decide +kernel
theorem d_X1_become_48 : decode prog_3_method_7_code 48 = .ok (.bipush 9, 2) := by decide +kernel
theorem d_X1_become_50 : decode prog_3_method_7_code 50 = .ok (.invokestatic 63, 3) := by decide +kernel
theorem d_X1_become_53 : decode prog_3_method_7_code 53 = .ok (.aload_n 1, 1) := by decide +kernel
theorem d_X1_become_54 : decode prog_3_method_7_code 54 = .ok (.getfield 21, 3) := by decide +kernel
theorem d_X1_become_57 : decode prog_3_method_7_code 57 = .ok (.iconst 0, 1) := by decide +kernel
theorem d_X1_become_58 : decode prog_3_method_7_code 58 = .ok (.aload_n 0, 1) := by decide +kernel
theorem d_X1_become_59 : decode prog_3_method_7_code 59 = .ok (.getfield 21, 3) := by decide +kernel
theorem d_X1_become_62 : decode prog_3_method_7_code 62 = .ok (.iconst 0, 1) := by decide +kernel
theorem d_X1_become_63 : decode prog_3_method_7_code 63 = .ok (.bipush 9, 2) := by decide +kernel
theorem d_X1_become_65 : decode prog_3_method_7_code 65 = .ok (.invokestatic 63, 3) := by decide +kernel
theorem d_X1_become_68 : decode prog_3_method_7_code 68 = .ok (.aload_n 1, 1) := by decide +kernel
theorem d_X1_become_69 : decode prog_3_method_7_code 69 = .ok (.getfield 24, 3) := by decide +kernel
theorem d_X1_become_72 : decode prog_3_method_7_code 72 = .ok (.iconst 0, 1) := by decide +kernel
theorem d_X1_become_73 : decode prog_3_method_7_code 73 = .ok (.aload_n 0, 1) := by decide +kernel
theorem d_X1_become_74 : decode prog_3_method_7_code 74 = .ok (.getfield 24, 3) := by decide +kernel
theorem d_X1_become_77 : decode prog_3_method_7_code 77 = .ok (.iconst 0, 1) := by decide +kernel
theorem d_X1_become_78 : decode prog_3_method_7_code 78 = .ok (.iconst 4, 1) := by decide +kernel
theorem d_X1_become_79 : decode prog_3_method_7_code 79 = .ok (.invokestatic 63, 3) := by decide +kernel
theorem d_X1_become_82 : decode prog_3_method_7_code 82 = .ok (.aload_n 0, 1) := by decide +kernel
theorem d_X1_become_83 : decode prog_3_method_7_code 83 = .ok (.aload_n 1, 1) := by decide +kernel
theorem d_X1_become_84 : decode prog_3_method_7_code 84 = .ok (.getfield 32, 3) := by decide +kernel
theorem d_X1_become_87 : decode prog_3_method_7_code 87 = .ok (.putfield 32, 3) := by decide +kernel
theorem d_X1_become_90 : decode prog_3_method_7_code 90 = .ok (.aload_n 0, 1) := by decide +kernel
theorem d_X1_become_91 : decode prog_3_method_7_code 91 = .ok (.aload_n 1, 1) := by decide +kernel
theorem d_X1_become_92 : decode prog_3_method_7_code 92 = .ok (.getfield 59, 3) := by decide +kernel
theorem d_X1_become_95 : decode prog_3_method_7_code 95 = .ok (.putfield 59, 3) := by decide +kernel
theorem d_X1_become_98 : decode prog_3_method_7_code 98 = .ok (.aload_n 1, 1) := by decide +kernel
theorem d_X1_become_99 : decode prog_3_method_7_code 99 = .ok (.getfield 36, 3) := by decide +kernel
theorem d_X1_become_102 : decode prog_3_method_7_code 102 = .ok (.iconst 0, 1) := by decide +kernel
theorem d_X1_become_103 : decode prog_3_method_7_code 103 = .ok (.aload_n 0, 1) := by decide +kernel
theorem d_X1_become_104 : decode prog_3_method_7_code 104 = .ok (.getfield 36, 3) := by decide +kernel
theorem d_X1_become_107 : decode prog_3_method_7_code 107 = .ok (.iconst 0, 1) := by decide +kernel
theorem d_X1_become_108 : decode prog_3_method_7_code 108 = .ok (.iconst 4, 1) := by decide +kernel
theorem d_X1_become_109 : decode prog_3_method_7_code 109 = .ok (.invokestatic 63, 3) := by decide +kernel
theorem d_X1_become_112 : decode prog_3_method_7_code 112 = .ok (.aload_n 1, 1) := by decide +kernel
theorem d_X1_become_113 : decode prog_3_method_7_code 113 = .ok (.getfield 39, 3) := by decide +kernel
theorem d_X1_become_116 : decode prog_3_method_7_code 116 = .ok (.iconst 0, 1) := by decide +kernel
theorem d_X1_become_117 : decode prog_3_method_7_code 117 = .ok (.aload_n 0, 1) := by decide +kernel
theorem d_X1_become_118 : decode prog_3_method_7_code 118 = .ok (.getfield 39, 3) := by decide +kernel
theorem d_X1_become_121 : decode prog_3_method_7_code 121 = .ok (.iconst 0, 1) := by decide +kernel
theorem d_X1_become_122 : decode prog_3_method_7_code 122 = .ok (.iconst 4, 1) := by decide +kernel
theorem d_X1_become_123 : decode prog_3_method_7_code 123 = .ok (.invokestatic 63, 3) := by decide +kernel
theorem d_X1_become_126 : decode prog_3_method_7_code 126 = .ok (.aload_n 0, 1) := by decide +kernel
theorem d_X1_become_127 : decode prog_3_method_7_code 127 = .ok (.aload_n 1, 1) := by decide +kernel
theorem d_X1_become_128 : decode prog_3_method_7_code 128 = .ok (.getfield 69, 3) := by decide +kernel
theorem d_X1_become_131 : decode prog_3_method_7_code 131 = .ok (.putfield 69, 3) := by decide +kernel
theorem d_X1_become_134 : decode prog_3_method_7_code 134 = .ok (.aload_n 1, 1) := by decide +kernel
theorem d_X1_become_135 : decode prog_3_method_7_code 135 = .ok (.getfield 42, 3) := by decide +kernel
theorem d_X1_become_138 : decode prog_3_method_7_code 138 = .ok (.iconst 0, 1) := by decide +kernel
theorem d_X1_become_139 : decode prog_3_method_7_code 139 = .ok (.aload_n 0, 1) := by decide +kernel
theorem d_X1_become_140 : decode prog_3_method_7_code 140 = .ok (.getfield 42, 3) := by decide +kernel
theorem d_X1_become_143 : decode prog_3_method_7_code 143 = .ok (.iconst 0, 1) := by decide +kernel
theorem d_X1_become_144 : decode prog_3_method_7_code 144 = .ok (.bipush 6, 2) := by decide +kernel
theorem d_X1_become_146 : decode prog_3_method_7_code 146 = .ok (.invokestatic 63, 3) := by decide +kernel
theorem d_X1_become_149 : decode prog_3_method_7_code 149 = .ok (.aload_n 1, 1) := by decide +kernel
theorem d_X1_become_150 : decode prog_3_method_7_code 150 = .ok (.getfield 45, 3) := by decide +kernel
theorem d_X1_become_153 : decode prog_3_method_7_code 153 = .ok (.iconst 0, 1) := by decide +kernel
theorem d_X1_become_154 : decode prog_3_method_7_code 154 = .ok (.aload_n 0, 1) := by decide +kernel
theorem d_X1_become_155 : decode prog_3_method_7_code 155 = .ok (.getfield 45, 3) := by decide +kernel
theorem d_X1_become_158 : decode prog_3_method_7_code 158 = .ok (.iconst 0, 1) := by decide +kernel
theorem d_X1_become_159 : decode prog_3_method_7_code 159 = .ok (.bipush 6, 2) := by decide +kernel
theorem d_X1_become_161 : decode prog_3_method_7_code 161 = .ok (.invokestatic 63, 3) := by decide +kernel
theorem d_X1_become_164 : decode prog_3_method_7_code 164 = .ok (.aload_n 0, 1) := by decide +kernel
theorem d_X1_become_165 : decode prog_3_method_7_code 165 = .ok (.aload_n 1, 1) := by decide +kernel
theorem d_X1_become_166 : decode prog_3_method_7_code 166 = .ok (.getfield 48, 3) := by decide +kernel
theorem d_X1_become_169 : decode prog_3_method_7_code 169 = .ok (.putfield 48, 3) := by decide +kernel
theorem d_X1_become_172 : decode prog_3_method_7_code 172 = .ok (.return_, 1) := by decide +kernel
theorem d_X2_init_0 : decode prog_4_method_1_code 0 = .ok (.aload_n 0, 1) := by decide +kernel
theorem d_X2_init_1 : decode prog_4_method_1_code 1 = .ok (.invokespecial 3, 3) := by decide +kernel
theorem d_X2_init_4 : decode prog_4_method_1_code 4 = .ok (.aload_n 0, 1) := by decide +kernel
theorem d_X2_init_5 : decode prog_4_method_1_code 5 = .ok (.aload_n 1, 1) := by decide +kernel
theorem d_X2_init_6 : decode prog_4_method_1_code 6 = .ok (.putfield 9, 3) := by decide +kernel
theorem d_X2_init_9 : decode prog_4_method_1_code 9 = .ok (.return_, 1) := by decide +kernel
theorem d_X2_open_0 : decode prog_4_method_2_code 0 = .ok (.aload_n 0, 1) := by decide +kernel
theorem d_X2_open_1 : decode prog_4_method_2_code 1 = .ok (.getfield 9, 3) := by decide +kernel
theorem d_X2_open_4 : decode prog_4_method_2_code 4 = .ok (.aload_n 1, 1) := by decide +kernel
theorem d_X2_open_5 : decode prog_4_method_2_code 5 = .ok (.invokevirtual 15, 3) := by decide +kernel
theorem d_X2_open_8 : decode prog_4_method_2_code 8 = .ok (.aload_n 0, 1) := by decide +kernel
theorem d_X2_open_9 : decode prog_4_method_2_code 9 = .ok (.getfield 9, 3) := by decide +kernel
theorem d_X2_open_12 : decode prog_4_method_2_code 12 = .ok (.aload_n 1, 1) := by decide +kernel
theorem d_X2_open_13 : decode prog_4_method_2_code 13 = .ok (.invokevirtual 21, 3) := by decide +kernel
theorem d_X2_open_16 : decode prog_4_method_2_code 16 = .ok (.aload_n 0, 1) := by decide +kernel
theorem d_X2_open_17 : decode prog_4_method_2_code 17 = .ok (.aload_n 1, 1) := by decide +kernel
theorem d_X2_open_18 : decode prog_4_method_2_code 18 = .ok (.getfield 24, 3) := by decide +kernel
theorem d_X2_open_21 : decode prog_4_method_2_code 21 = .ok (.putfield 30, 3) := by decide +kernel
theorem d_X2_open_24 : decode prog_4_method_2_code 24 = .ok (.aload_n 0, 1) := by decide +kernel
theorem d_X2_open_25 : decode prog_4_method_2_code 25 = .ok (.aload_n 1, 1) := by decide +kernel
theorem d_X2_open_26 : decode prog_4_method_2_code 26 = .ok (.getfield 31, 3) := by decide +kernel
theorem d_X2_open_29 : decode prog_4_method_2_code 29 = .ok (.putfield 34, 3) := by decide +kernel
theorem d_X2_open_32 : decode prog_4_method_2_code 32 = .ok (.aload_n 0, 1) := by decide +kernel
theorem d_X2_open_33 : decode prog_4_method_2_code 33 = .ok (.iconst 0, 1) := by decide +kernel
theorem d_X2_open_34 : decode prog_4_method_2_code 34 = .ok (.putfield 35, 3) := by decide +kernel
theorem d_X2_open_37 : decode prog_4_method_2_code 37 = .ok (.iconst 0, 1) := by decide +kernel
theorem d_X2_open_38 : decode prog_4_method_2_code 38 = .ok (.istore_n 3, 1) := by decide +kernel
theorem d_X2_open_39 : decode prog_4_method_2_code 39 = .ok (.iload_n 3, 1) := by decide +kernel
theorem d_X2_open_40 : decode prog_4_method_2_code 40 = .ok (.aload_n 0, 1) := by decide +kernel
theorem d_X2_open_41 : decode prog_4_method_2_code 41 = .ok (.getfield 34, 3) := by decide +kernel
theorem d_X2_open_44 : decode prog_4_method_2_code 44 = .ok (.if_icmp .ge 26, 3) := by decide +kernel
theorem d_X2_open_47 : decode prog_4_method_2_code 47 = .ok (.aload_n 0, 1) := by decide +kernel
theorem d_X2_open_48 : decode prog_4_method_2_code 48 = .ok (.dup, 1) := by decide +kernel
theorem d_X2_open_49 : decode prog_4_method_2_code 49 = .ok (.getfield 35, 3) := by decide +kernel
theorem d_X2_open_52 : decode prog_4_method_2_code 52 = .ok (.iconst 1, 1) := by decide +kernel
theorem d_X2_open_53 : decode prog_4_method_2_code 53 = .ok (.aload_n 1, 1) := by decide +kernel
theorem d_X2_open_54 : decode prog_4_method_2_code 54 = .ok (.getfield 38, 3) := by decide +kernel
theorem d_X2_open_57 : decode prog_4_method_2_code 57 = .ok (.iload_n 3, 1) := by decide +kernel
theorem d_X2_open_58 : decode prog_4_method_2_code 58 = .ok (.iaload, 1) := by decide +kernel
theorem d_X2_open_59 : decode prog_4_method_2_code 59 = .ok (.ishl, 1) := by decide +kernel
theorem d_X2_open_60 : decode prog_4_method_2_code 60 = .ok (.ior, 1) := by decide +kernel
theorem d_X2_open_61 : decode prog_4_method_2_code 61 = .ok (.putfield 35, 3) := by decide +kernel
theorem d_X2_open_64 : decode prog_4_method_2_code 64 = .ok (.iinc 3 1, 3) := by decide +kernel
theorem d_X2_open_67 : decode prog_4_method_2_code 67 = .ok (.goto (-28), 3) := by decide +kernel
theorem d_X2_open_70 : decode prog_4_method_2_code 70 = .ok (.aload_n 0, 1) := by decide +kernel
theorem d_X2_open_71 : decode prog_4_method_2_code 71 = .ok (.iload_n 2, 1) := by decide +kernel
theorem d_X2_open_72 : decode prog_4_method_2_code 72 = .ok (.iconst 4, 1) := by decide +kernel
theorem d_X2_open_73 : decode prog_4_method_2_code 73 = .ok (.aload_n 0, 1) := by decide +kernel
theorem d_X2_open_74 : decode prog_4_method_2_code 74 = .ok (.getfield 34, 3) := by decide +kernel
theorem d_X2_open_77 : decode prog_4_method_2_code 77 = .ok (.isub, 1) := by decide +kernel
theorem d_X2_open_78 : decode prog_4_method_2_code 78 = .ok (.aload_n 0, 1) := by decide +kernel
theorem d_X2_open_79 : decode prog_4_method_2_code 79 = .ok (.getfield 30, 3) := by decide +kernel
theorem d_X2_open_82 : decode prog_4_method_2_code 82 = .ok (.aload_n 0, 1) := by decide +kernel
theorem d_X2_open_83 : decode prog_4_method_2_code 83 = .ok (.getfield 34, 3) := by decide +kernel
theorem d_X2_open_86 : decode prog_4_method_2_code 86 = .ok (.isub, 1) := by decide +kernel
theorem d_X2_open_87 : decode prog_4_method_2_code 87 = .ok (.invokestatic 42, 3) := by decide +kernel
theorem d_X2_open_90 : decode prog_4_method_2_code 90 = .ok (.invokestatic 42, 3) := by decide +kernel
theorem d_X2_open_93 : decode prog_4_method_2_code 93 = .ok (.putfield 48, 3) := by decide +kernel
theorem d_X2_open_96 : decode prog_4_method_2_code 96 = .ok (.return_, 1) := by decide +kernel
theorem d_X2_firstWins_0 : decode prog_4_method_3_code 0 = .ok (.iload_n 1, 1) := by decide +kernel
theorem d_X2_firstWins_1 : decode prog_4_method_3_code 1 = .ok (.aload_n 0, 1) := by decide +kernel
theorem d_X2_firstWins_2 : decode prog_4_method_3_code 2 = .ok (.getfield 48, 3) := by decide +kernel
theorem d_X2_firstWins_5 : decode prog_4_method_3_code 5 = .ok (.if_icmp .lt 24, 3) := by decide +kernel
theorem d_X2_firstWins_8 : decode prog_4_method_3_code 8 = .ok (.aload_n 0, 1) := by decide +kernel
theorem d_X2_firstWins_9 : decode prog_4_method_3_code 9 = .ok (.getfield 9, 3) := by decide +kernel
theorem d_X2_firstWins_12 : decode prog_4_method_3_code 12 = .ok (.aload_n 0, 1) := by decide +kernel
theorem d_X2_firstWins_13 : decode prog_4_method_3_code 13 = .ok (.getfield 34, 3) := by decide +kernel
theorem d_X2_firstWins_16 : decode prog_4_method_3_code 16 = .ok (.iload_n 1, 1) := by decide +kernel
theorem d_X2_firstWins_17 : decode prog_4_method_3_code 17 = .ok (.iadd, 1) := by decide +kernel
theorem d_X2_firstWins_18 : decode prog_4_method_3_code 18 = .ok (.invokevirtual 51, 3) := by decide +kernel
theorem d_X2_firstWins_21 : decode prog_4_method_3_code 21 = .ok (.aload_n 0, 1) := by decide +kernel
theorem d_X2_firstWins_22 : decode prog_4_method_3_code 22 = .ok (.getfield 9, 3) := by decide +kernel
theorem d_X2_firstWins_25 : decode prog_4_method_3_code 25 = .ok (.invokevirtual 55, 3) := by decide +kernel
theorem d_X2_firstWins_28 : decode prog_4_method_3_code 28 = .ok (.ireturn, 1) := by decide +kernel
theorem d_X2_firstWins_29 : decode prog_4_method_3_code 29 = .ok (.iload_n 1, 1) := by decide +kernel
theorem d_X2_firstWins_30 : decode prog_4_method_3_code 30 = .ok (.iconst 2, 1) := by decide +kernel
theorem d_X2_firstWins_31 : decode prog_4_method_3_code 31 = .ok (.irem, 1) := by decide +kernel
theorem d_X2_firstWins_32 : decode prog_4_method_3_code 32 = .ok (.ifCond .ne 7, 3) := by decide +kernel
theorem d_X2_firstWins_35 : decode prog_4_method_3_code 35 = .ok (.iconst 1, 1) := by decide +kernel
theorem d_X2_firstWins_36 : decode prog_4_method_3_code 36 = .ok (.goto 4, 3) := by decide +kernel
theorem d_X2_firstWins_39 : decode prog_4_method_3_code 39 = .ok (.iconst 0, 1) := by decide +kernel
theorem d_X2_firstWins_40 : decode prog_4_method_3_code 40 = .ok (.istore_n 2, 1) := by decide +kernel
theorem d_X2_firstWins_41 : decode prog_4_method_3_code 41 = .ok (.iconst 0, 1) := by decide +kernel
theorem d_X2_firstWins_42 : decode prog_4_method_3_code 42 = .ok (.istore_n 3, 1) := by decide +kernel
theorem d_X2_firstWins_43 : decode prog_4_method_3_code 43 = .ok (.iload_n 3, 1) := by decide +kernel
theorem d_X2_firstWins_44 : decode prog_4_method_3_code 44 = .ok (.aload_n 0, 1) := by decide +kernel
theorem d_X2_firstWins_45 : decode prog_4_method_3_code 45 = .ok (.getfield 30, 3) := by decide +kernel
theorem d_X2_firstWins_48 : decode prog_4_method_3_code 48 = .ok (.if_icmp .ge 49, 3) := by decide +kernel
theorem d_X2_firstWins_51 : decode prog_4_method_3_code 51 = .ok (.iconst 0, 1) := by decide +kernel
theorem d_X2_firstWins_52 : decode prog_4_method_3_code 52 = .ok (.istore 4, 2) := by decide +kernel
theorem d_X2_firstWins_54 : decode prog_4_method_3_code 54 = .ok (.iload 4, 2) := by decide +kernel
theorem d_X2_firstWins_56 : decode prog_4_method_3_code 56 = .ok (.iconst 3, 1) := by decide +kernel
theorem d_X2_firstWins_57 : decode prog_4_method_3_code 57 = .ok (.if_icmp .ge 34, 3) := by decide +kernel
theorem d_X2_firstWins_60 : decode prog_4_method_3_code 60 = .ok (.aload_n 0, 1) := by decide +kernel
theorem d_X2_firstWins_61 : decode prog_4_method_3_code 61 = .ok (.getfield 35, 3) := by decide +kernel
theorem d_X2_firstWins_64 : decode prog_4_method_3_code 64 = .ok (.iload_n 3, 1) := by decide +kernel
theorem d_X2_firstWins_65 : decode prog_4_method_3_code 65 = .ok (.ishr, 1) := by decide +kernel
theorem d_X2_firstWins_66 : decode prog_4_method_3_code 66 = .ok (.iconst 1, 1) := by decide +kernel
theorem d_X2_firstWins_67 : decode prog_4_method_3_code 67 = .ok (.iand, 1) := by decide +kernel
theorem d_X2_firstWins_68 : decode prog_4_method_3_code 68 = .ok (.ifCond .ne 23, 3) := by decide +kernel
theorem d_X2_firstWins_71 : decode prog_4_method_3_code 71 = .ok (.aload_n 0, 1) := by decide +kernel
theorem d_X2_firstWins_72 : decode prog_4_method_3_code 72 = .ok (.iload_n 1, 1) := by decide +kernel
theorem d_X2_firstWins_73 : decode prog_4_method_3_code 73 = .ok (.iload_n 3, 1) := by decide +kernel
theorem d_X2_firstWins_74 : decode prog_4_method_3_code 74 = .ok (.iload 4, 2) := by decide +kernel
theorem d_X2_firstWins_76 : decode prog_4_method_3_code 76 = .ok (.invokevirtual 59, 3) := by decide +kernel
theorem d_X2_firstWins_79 : decode prog_4_method_3_code 79 = .ok (.iload_n 2, 1) := by decide +kernel
theorem d_X2_firstWins_80 : decode prog_4_method_3_code 80 = .ok (.if_icmp .ne 5, 3) := by decide +kernel
theorem d_X2_firstWins_83 : decode prog_4_method_3_code 83 = .ok (.iload_n 2, 1) := by decide +kernel
theorem d_X2_firstWins_84 : decode prog_4_method_3_code 84 = .ok (.ireturn, 1) := by decide +kernel
theorem d_X2_firstWins_85 : decode prog_4_method_3_code 85 = .ok (.iinc 4 1, 3) := by decide +kernel
theorem d_X2_firstWins_88 : decode prog_4_method_3_code 88 = .ok (.goto (-34), 3) := by decide +kernel
theorem d_X2_firstWins_91 : decode prog_4_method_3_code 91 = .ok (.iinc 3 1, 3) := by decide +kernel
theorem d_X2_firstWins_94 : decode prog_4_method_3_code 94 = .ok (.goto (-51), 3) := by decide +kernel
theorem d_X2_firstWins_97 : decode prog_4_method_3_code 97 = .ok (.iload_n 2, 1) := by decide +kernel
theorem d_X2_firstWins_98 : decode prog_4_method_3_code 98 = .ok (.ifCond .ne 7, 3) := by decide +kernel
theorem d_X2_firstWins_101 : decode prog_4_method_3_code 101 = .ok (.iconst 1, 1) := by decide +kernel
theorem d_X2_firstWins_102 : decode prog_4_method_3_code 102 = .ok (.goto 4, 3) := by decide +kernel
theorem d_X2_firstWins_105 : decode prog_4_method_3_code 105 = .ok (.iconst 0, 1) := by decide +kernel
theorem d_X2_firstWins_106 : decode prog_4_method_3_code 106 = .ok (.ireturn, 1) := by decide +kernel
theorem d_X2_firstWinsBehind_0 : decode prog_4_method_4_code 0 = .ok (.aload_n 0, 1) := by decide +kernel
theorem d_X2_firstWinsBehind_1 : decode prog_4_method_4_code 1 = .ok (.getfield 9, 3) := by decide +kernel
theorem d_X2_firstWinsBehind_4 : decode prog_4_method_4_code 4 = .ok (.aload_n 0, 1) := by decide +kernel
theorem d_X2_firstWinsBehind_5 : decode prog_4_method_4_code 5 = .ok (.getfield 34, 3) := by decide +kernel
theorem d_X2_firstWinsBehind_8 : decode prog_4_method_4_code 8 = .ok (.iload_n 1, 1) := by decide +kernel
theorem d_X2_firstWinsBehind_9 : decode prog_4_method_4_code 9 = .ok (.iadd, 1) := by decide +kernel
theorem d_X2_firstWinsBehind_10 : decode prog_4_method_4_code 10 = .ok (.iload_n 2, 1) := by decide +kernel
theorem d_X2_firstWinsBehind_11 : decode prog_4_method_4_code 11 = .ok (.iload_n 3, 1) := by decide +kernel
theorem d_X2_firstWinsBehind_12 : decode prog_4_method_4_code 12 = .ok (.invokevirtual 63, 3) := by decide +kernel
theorem d_X2_firstWinsBehind_15 : decode prog_4_method_4_code 15 = .ok (.aload_n 0, 1) := by decide +kernel
theorem d_X2_firstWinsBehind_16 : decode prog_4_method_4_code 16 = .ok (.dup, 1) := by decide +kernel
theorem d_X2_firstWinsBehind_17 : decode prog_4_method_4_code 17 = .ok (.getfield 35, 3) := by decide +kernel
theorem d_X2_firstWinsBehind_20 : decode prog_4_method_4_code 20 = .ok (.iconst 1, 1) := by decide +kernel
theorem d_X2_firstWinsBehind_21 : decode prog_4_method_4_code 21 = .ok (.iload_n 2, 1) := by decide +kernel
theorem d_X2_firstWinsBehind_22 : decode prog_4_method_4_code 22 = .ok (.ishl, 1) := by decide +kernel
theorem d_X2_firstWinsBehind_23 : decode prog_4_method_4_code 23 = .ok (.ior, 1) := by decide +kernel
theorem d_X2_firstWinsBehind_24 : decode prog_4_method_4_code 24 = .ok (.putfield 35, 3) := by decide +kernel
theorem d_X2_firstWinsBehind_27 : decode prog_4_method_4_code 27 = .ok (.aload_n 0, 1) := by decide +kernel
theorem d_X2_firstWinsBehind_28 : decode prog_4_method_4_code 28 = .ok (.iload_n 1, 1) := by decide +kernel
theorem d_X2_firstWinsBehind_29 : decode prog_4_method_4_code 29 = .ok (.iconst 1, 1) := by decide +kernel
theorem d_X2_firstWinsBehind_30 : decode prog_4_method_4_code 30 = .ok (.iadd, 1) := by decide +kernel
theorem d_X2_firstWinsBehind_31 : decode prog_4_method_4_code 31 = .ok (.invokevirtual 67, 3) := by decide +kernel
theorem d_X2_firstWinsBehind_34 : decode prog_4_method_4_code 34 = .ok (.istore 4, 2) := by decide +kernel
theorem d_X2_firstWinsBehind_36 : decode prog_4_method_4_code 36 = .ok (.aload_n 0, 1) := by decide +kernel
theorem d_X2_firstWinsBehind_37 : decode prog_4_method_4_code 37 = .ok (.dup, 1) := by decide +kernel
theorem d_X2_firstWinsBehind_38 : decode prog_4_method_4_code 38 = .ok (.getfield 35, 3) := by decide +kernel
theorem d_X2_firstWinsBehind_41 : decode prog_4_method_4_code 41 = .ok (.iconst 1, 1) := by decide +kernel
theorem d_X2_firstWinsBehind_42 : decode prog_4_method_4_code 42 = .ok (.iload_n 2, 1) := by decide +kernel
theorem d_X2_firstWinsBehind_43 : decode prog_4_method_4_code 43 = .ok (.ishl, 1) := by decide +kernel
theorem d_X2_firstWinsBehind_44 : decode prog_4_method_4_code 44 = .ok (.iconst (-1), 1) := by decide +kernel
theorem d_X2_firstWinsBehind_45 : decode prog_4_method_4_code 45 = .ok (.ixor, 1) := by decide +kernel
theorem d_X2_firstWinsBehind_46 : decode prog_4_method_4_code 46 = .ok (.iand, 1) := by decide +kernel
theorem d_X2_firstWinsBehind_47 : decode prog_4_method_4_code 47 = .ok (.putfield 35, 3) := by decide +kernel
theorem d_X2_firstWinsBehind_50 : decode prog_4_method_4_code 50 = .ok (.iload 4, 2) := by decide +kernel
theorem d_X2_firstWinsBehind_52 : decode prog_4_method_4_code 52 = .ok (.ireturn, 1) := by decide +kernel
theorem d_X2_firstMove_0 : decode prog_4_method_5_code 0 = .ok (.aload_n 0, 1) := by decide +kernel
theorem d_X2_firstMove_1 : decode prog_4_method_5_code 1 = .ok (.getfield 48, 3) := by decide +kernel
theorem d_X2_firstMove_4 : decode prog_4_method_5_code 4 = .ok (.iconst 1, 1) := by decide +kernel
theorem d_X2_firstMove_5 : decode prog_4_method_5_code 5 = .ok (.if_icmp .ge 6, 3) := by decide +kernel
theorem d_X2_firstMove_8 : decode prog_4_method_5_code 8 = .ok (.bipush (-3), 2) := by decide +kernel
theorem d_X2_firstMove_10 : decode prog_4_method_5_code 10 = .ok (.ireturn, 1) := by decide +kernel
theorem d_X2_firstMove_11 : decode prog_4_method_5_code 11 = .ok (.aload_n 0, 1) := by decide +kernel
theorem d_X2_firstMove_12 : decode prog_4_method_5_code 12 = .ok (.iconst 0, 1) := by decide +kernel
theorem d_X2_firstMove_13 : decode prog_4_method_5_code 13 = .ok (.invokevirtual 67, 3) := by decide +kernel
theorem d_X2_firstMove_16 : decode prog_4_method_5_code 16 = .ok (.istore_n 1, 1) := by decide +kernel
theorem d_X2_firstMove_17 : decode prog_4_method_5_code 17 = .ok (.iconst 0, 1) := by decide +kernel
theorem d_X2_firstMove_18 : decode prog_4_method_5_code 18 = .ok (.istore_n 2, 1) := by decide +kernel
theorem d_X2_firstMove_19 : decode prog_4_method_5_code 19 = .ok (.iload_n 2, 1) := by decide +kernel
theorem d_X2_firstMove_20 : decode prog_4_method_5_code 20 = .ok (.aload_n 0, 1) := by decide +kernel
theorem d_X2_firstMove_21 : decode prog_4_method_5_code 21 = .ok (.getfield 30, 3) := by decide +kernel
theorem d_X2_firstMove_24 : decode prog_4_method_5_code 24 = .ok (.if_icmp .ge 51, 3) := by decide +kernel
theorem d_X2_firstMove_27 : decode prog_4_method_5_code 27 = .ok (.iconst 0, 1) := by decide +kernel
theorem d_X2_firstMove_28 : decode prog_4_method_5_code 28 = .ok (.istore_n 3, 1) := by decide +kernel
theorem d_X2_firstMove_29 : decode prog_4_method_5_code 29 = .ok (.iload_n 3, 1) := by decide +kernel
theorem d_X2_firstMove_30 : decode prog_4_method_5_code 30 = .ok (.iconst 3, 1) := by decide +kernel
theorem d_X2_firstMove_31 : decode prog_4_method_5_code 31 = .ok (.if_icmp .ge 38, 3) := by decide +kernel
theorem d_X2_firstMove_34 : decode prog_4_method_5_code 34 = .ok (.aload_n 0, 1) := by decide +kernel
theorem d_X2_firstMove_35 : decode prog_4_method_5_code 35 = .ok (.getfield 35, 3) := by decide +kernel
theorem d_X2_firstMove_38 : decode prog_4_method_5_code 38 = .ok (.iload_n 2, 1) := by decide +kernel
theorem d_X2_firstMove_39 : decode prog_4_method_5_code 39 = .ok (.ishr, 1) := by decide +kernel
theorem d_X2_firstMove_40 : decode prog_4_method_5_code 40 = .ok (.iconst 1, 1) := by decide +kernel
theorem d_X2_firstMove_41 : decode prog_4_method_5_code 41 = .ok (.iand, 1) := by decide +kernel
theorem d_X2_firstMove_42 : decode prog_4_method_5_code 42 = .ok (.ifCond .ne 27, 3) := by decide +kernel
theorem d_X2_firstMove_45 : decode prog_4_method_5_code 45 = .ok (.aload_n 0, 1) := by decide +kernel
theorem d_X2_firstMove_46 : decode prog_4_method_5_code 46 = .ok (.iconst 0, 1) := by decide +kernel
theorem d_X2_firstMove_47 : decode prog_4_method_5_code 47 = .ok (.iload_n 2, 1) := by decide +kernel
theorem d_X2_firstMove_48 : decode prog_4_method_5_code 48 = .ok (.iload_n 3, 1) := by decide +kernel
theorem d_X2_firstMove_49 : decode prog_4_method_5_code 49 = .ok (.invokevirtual 59, 3) := by decide +kernel
theorem d_X2_firstMove_52 : decode prog_4_method_5_code 52 = .ok (.iload_n 1, 1) := by decide +kernel
theorem d_X2_firstMove_53 : decode prog_4_method_5_code 53 = .ok (.if_icmp .ne 10, 3) := by decide +kernel
theorem d_X2_firstMove_56 : decode prog_4_method_5_code 56 = .ok (.bipush 10, 2) := by decide +kernel
theorem d_X2_firstMove_58 : decode prog_4_method_5_code 58 = .ok (.iload_n 2, 1) := by decide +kernel
theorem d_X2_firstMove_59 : decode prog_4_method_5_code 59 = .ok (.imul, 1) := by decide +kernel
theorem d_X2_firstMove_60 : decode prog_4_method_5_code 60 = .ok (.iload_n 3, 1) := by decide +kernel
theorem d_X2_firstMove_61 : decode prog_4_method_5_code 61 = .ok (.iadd, 1) := by decide +kernel
theorem d_X2_firstMove_62 : decode prog_4_method_5_code 62 = .ok (.ireturn, 1) := by decide +kernel
theorem d_X2_firstMove_63 : decode prog_4_method_5_code 63 = .ok (.iinc 3 1, 3) := by decide +kernel
theorem d_X2_firstMove_66 : decode prog_4_method_5_code 66 = .ok (.goto (-37), 3) := by decide +kernel
theorem d_X2_firstMove_69 : decode prog_4_method_5_code 69 = .ok (.iinc 2 1, 3) := by decide +kernel
theorem d_X2_firstMove_72 : decode prog_4_method_5_code 72 = .ok (.goto (-53), 3) := by decide +kernel
theorem d_X2_firstMove_75 : decode prog_4_method_5_code 75 = .ok (.bipush (-3), 2) := by decide +kernel
theorem d_X2_firstMove_77 : decode prog_4_method_5_code 77 = .ok (.ireturn, 1) := by decide +kernel
theorem d_X3_init_0 : decode prog_5_method_1_code 0 = .ok (.aload_n 0, 1) := by decide +kernel
theorem d_X3_init_1 : decode prog_5_method_1_code 1 = .ok (.invokespecial 3, 3) := by decide +kernel
theorem d_X3_init_4 : decode prog_5_method_1_code 4 = .ok (.aload_n 0, 1) := by decide +kernel
theorem d_X3_init_5 : decode prog_5_method_1_code 5 = .ok (.bipush 30, 2) := by decide +kernel
theorem d_X3_init_7 : decode prog_5_method_1_code 7 = .ok (.newarray .int, 2) := by decide +kernel
theorem d_X3_init_9 : decode prog_5_method_1_code 9 = .ok (.putfield 9, 3) := by decide +kernel
theorem d_X3_init_12 : decode prog_5_method_1_code 12 = .ok (.return_, 1) := by decide +kernel
theorem d_X3_hold_0 : decode prog_5_method_2_code 0 = .ok (.aload_n 0, 1) := by decide +kernel
theorem d_X3_hold_1 : decode prog_5_method_2_code 1 = .ok (.iload_n 1, 1) := by decide +kernel
theorem d_X3_hold_2 : decode prog_5_method_2_code 2 = .ok (.putfield 15, 3) := by decide +kernel
theorem d_X3_hold_5 : decode prog_5_method_2_code 5 = .ok (.aload_n 0, 1) := by decide +kernel
theorem d_X3_hold_6 : decode prog_5_method_2_code 6 = .ok (.iload_n 2, 1) := by decide +kernel
theorem d_X3_hold_7 : decode prog_5_method_2_code 7 = .ok (.putfield 19, 3) := by decide +kernel
theorem d_X3_hold_10 : decode prog_5_method_2_code 10 = .ok (.aload_n 0, 1) := by decide +kernel
theorem d_X3_hold_11 : decode prog_5_method_2_code 11 = .ok (.iload_n 3, 1) := by decide +kernel
theorem d_X3_hold_12 : decode prog_5_method_2_code 12 = .ok (.putfield 22, 3) := by decide +kernel
theorem d_X3_hold_15 : decode prog_5_method_2_code 15 = .ok (.aload_n 0, 1) := by decide +kernel
theorem d_X3_hold_16 : decode prog_5_method_2_code 16 = .ok (.iconst 0, 1) := by decide +kernel
theorem d_X3_hold_17 : decode prog_5_method_2_code 17 = .ok (.putfield 25, 3) := by decide +kernel
theorem d_X3_hold_20 : decode prog_5_method_2_code 20 = .ok (.return_, 1) := by decide +kernel
theorem d_X3_begin_0 : decode prog_5_method_3_code 0 = .ok (.aload_n 0, 1) := by decide +kernel
theorem d_X3_begin_1 : decode prog_5_method_3_code 1 = .ok (.getfield 25, 3) := by decide +kernel
theorem d_X3_begin_4 : decode prog_5_method_3_code 4 = .ok (.ifCond .ne 12, 3) := by decide +kernel
theorem d_X3_begin_7 : decode prog_5_method_3_code 7 = .ok (.aload_n 0, 1) := by decide +kernel
theorem d_X3_begin_8 : decode prog_5_method_3_code 8 = .ok (.getfield 29, 3) := by decide +kernel
theorem d_X3_begin_11 : decode prog_5_method_3_code 11 = .ok (.bipush 30, 2) := by decide +kernel
theorem d_X3_begin_13 : decode prog_5_method_3_code 13 = .ok (.if_icmp .lt 4, 3) := by decide +kernel
theorem d_X3_begin_16 : decode prog_5_method_3_code 16 = .ok (.return_, 1) := by decide +kernel
theorem d_X3_begin_17 : decode prog_5_method_3_code 17 = .ok (.aload_n 0, 1) := by decide +kernel
theorem d_X3_begin_18 : decode prog_5_method_3_code 18 = .ok (.getfield 9, 3) := by decide +kernel
theorem d_X3_begin_21 : decode prog_5_method_3_code 21 = .ok (.aload_n 0, 1) := by decide +kernel
theorem d_X3_begin_22 : decode prog_5_method_3_code 22 = .ok (.getfield 29, 3) := by decide +kernel
theorem d_X3_begin_25 : decode prog_5_method_3_code 25 = .ok (.iload_n 1, 1) := by decide +kernel
theorem d_X3_begin_26 : decode prog_5_method_3_code 26 = .ok (.iastore, 1) := by decide +kernel
theorem d_X3_begin_27 : decode prog_5_method_3_code 27 = .ok (.aload_n 0, 1) := by decide +kernel
theorem d_X3_begin_28 : decode prog_5_method_3_code 28 = .ok (.dup, 1) := by decide +kernel
theorem d_X3_begin_29 : decode prog_5_method_3_code 29 = .ok (.getfield 29, 3) := by decide +kernel
theorem d_X3_begin_32 : decode prog_5_method_3_code 32 = .ok (.iconst 1, 1) := by decide +kernel
theorem d_X3_begin_33 : decode prog_5_method_3_code 33 = .ok (.iadd, 1) := by decide +kernel
theorem d_X3_begin_34 : decode prog_5_method_3_code 34 = .ok (.putfield 29, 3) := by decide +kernel
theorem d_X3_begin_37 : decode prog_5_method_3_code 37 = .ok (.return_, 1) := by decide +kernel
theorem d_X3_dims_0 : decode prog_5_method_4_code 0 = .ok (.aload_n 0, 1) := by decide +kernel
theorem d_X3_dims_1 : decode prog_5_method_4_code 1 = .ok (.getfield 15, 3) := by decide +kernel
theorem d_X3_dims_4 : decode prog_5_method_4_code 4 = .ok (.lookupswitch 59 #[(1, 28), (3, 45)], 28) := by decide +kernel
theorem d_X3_dims_32 : decode prog_5_method_4_code 32 = .ok (.aload_n 0, 1) := by decide +kernel
theorem d_X3_dims_33 : decode prog_5_method_4_code 33 = .ok (.bipush 20, 2) := by decide +kernel
theorem d_X3_dims_35 : decode prog_5_method_4_code 35 = .ok (.invokevirtual 32, 3) := by decide +kernel
theorem d_X3_dims_38 : decode prog_5_method_4_code 38 = .ok (.aload_n 0, 1) := by decide +kernel
theorem d_X3_dims_39 : decode prog_5_method_4_code 39 = .ok (.iload_n 1, 1) := by decide +kernel
theorem d_X3_dims_40 : decode prog_5_method_4_code 40 = .ok (.invokevirtual 36, 3) := by decide +kernel
theorem d_X3_dims_43 : decode prog_5_method_4_code 43 = .ok (.aload_n 0, 1) := by decide +kernel
theorem d_X3_dims_44 : decode prog_5_method_4_code 44 = .ok (.getfield 19, 3) := by decide +kernel
theorem d_X3_dims_47 : decode prog_5_method_4_code 47 = .ok (.ixor, 1) := by decide +kernel
theorem d_X3_dims_48 : decode prog_5_method_4_code 48 = .ok (.ireturn, 1) := by decide +kernel
theorem d_X3_dims_49 : decode prog_5_method_4_code 49 = .ok (.aload_n 0, 1) := by decide +kernel
theorem d_X3_dims_50 : decode prog_5_method_4_code 50 = .ok (.bipush 50, 2) := by decide +kernel
theorem d_X3_dims_52 : decode prog_5_method_4_code 52 = .ok (.invokevirtual 32, 3) := by decide +kernel
theorem d_X3_dims_55 : decode prog_5_method_4_code 55 = .ok (.aload_n 0, 1) := by decide +kernel
theorem d_X3_dims_56 : decode prog_5_method_4_code 56 = .ok (.iload_n 1, 1) := by decide +kernel
theorem d_X3_dims_57 : decode prog_5_method_4_code 57 = .ok (.invokevirtual 36, 3) := by decide +kernel
theorem d_X3_dims_60 : decode prog_5_method_4_code 60 = .ok (.iconst 1, 1) := by decide +kernel
theorem d_X3_dims_61 : decode prog_5_method_4_code 61 = .ok (.iadd, 1) := by decide +kernel
theorem d_X3_dims_62 : decode prog_5_method_4_code 62 = .ok (.ireturn, 1) := by decide +kernel
theorem d_X3_dims_63 : decode prog_5_method_4_code 63 = .ok (.aload_n 0, 1) := by decide +kernel
theorem d_X3_dims_64 : decode prog_5_method_4_code 64 = .ok (.iload_n 1, 1) := by decide +kernel
theorem d_X3_dims_65 : decode prog_5_method_4_code 65 = .ok (.invokevirtual 36, 3) := by decide +kernel
theorem d_X3_dims_68 : decode prog_5_method_4_code 68 = .ok (.ireturn, 1) := by decide +kernel
theorem d_X3_lensDims_0 : decode prog_5_method_5_code 0 = .ok (.aload_n 0, 1) := by decide +kernel
theorem d_X3_lensDims_1 : decode prog_5_method_5_code 1 = .ok (.bipush 10, 2) := by decide +kernel
theorem d_X3_lensDims_3 : decode prog_5_method_5_code 3 = .ok (.invokevirtual 32, 3) := by decide +kernel
theorem d_X3_lensDims_6 : decode prog_5_method_5_code 6 = .ok (.iload_n 1, 1) := by decide +kernel
theorem d_X3_lensDims_7 : decode prog_5_method_5_code 7 = .ok (.aload_n 0, 1) := by decide +kernel
theorem d_X3_lensDims_8 : decode prog_5_method_5_code 8 = .ok (.getfield 22, 3) := by decide +kernel
theorem d_X3_lensDims_11 : decode prog_5_method_5_code 11 = .ok (.iadd, 1) := by decide +kernel
theorem d_X3_lensDims_12 : decode prog_5_method_5_code 12 = .ok (.ireturn, 1) := by decide +kernel
theorem d_X3_widens_0 : decode prog_5_method_6_code 0 = .ok (.aload_n 0, 1) := by decide +kernel
theorem d_X3_widens_1 : decode prog_5_method_6_code 1 = .ok (.getfield 15, 3) := by decide +kernel
theorem d_X3_widens_4 : decode prog_5_method_6_code 4 = .ok (.tableswitch 62 2 5 #[32, 32, 62, 49], 32) := by decide +kernel
theorem d_X3_widens_36 : decode prog_5_method_6_code 36 = .ok (.aload_n 0, 1) := by decide +kernel
theorem d_X3_widens_37 : decode prog_5_method_6_code 37 = .ok (.bipush 30, 2) := by decide +kernel
theorem d_X3_widens_39 : decode prog_5_method_6_code 39 = .ok (.invokevirtual 32, 3) := by decide +kernel
theorem d_X3_widens_42 : decode prog_5_method_6_code 42 = .ok (.aload_n 0, 1) := by decide +kernel
theorem d_X3_widens_43 : decode prog_5_method_6_code 43 = .ok (.iload_n 1, 1) := by decide +kernel
theorem d_X3_widens_44 : decode prog_5_method_6_code 44 = .ok (.invokevirtual 40, 3) := by decide +kernel
theorem d_X3_widens_47 : decode prog_5_method_6_code 47 = .ok (.aload_n 0, 1) := by decide +kernel
theorem d_X3_widens_48 : decode prog_5_method_6_code 48 = .ok (.getfield 22, 3) := by decide +kernel
theorem d_X3_widens_51 : decode prog_5_method_6_code 51 = .ok (.isub, 1) := by decide +kernel
theorem d_X3_widens_52 : decode prog_5_method_6_code 52 = .ok (.ireturn, 1) := by decide +kernel
theorem d_X3_widens_53 : decode prog_5_method_6_code 53 = .ok (.aload_n 0, 1) := by decide +kernel
theorem d_X3_widens_54 : decode prog_5_method_6_code 54 = .ok (.bipush 60, 2) := by decide +kernel
theorem d_X3_widens_56 : decode prog_5_method_6_code 56 = .ok (.invokevirtual 32, 3) := by decide +kernel
theorem d_X3_widens_59 : decode prog_5_method_6_code 59 = .ok (.aload_n 0, 1) := by decide +kernel
theorem d_X3_widens_60 : decode prog_5_method_6_code 60 = .ok (.iload_n 1, 1) := by decide +kernel
theorem d_X3_widens_61 : decode prog_5_method_6_code 61 = .ok (.invokevirtual 40, 3) := by decide +kernel
theorem d_X3_widens_64 : decode prog_5_method_6_code 64 = .ok (.ineg, 1) := by decide +kernel
theorem d_X3_widens_65 : decode prog_5_method_6_code 65 = .ok (.ireturn, 1) := by decide +kernel
theorem d_X3_widens_66 : decode prog_5_method_6_code 66 = .ok (.aload_n 0, 1) := by decide +kernel
theorem d_X3_widens_67 : decode prog_5_method_6_code 67 = .ok (.iload_n 1, 1) := by decide +kernel
theorem d_X3_widens_68 : decode prog_5_method_6_code 68 = .ok (.invokevirtual 40, 3) := by decide +kernel
theorem d_X3_widens_71 : decode prog_5_method_6_code 71 = .ok (.ireturn, 1) := by decide +kernel
theorem d_X3_lensWidens_0 : decode prog_5_method_7_code 0 = .ok (.aload_n 0, 1) := by decide +kernel
theorem d_X3_lensWidens_1 : decode prog_5_method_7_code 1 = .ok (.bipush 11, 2) := by decide +kernel
theorem d_X3_lensWidens_3 : decode prog_5_method_7_code 3 = .ok (.invokevirtual 32, 3) := by decide +kernel
theorem d_X3_lensWidens_6 : decode prog_5_method_7_code 6 = .ok (.aload_n 0, 1) := by decide +kernel
theorem d_X3_lensWidens_7 : decode prog_5_method_7_code 7 = .ok (.iload_n 1, 1) := by decide +kernel
theorem d_X3_lensWidens_8 : decode prog_5_method_7_code 8 = .ok (.invokevirtual 43, 3) := by decide +kernel
theorem d_X3_lensWidens_11 : decode prog_5_method_7_code 11 = .ok (.iconst 2, 1) := by decide +kernel
theorem d_X3_lensWidens_12 : decode prog_5_method_7_code 12 = .ok (.imul, 1) := by decide +kernel
theorem d_X3_lensWidens_13 : decode prog_5_method_7_code 13 = .ok (.ireturn, 1) := by decide +kernel
theorem d_X3_parts_0 : decode prog_5_method_8_code 0 = .ok (.aload_n 0, 1) := by decide +kernel
theorem d_X3_parts_1 : decode prog_5_method_8_code 1 = .ok (.getfield 15, 3) := by decide +kernel
theorem d_X3_parts_4 : decode prog_5_method_8_code 4 = .ok (.lookupswitch 55 #[(4, 28), (5, 34)], 28) := by decide +kernel
theorem d_X3_parts_32 : decode prog_5_method_8_code 32 = .ok (.aload_n 0, 1) := by decide +kernel
theorem d_X3_parts_33 : decode prog_5_method_8_code 33 = .ok (.iload_n 1, 1) := by decide +kernel
theorem d_X3_parts_34 : decode prog_5_method_8_code 34 = .ok (.invokevirtual 46, 3) := by decide +kernel
theorem d_X3_parts_37 : decode prog_5_method_8_code 37 = .ok (.ireturn, 1) := by decide +kernel
theorem d_X3_parts_38 : decode prog_5_method_8_code 38 = .ok (.aload_n 0, 1) := by decide +kernel
theorem d_X3_parts_39 : decode prog_5_method_8_code 39 = .ok (.bipush 61, 2) := by decide +kernel
theorem d_X3_parts_41 : decode prog_5_method_8_code 41 = .ok (.invokevirtual 32, 3) := by decide +kernel
theorem d_X3_parts_44 : decode prog_5_method_8_code 44 = .ok (.aload_n 0, 1) := by decide +kernel
theorem d_X3_parts_45 : decode prog_5_method_8_code 45 = .ok (.iload_n 1, 1) := by decide +kernel
theorem d_X3_parts_46 : decode prog_5_method_8_code 46 = .ok (.invokevirtual 46, 3) := by decide +kernel
theorem d_X3_parts_49 : decode prog_5_method_8_code 49 = .ok (.aload_n 0, 1) := by decide +kernel
theorem d_X3_parts_50 : decode prog_5_method_8_code 50 = .ok (.aload_n 0, 1) := by decide +kernel
theorem d_X3_parts_51 : decode prog_5_method_8_code 51 = .ok (.getfield 19, 3) := by decide +kernel
theorem d_X3_parts_54 : decode prog_5_method_8_code 54 = .ok (.invokevirtual 43, 3) := by decide +kernel
theorem d_X3_parts_57 : decode prog_5_method_8_code 57 = .ok (.isub, 1) := by decide +kernel
theorem d_X3_parts_58 : decode prog_5_method_8_code 58 = .ok (.ireturn, 1) := by decide +kernel
theorem d_X3_parts_59 : decode prog_5_method_8_code 59 = .ok (.aload_n 0, 1) := by decide +kernel
theorem d_X3_parts_60 : decode prog_5_method_8_code 60 = .ok (.iload_n 1, 1) := by decide +kernel
theorem d_X3_parts_61 : decode prog_5_method_8_code 61 = .ok (.invokevirtual 49, 3) := by decide +kernel
theorem d_X3_parts_64 : decode prog_5_method_8_code 64 = .ok (.ireturn, 1) := by decide +kernel
theorem d_X3_twinParts_0 : decode prog_5_method_9_code 0 = .ok (.aload_n 0, 1) := by decide +kernel
theorem d_X3_twinParts_1 : decode prog_5_method_9_code 1 = .ok (.bipush 40, 2) := by decide +kernel
theorem d_X3_twinParts_3 : decode prog_5_method_9_code 3 = .ok (.invokevirtual 32, 3) := by decide +kernel
theorem d_X3_twinParts_6 : decode prog_5_method_9_code 6 = .ok (.aload_n 0, 1) := by decide +kernel
theorem d_X3_twinParts_7 : decode prog_5_method_9_code 7 = .ok (.iload_n 1, 1) := by decide +kernel
theorem d_X3_twinParts_8 : decode prog_5_method_9_code 8 = .ok (.iconst 2, 1) := by decide +kernel
theorem d_X3_twinParts_9 : decode prog_5_method_9_code 9 = .ok (.imul, 1) := by decide +kernel
theorem d_X3_twinParts_10 : decode prog_5_method_9_code 10 = .ok (.invokevirtual 49, 3) := by decide +kernel
theorem d_X3_twinParts_13 : decode prog_5_method_9_code 13 = .ok (.ireturn, 1) := by decide +kernel
theorem d_X3_lensParts_0 : decode prog_5_method_10_code 0 = .ok (.aload_n 0, 1) := by decide +kernel
theorem d_X3_lensParts_1 : decode prog_5_method_10_code 1 = .ok (.bipush 12, 2) := by decide +kernel
theorem d_X3_lensParts_3 : decode prog_5_method_10_code 3 = .ok (.invokevirtual 32, 3) := by decide +kernel
theorem d_X3_lensParts_6 : decode prog_5_method_10_code 6 = .ok (.aload_n 0, 1) := by decide +kernel
theorem d_X3_lensParts_7 : decode prog_5_method_10_code 7 = .ok (.getfield 22, 3) := by decide +kernel
theorem d_X3_lensParts_10 : decode prog_5_method_10_code 10 = .ok (.aload_n 0, 1) := by decide +kernel
theorem d_X3_lensParts_11 : decode prog_5_method_10_code 11 = .ok (.getfield 19, 3) := by decide +kernel
theorem d_X3_lensParts_14 : decode prog_5_method_10_code 14 = .ok (.if_icmp .ne 10, 3) := by decide +kernel
theorem d_X3_lensParts_17 : decode prog_5_method_10_code 17 = .ok (.aload_n 0, 1) := by decide +kernel
theorem d_X3_lensParts_18 : decode prog_5_method_10_code 18 = .ok (.iconst 1, 1) := by decide +kernel
theorem d_X3_lensParts_19 : decode prog_5_method_10_code 19 = .ok (.putfield 25, 3) := by decide +kernel
theorem d_X3_lensParts_22 : decode prog_5_method_10_code 22 = .ok (.iconst 0, 1) := by decide +kernel
theorem d_X3_lensParts_23 : decode prog_5_method_10_code 23 = .ok (.ireturn, 1) := by decide +kernel
theorem d_X3_lensParts_24 : decode prog_5_method_10_code 24 = .ok (.iload_n 1, 1) := by decide +kernel
theorem d_X3_lensParts_25 : decode prog_5_method_10_code 25 = .ok (.aload_n 0, 1) := by decide +kernel
theorem d_X3_lensParts_26 : decode prog_5_method_10_code 26 = .ok (.getfield 22, 3) := by decide +kernel
theorem d_X3_lensParts_29 : decode prog_5_method_10_code 29 = .ok (.aload_n 0, 1) := by decide +kernel
theorem d_X3_lensParts_30 : decode prog_5_method_10_code 30 = .ok (.getfield 19, 3) := by decide +kernel
theorem d_X3_lensParts_33 : decode prog_5_method_10_code 33 = .ok (.isub, 1) := by decide +kernel
theorem d_X3_lensParts_34 : decode prog_5_method_10_code 34 = .ok (.idiv, 1) := by decide +kernel
theorem d_X3_lensParts_35 : decode prog_5_method_10_code 35 = .ok (.ireturn, 1) := by decide +kernel
theorem d_X3_tells_0 : decode prog_5_method_11_code 0 = .ok (.aload_n 0, 1) := by decide +kernel
theorem d_X3_tells_1 : decode prog_5_method_11_code 1 = .ok (.getfield 15, 3) := by decide +kernel
theorem d_X3_tells_4 : decode prog_5_method_11_code 4 = .ok (.iconst 3, 1) := by decide +kernel
theorem d_X3_tells_5 : decode prog_5_method_11_code 5 = .ok (.if_icmp .eq 9, 3) := by decide +kernel
theorem d_X3_tells_8 : decode prog_5_method_11_code 8 = .ok (.aload_n 0, 1) := by decide +kernel
theorem d_X3_tells_9 : decode prog_5_method_11_code 9 = .ok (.iload_n 1, 1) := by decide +kernel
theorem d_X3_tells_10 : decode prog_5_method_11_code 10 = .ok (.invokevirtual 52, 3) := by decide +kernel
theorem d_X3_tells_13 : decode prog_5_method_11_code 13 = .ok (.ireturn, 1) := by decide +kernel
theorem d_X3_tells_14 : decode prog_5_method_11_code 14 = .ok (.aload_n 0, 1) := by decide +kernel
theorem d_X3_tells_15 : decode prog_5_method_11_code 15 = .ok (.bipush 51, 2) := by decide +kernel
theorem d_X3_tells_17 : decode prog_5_method_11_code 17 = .ok (.invokevirtual 32, 3) := by decide +kernel
theorem d_X3_tells_20 : decode prog_5_method_11_code 20 = .ok (.aload_n 0, 1) := by decide +kernel
theorem d_X3_tells_21 : decode prog_5_method_11_code 21 = .ok (.iload_n 1, 1) := by decide +kernel
theorem d_X3_tells_22 : decode prog_5_method_11_code 22 = .ok (.invokevirtual 52, 3) := by decide +kernel
theorem d_X3_tells_25 : decode prog_5_method_11_code 25 = .ok (.aload_n 0, 1) := by decide +kernel
theorem d_X3_tells_26 : decode prog_5_method_11_code 26 = .ok (.aload_n 0, 1) := by decide +kernel
theorem d_X3_tells_27 : decode prog_5_method_11_code 27 = .ok (.getfield 19, 3) := by decide +kernel
theorem d_X3_tells_30 : decode prog_5_method_11_code 30 = .ok (.invokevirtual 55, 3) := by decide +kernel
theorem d_X3_tells_33 : decode prog_5_method_11_code 33 = .ok (.iadd, 1) := by decide +kernel
theorem d_X3_tells_34 : decode prog_5_method_11_code 34 = .ok (.ireturn, 1) := by decide +kernel
theorem d_X3_lensTells_0 : decode prog_5_method_12_code 0 = .ok (.aload_n 0, 1) := by decide +kernel
theorem d_X3_lensTells_1 : decode prog_5_method_12_code 1 = .ok (.bipush 13, 2) := by decide +kernel
theorem d_X3_lensTells_3 : decode prog_5_method_12_code 3 = .ok (.invokevirtual 32, 3) := by decide +kernel
theorem d_X3_lensTells_6 : decode prog_5_method_12_code 6 = .ok (.aload_n 0, 1) := by decide +kernel
theorem d_X3_lensTells_7 : decode prog_5_method_12_code 7 = .ok (.iload_n 1, 1) := by decide +kernel
theorem d_X3_lensTells_8 : decode prog_5_method_12_code 8 = .ok (.invokevirtual 58, 3) := by decide +kernel
theorem d_X3_lensTells_11 : decode prog_5_method_12_code 11 = .ok (.aload_n 0, 1) := by decide +kernel
theorem d_X3_lensTells_12 : decode prog_5_method_12_code 12 = .ok (.getfield 19, 3) := by decide +kernel
theorem d_X3_lensTells_15 : decode prog_5_method_12_code 15 = .ok (.ixor, 1) := by decide +kernel
theorem d_X3_lensTells_16 : decode prog_5_method_12_code 16 = .ok (.ireturn, 1) := by decide +kernel
theorem d_X4_init_0 : decode prog_6_method_1_code 0 = .ok (.aload_n 0, 1) := by decide +kernel
theorem d_X4_init_1 : decode prog_6_method_1_code 1 = .ok (.invokespecial 3, 3) := by decide +kernel
theorem d_X4_init_4 : decode prog_6_method_1_code 4 = .ok (.aload_n 0, 1) := by decide +kernel
theorem d_X4_init_5 : decode prog_6_method_1_code 5 = .ok (.iconst 3, 1) := by decide +kernel
theorem d_X4_init_6 : decode prog_6_method_1_code 6 = .ok (.newarray .int, 2) := by decide +kernel
theorem d_X4_init_8 : decode prog_6_method_1_code 8 = .ok (.putfield 9, 3) := by decide +kernel
theorem d_X4_init_11 : decode prog_6_method_1_code 11 = .ok (.aload_n 0, 1) := by decide +kernel
theorem d_X4_init_12 : decode prog_6_method_1_code 12 = .ok (.iconst 3, 1) := by decide +kernel
theorem d_X4_init_13 : decode prog_6_method_1_code 13 = .ok (.newarray .int, 2) := by decide +kernel
theorem d_X4_init_15 : decode prog_6_method_1_code 15 = .ok (.putfield 15, 3) := by decide +kernel
theorem d_X4_init_18 : decode prog_6_method_1_code 18 = .ok (.aload_n 0, 1) := by decide +kernel
theorem d_X4_init_19 : decode prog_6_method_1_code 19 = .ok (.iconst 3, 1) := by decide +kernel
theorem d_X4_init_20 : decode prog_6_method_1_code 20 = .ok (.newarray .int, 2) := by decide +kernel
theorem d_X4_init_22 : decode prog_6_method_1_code 22 = .ok (.putfield 18, 3) := by decide +kernel
theorem d_X4_init_25 : decode prog_6_method_1_code 25 = .ok (.aload_n 0, 1) := by decide +kernel
theorem d_X4_init_26 : decode prog_6_method_1_code 26 = .ok (.iconst 3, 1) := by decide +kernel
theorem d_X4_init_27 : decode prog_6_method_1_code 27 = .ok (.newarray .int, 2) := by decide +kernel
theorem d_X4_init_29 : decode prog_6_method_1_code 29 = .ok (.putfield 21, 3) := by decide +kernel
theorem d_X4_init_32 : decode prog_6_method_1_code 32 = .ok (.aload_n 0, 1) := by decide +kernel
theorem d_X4_init_33 : decode prog_6_method_1_code 33 = .ok (.bipush 9, 2) := by decide +kernel
theorem d_X4_init_35 : decode prog_6_method_1_code 35 = .ok (.newarray .int, 2) := by decide +kernel
theorem d_X4_init_37 : decode prog_6_method_1_code 37 = .ok (.putfield 24, 3) := by decide +kernel
theorem d_X4_init_40 : decode prog_6_method_1_code 40 = .ok (.aload_n 0, 1) := by decide +kernel
theorem d_X4_init_41 : decode prog_6_method_1_code 41 = .ok (.bipush 9, 2) := by decide +kernel
theorem d_X4_init_43 : decode prog_6_method_1_code 43 = .ok (.newarray .int, 2) := by decide +kernel
theorem d_X4_init_45 : decode prog_6_method_1_code 45 = .ok (.putfield 27, 3) := by decide +kernel
theorem d_X4_init_48 : decode prog_6_method_1_code 48 = .ok (.aload_n 0, 1) := by decide +kernel
theorem d_X4_init_49 : decode prog_6_method_1_code 49 = .ok (.bipush 9, 2) := by decide +kernel
theorem d_X4_init_51 : decode prog_6_method_1_code 51 = .ok (.newarray .int, 2) := by decide +kernel
theorem d_X4_init_53 : decode prog_6_method_1_code 53 = .ok (.putfield 30, 3) := by decide +kernel
theorem d_X4_init_56 : decode prog_6_method_1_code 56 = .ok (.aload_n 0, 1) := by decide +kernel
theorem d_X4_init_57 : decode prog_6_method_1_code 57 = .ok (.aload_n 1, 1) := by decide +kernel
theorem d_X4_init_58 : decode prog_6_method_1_code 58 = .ok (.putfield 33, 3) := by decide +kernel
theorem d_X4_init_61 : decode prog_6_method_1_code 61 = .ok (.return_, 1) := by decide +kernel
theorem d_X4_lookAtTubes_0 : decode prog_6_method_2_code 0 = .ok (.aload_n 0, 1) := by decide +kernel
theorem d_X4_lookAtTubes_1 : decode prog_6_method_2_code 1 = .ok (.getfield 33, 3) := by decide +kernel
theorem d_X4_lookAtTubes_4 : decode prog_6_method_2_code 4 = .ok (.aload_n 1, 1) := by decide +kernel
theorem d_X4_lookAtTubes_5 : decode prog_6_method_2_code 5 = .ok (.invokevirtual 37, 3) := by decide +kernel
theorem d_X4_lookAtTubes_8 : decode prog_6_method_2_code 8 = .ok (.aload_n 0, 1) := by decide +kernel
theorem d_X4_lookAtTubes_9 : decode prog_6_method_2_code 9 = .ok (.aload_n 1, 1) := by decide +kernel
theorem d_X4_lookAtTubes_10 : decode prog_6_method_2_code 10 = .ok (.getfield 43, 3) := by decide +kernel
theorem d_X4_lookAtTubes_13 : decode prog_6_method_2_code 13 = .ok (.putfield 49, 3) := by decide +kernel
theorem d_X4_lookAtTubes_16 : decode prog_6_method_2_code 16 = .ok (.aload_n 0, 1) := by decide +kernel
theorem d_X4_lookAtTubes_17 : decode prog_6_method_2_code 17 = .ok (.iload_n 2, 1) := by decide +kernel
theorem d_X4_lookAtTubes_18 : decode prog_6_method_2_code 18 = .ok (.putfield 50, 3) := by decide +kernel
theorem d_X4_lookAtTubes_21 : decode prog_6_method_2_code 21 = .ok (.aload_n 0, 1) := by decide +kernel
theorem d_X4_lookAtTubes_22 : decode prog_6_method_2_code 22 = .ok (.iconst 0, 1) := by decide +kernel
theorem d_X4_lookAtTubes_23 : decode prog_6_method_2_code 23 = .ok (.putfield 53, 3) := by decide +kernel
theorem d_X4_lookAtTubes_26 : decode prog_6_method_2_code 26 = .ok (.aload_n 0, 1) := by decide +kernel
theorem d_X4_lookAtTubes_27 : decode prog_6_method_2_code 27 = .ok (.iconst (-1), 1) := by decide +kernel
theorem d_X4_lookAtTubes_28 : decode prog_6_method_2_code 28 = .ok (.putfield 56, 3) := by decide +kernel
theorem d_X4_lookAtTubes_31 : decode prog_6_method_2_code 31 = .ok (.aload_n 0, 1) := by decide +kernel
theorem d_X4_lookAtTubes_32 : decode prog_6_method_2_code 32 = .ok (.iconst 0, 1) := by decide +kernel
theorem d_X4_lookAtTubes_33 : decode prog_6_method_2_code 33 = .ok (.putfield 59, 3) := by decide +kernel
theorem d_X4_lookAtTubes_36 : decode prog_6_method_2_code 36 = .ok (.aload_n 0, 1) := by decide +kernel
theorem d_X4_lookAtTubes_37 : decode prog_6_method_2_code 37 = .ok (.getfield 24, 3) := by decide +kernel
theorem d_X4_lookAtTubes_40 : decode prog_6_method_2_code 40 = .ok (.iconst 0, 1) := by decide +kernel
theorem d_X4_lookAtTubes_41 : decode prog_6_method_2_code 41 = .ok (.invokestatic 62, 3) := by decide +kernel
theorem d_X4_lookAtTubes_44 : decode prog_6_method_2_code 44 = .ok (.aload_n 0, 1) := by decide +kernel
theorem d_X4_lookAtTubes_45 : decode prog_6_method_2_code 45 = .ok (.iconst 0, 1) := by decide +kernel
theorem d_X4_lookAtTubes_46 : decode prog_6_method_2_code 46 = .ok (.iconst 1, 1) := by decide +kernel
theorem d_X4_lookAtTubes_47 : decode prog_6_method_2_code 47 = .ok (.invokevirtual 68, 3) := by decide +kernel
theorem d_X4_lookAtTubes_50 : decode prog_6_method_2_code 50 = .ok (.return_, 1) := by decide +kernel
theorem d_X4_walk_0 : decode prog_6_method_3_code 0 = .ok (.iload_n 1, 1) := by decide +kernel
theorem d_X4_walk_1 : decode prog_6_method_3_code 1 = .ok (.aload_n 0, 1) := by decide +kernel
theorem d_X4_walk_2 : decode prog_6_method_3_code 2 = .ok (.getfield 50, 3) := by decide +kernel
theorem d_X4_walk_5 : decode prog_6_method_3_code 5 = .ok (.if_icmp .lt 9, 3) := by decide +kernel
theorem d_X4_walk_8 : decode prog_6_method_3_code 8 = .ok (.aload_n 0, 1) := by decide +kernel
theorem d_X4_walk_9 : decode prog_6_method_3_code 9 = .ok (.iload_n 2, 1) := by decide +kernel
theorem d_X4_walk_10 : decode prog_6_method_3_code 10 = .ok (.invokevirtual 72, 3) := by decide +kernel
theorem d_X4_walk_13 : decode prog_6_method_3_code 13 = .ok (.return_, 1) := by decide +kernel
theorem d_X4_walk_14 : decode prog_6_method_3_code 14 = .ok (.iconst 0, 1) := by decide +kernel
theorem d_X4_walk_15 : decode prog_6_method_3_code 15 = .ok (.istore_n 3, 1) := by decide +kernel
theorem d_X4_walk_16 : decode prog_6_method_3_code 16 = .ok (.iload_n 3, 1) := by decide +kernel
theorem d_X4_walk_17 : decode prog_6_method_3_code 17 = .ok (.aload_n 0, 1) := by decide +kernel
theorem d_X4_walk_18 : decode prog_6_method_3_code 18 = .ok (.getfield 49, 3) := by decide +kernel
theorem d_X4_walk_21 : decode prog_6_method_3_code 21 = .ok (.if_icmp .ge 111, 3) := by decide +kernel
theorem d_X4_walk_24 : decode prog_6_method_3_code 24 = .ok (.aload_n 0, 1) := by decide +kernel
theorem d_X4_walk_25 : decode prog_6_method_3_code 25 = .ok (.getfield 53, 3) := by decide +kernel
theorem d_X4_walk_28 : decode prog_6_method_3_code 28 = .ok (.iload_n 3, 1) := by decide +kernel
theorem d_X4_walk_29 : decode prog_6_method_3_code 29 = .ok (.ishr, 1) := by decide +kernel
theorem d_X4_walk_30 : decode prog_6_method_3_code 30 = .ok (.iconst 1, 1) := by decide +kernel
theorem d_X4_walk_31 : decode prog_6_method_3_code 31 = .ok (.iand, 1) := by decide +kernel
theorem d_X4_walk_32 : decode prog_6_method_3_code 32 = .ok (.iconst 1, 1) := by decide +kernel
theorem d_X4_walk_33 : decode prog_6_method_3_code 33 = .ok (.if_icmp .ne 6, 3) := by decide +kernel
theorem d_X4_walk_36 : decode prog_6_method_3_code 36 = .ok (.goto 90, 3) := by decide +kernel
theorem d_X4_walk_39 : decode prog_6_method_3_code 39 = .ok (.aload_n 0, 1) := by decide +kernel
theorem d_X4_walk_40 : decode prog_6_method_3_code 40 = .ok (.dup, 1) := by decide +kernel
theorem d_X4_walk_41 : decode prog_6_method_3_code 41 = .ok (.getfield 53, 3) := by decide +kernel
theorem d_X4_walk_44 : decode prog_6_method_3_code 44 = .ok (.iconst 1, 1) := by decide +kernel
theorem d_X4_walk_45 : decode prog_6_method_3_code 45 = .ok (.iload_n 3, 1) := by decide +kernel
theorem d_X4_walk_46 : decode prog_6_method_3_code 46 = .ok (.ishl, 1) := by decide +kernel
theorem d_X4_walk_47 : decode prog_6_method_3_code 47 = .ok (.ior, 1) := by decide +kernel
theorem d_X4_walk_48 : decode prog_6_method_3_code 48 = .ok (.putfield 53, 3) := by decide +kernel
theorem d_X4_walk_51 : decode prog_6_method_3_code 51 = .ok (.aload_n 0, 1) := by decide +kernel
theorem d_X4_walk_52 : decode prog_6_method_3_code 52 = .ok (.getfield 9, 3) := by decide +kernel
theorem d_X4_walk_55 : decode prog_6_method_3_code 55 = .ok (.iload_n 1, 1) := by decide +kernel
theorem d_X4_walk_56 : decode prog_6_method_3_code 56 = .ok (.iload_n 3, 1) := by decide +kernel
theorem d_X4_walk_57 : decode prog_6_method_3_code 57 = .ok (.iastore, 1) := by decide +kernel
theorem d_X4_walk_58 : decode prog_6_method_3_code 58 = .ok (.iconst 0, 1) := by decide +kernel
theorem d_X4_walk_59 : decode prog_6_method_3_code 59 = .ok (.istore 4, 2) := by decide +kernel
theorem d_X4_walk_61 : decode prog_6_method_3_code 61 = .ok (.iload 4, 2) := by decide +kernel
theorem d_X4_walk_63 : decode prog_6_method_3_code 63 = .ok (.iconst 3, 1) := by decide +kernel
theorem d_X4_walk_64 : decode prog_6_method_3_code 64 = .ok (.if_icmp .ge 48, 3) := by decide +kernel
theorem d_X4_walk_67 : decode prog_6_method_3_code 67 = .ok (.aload_n 0, 1) := by decide +kernel
theorem d_X4_walk_68 : decode prog_6_method_3_code 68 = .ok (.getfield 15, 3) := by decide +kernel
theorem d_X4_walk_71 : decode prog_6_method_3_code 71 = .ok (.iload_n 1, 1) := by decide +kernel
theorem d_X4_walk_72 : decode prog_6_method_3_code 72 = .ok (.iload 4, 2) := by decide +kernel
theorem d_X4_walk_74 : decode prog_6_method_3_code 74 = .ok (.iastore, 1) := by decide +kernel
theorem d_X4_walk_75 : decode prog_6_method_3_code 75 = .ok (.aload_n 0, 1) := by decide +kernel
theorem d_X4_walk_76 : decode prog_6_method_3_code 76 = .ok (.getfield 33, 3) := by decide +kernel
theorem d_X4_walk_79 : decode prog_6_method_3_code 79 = .ok (.iload_n 1, 1) := by decide +kernel
theorem d_X4_walk_80 : decode prog_6_method_3_code 80 = .ok (.iload_n 3, 1) := by decide +kernel
theorem d_X4_walk_81 : decode prog_6_method_3_code 81 = .ok (.iload 4, 2) := by decide +kernel
theorem d_X4_walk_83 : decode prog_6_method_3_code 83 = .ok (.invokevirtual 76, 3) := by decide +kernel
theorem d_X4_walk_86 : decode prog_6_method_3_code 86 = .ok (.aload_n 0, 1) := by decide +kernel
theorem d_X4_walk_87 : decode prog_6_method_3_code 87 = .ok (.iload_n 1, 1) := by decide +kernel
theorem d_X4_walk_88 : decode prog_6_method_3_code 88 = .ok (.iconst 1, 1) := by decide +kernel
theorem d_X4_walk_89 : decode prog_6_method_3_code 89 = .ok (.iadd, 1) := by decide +kernel
theorem d_X4_walk_90 : decode prog_6_method_3_code 90 = .ok (.iload 4, 2) := by decide +kernel
theorem d_X4_walk_92 : decode prog_6_method_3_code 92 = .ok (.iconst 1, 1) := by decide +kernel
theorem d_X4_walk_93 : decode prog_6_method_3_code 93 = .ok (.if_icmp .ne 9, 3) := by decide +kernel
theorem d_X4_walk_96 : decode prog_6_method_3_code 96 = .ok (.iconst 2, 1) := by decide +kernel
theorem d_X4_walk_97 : decode prog_6_method_3_code 97 = .ok (.iload_n 2, 1) := by decide +kernel
theorem d_X4_walk_98 : decode prog_6_method_3_code 98 = .ok (.imul, 1) := by decide +kernel
theorem d_X4_walk_99 : decode prog_6_method_3_code 99 = .ok (.goto 4, 3) := by decide +kernel
theorem d_X4_walk_102 : decode prog_6_method_3_code 102 = .ok (.iload_n 2, 1) := by decide +kernel
theorem d_X4_walk_103 : decode prog_6_method_3_code 103 = .ok (.invokevirtual 68, 3) := by decide +kernel
theorem d_X4_walk_106 : decode prog_6_method_3_code 106 = .ok (.iinc 4 1, 3) := by decide +kernel
theorem d_X4_walk_109 : decode prog_6_method_3_code 109 = .ok (.goto (-48), 3) := by decide +kernel
theorem d_X4_walk_112 : decode prog_6_method_3_code 112 = .ok (.aload_n 0, 1) := by decide +kernel
theorem d_X4_walk_113 : decode prog_6_method_3_code 113 = .ok (.dup, 1) := by decide +kernel
theorem d_X4_walk_114 : decode prog_6_method_3_code 114 = .ok (.getfield 53, 3) := by decide +kernel
theorem d_X4_walk_117 : decode prog_6_method_3_code 117 = .ok (.iconst 1, 1) := by decide +kernel
theorem d_X4_walk_118 : decode prog_6_method_3_code 118 = .ok (.iload_n 3, 1) := by decide +kernel
theorem d_X4_walk_119 : decode prog_6_method_3_code 119 = .ok (.ishl, 1) := by decide +kernel
theorem d_X4_walk_120 : decode prog_6_method_3_code 120 = .ok (.iconst (-1), 1) := by decide +kernel
theorem d_X4_walk_121 : decode prog_6_method_3_code 121 = .ok (.ixor, 1) := by decide +kernel
theorem d_X4_walk_122 : decode prog_6_method_3_code 122 = .ok (.iand, 1) := by decide +kernel
theorem d_X4_walk_123 : decode prog_6_method_3_code 123 = .ok (.putfield 53, 3) := by decide +kernel
theorem d_X4_walk_126 : decode prog_6_method_3_code 126 = .ok (.iinc 3 1, 3) := by decide +kernel
theorem d_X4_walk_129 : decode prog_6_method_3_code 129 = .ok (.goto (-113), 3) := by decide +kernel
theorem d_X4_walk_132 : decode prog_6_method_3_code 132 = .ok (.return_, 1) := by decide +kernel
theorem d_X4_weigh_0 : decode prog_6_method_4_code 0 = .ok (.aload_n 0, 1) := by decide +kernel
theorem d_X4_weigh_1 : decode prog_6_method_4_code 1 = .ok (.getfield 33, 3) := by decide +kernel
theorem d_X4_weigh_4 : decode prog_6_method_4_code 4 = .ok (.aload_n 0, 1) := by decide +kernel
theorem d_X4_weigh_5 : decode prog_6_method_4_code 5 = .ok (.getfield 50, 3) := by decide +kernel
theorem d_X4_weigh_8 : decode prog_6_method_4_code 8 = .ok (.invokevirtual 80, 3) := by decide +kernel
theorem d_X4_weigh_11 : decode prog_6_method_4_code 11 = .ok (.aload_n 0, 1) := by decide +kernel
theorem d_X4_weigh_12 : decode prog_6_method_4_code 12 = .ok (.getfield 33, 3) := by decide +kernel
theorem d_X4_weigh_15 : decode prog_6_method_4_code 15 = .ok (.invokevirtual 83, 3) := by decide +kernel
theorem d_X4_weigh_18 : decode prog_6_method_4_code 18 = .ok (.istore_n 2, 1) := by decide +kernel
theorem d_X4_weigh_19 : decode prog_6_method_4_code 19 = .ok (.aload_n 0, 1) := by decide +kernel
theorem d_X4_weigh_20 : decode prog_6_method_4_code 20 = .ok (.getfield 33, 3) := by decide +kernel
theorem d_X4_weigh_23 : decode prog_6_method_4_code 23 = .ok (.invokevirtual 87, 3) := by decide +kernel
theorem d_X4_weigh_26 : decode prog_6_method_4_code 26 = .ok (.ifCond .eq 37, 3) := by decide +kernel
theorem d_X4_weigh_29 : decode prog_6_method_4_code 29 = .ok (.aload_n 0, 1) := by decide +kernel
theorem d_X4_weigh_30 : decode prog_6_method_4_code 30 = .ok (.dup, 1) := by decide +kernel
theorem d_X4_weigh_31 : decode prog_6_method_4_code 31 = .ok (.getfield 59, 3) := by decide +kernel
theorem d_X4_weigh_34 : decode prog_6_method_4_code 34 = .ok (.iload_n 1, 1) := by decide +kernel
theorem d_X4_weigh_35 : decode prog_6_method_4_code 35 = .ok (.iadd, 1) := by decide +kernel
theorem d_X4_weigh_36 : decode prog_6_method_4_code 36 = .ok (.putfield 59, 3) := by decide +kernel
theorem d_X4_weigh_39 : decode prog_6_method_4_code 39 = .ok (.aload_n 0, 1) := by decide +kernel
theorem d_X4_weigh_40 : decode prog_6_method_4_code 40 = .ok (.getfield 50, 3) := by decide +kernel
theorem d_X4_weigh_43 : decode prog_6_method_4_code 43 = .ok (.iconst 2, 1) := by decide +kernel
theorem d_X4_weigh_44 : decode prog_6_method_4_code 44 = .ok (.if_icmp .ne 19, 3) := by decide +kernel
theorem d_X4_weigh_47 : decode prog_6_method_4_code 47 = .ok (.aload_n 0, 1) := by decide +kernel
theorem d_X4_weigh_48 : decode prog_6_method_4_code 48 = .ok (.aload_n 0, 1) := by decide +kernel
theorem d_X4_weigh_49 : decode prog_6_method_4_code 49 = .ok (.getfield 9, 3) := by decide +kernel
theorem d_X4_weigh_52 : decode prog_6_method_4_code 52 = .ok (.iconst 0, 1) := by decide +kernel
theorem d_X4_weigh_53 : decode prog_6_method_4_code 53 = .ok (.iaload, 1) := by decide +kernel
theorem d_X4_weigh_54 : decode prog_6_method_4_code 54 = .ok (.aload_n 0, 1) := by decide +kernel
theorem d_X4_weigh_55 : decode prog_6_method_4_code 55 = .ok (.getfield 9, 3) := by decide +kernel
theorem d_X4_weigh_58 : decode prog_6_method_4_code 58 = .ok (.iconst 1, 1) := by decide +kernel
theorem d_X4_weigh_59 : decode prog_6_method_4_code 59 = .ok (.iaload, 1) := by decide +kernel
theorem d_X4_weigh_60 : decode prog_6_method_4_code 60 = .ok (.invokevirtual 91, 3) := by decide +kernel
theorem d_X4_weigh_63 : decode prog_6_method_4_code 63 = .ok (.aload_n 0, 1) := by decide +kernel
theorem d_X4_weigh_64 : decode prog_6_method_4_code 64 = .ok (.getfield 56, 3) := by decide +kernel
theorem d_X4_weigh_67 : decode prog_6_method_4_code 67 = .ok (.iconst (-1), 1) := by decide +kernel
theorem d_X4_weigh_68 : decode prog_6_method_4_code 68 = .ok (.if_icmp .eq 11, 3) := by decide +kernel
theorem d_X4_weigh_71 : decode prog_6_method_4_code 71 = .ok (.iload_n 2, 1) := by decide +kernel
theorem d_X4_weigh_72 : decode prog_6_method_4_code 72 = .ok (.aload_n 0, 1) := by decide +kernel
theorem d_X4_weigh_73 : decode prog_6_method_4_code 73 = .ok (.getfield 56, 3) := by decide +kernel
theorem d_X4_weigh_76 : decode prog_6_method_4_code 76 = .ok (.if_icmp .ge 36, 3) := by decide +kernel
theorem d_X4_weigh_79 : decode prog_6_method_4_code 79 = .ok (.aload_n 0, 1) := by decide +kernel
theorem d_X4_weigh_80 : decode prog_6_method_4_code 80 = .ok (.iload_n 2, 1) := by decide +kernel
theorem d_X4_weigh_81 : decode prog_6_method_4_code 81 = .ok (.putfield 56, 3) := by decide +kernel
theorem d_X4_weigh_84 : decode prog_6_method_4_code 84 = .ok (.aload_n 0, 1) := by decide +kernel
theorem d_X4_weigh_85 : decode prog_6_method_4_code 85 = .ok (.getfield 9, 3) := by decide +kernel
theorem d_X4_weigh_88 : decode prog_6_method_4_code 88 = .ok (.iconst 0, 1) := by decide +kernel
theorem d_X4_weigh_89 : decode prog_6_method_4_code 89 = .ok (.aload_n 0, 1) := by decide +kernel
theorem d_X4_weigh_90 : decode prog_6_method_4_code 90 = .ok (.getfield 18, 3) := by decide +kernel
theorem d_X4_weigh_93 : decode prog_6_method_4_code 93 = .ok (.iconst 0, 1) := by decide +kernel
theorem d_X4_weigh_94 : decode prog_6_method_4_code 94 = .ok (.iconst 3, 1) := by decide +kernel
theorem d_X4_weigh_95 : decode prog_6_method_4_code 95 = .ok (.invokestatic 94, 3) := by decide +kernel
theorem d_X4_weigh_98 : decode prog_6_method_4_code 98 = .ok (.aload_n 0, 1) := by decide +kernel
theorem d_X4_weigh_99 : decode prog_6_method_4_code 99 = .ok (.getfield 15, 3) := by decide +kernel
theorem d_X4_weigh_102 : decode prog_6_method_4_code 102 = .ok (.iconst 0, 1) := by decide +kernel
theorem d_X4_weigh_103 : decode prog_6_method_4_code 103 = .ok (.aload_n 0, 1) := by decide +kernel
theorem d_X4_weigh_104 : decode prog_6_method_4_code 104 = .ok (.getfield 21, 3) := by decide +kernel
theorem d_X4_weigh_107 : decode prog_6_method_4_code 107 = .ok (.iconst 0, 1) := by decide +kernel
theorem d_X4_weigh_108 : decode prog_6_method_4_code 108 = .ok (.iconst 3, 1) := by decide +kernel
theorem d_X4_weigh_109 : decode prog_6_method_4_code 109 = .ok (.invokestatic 94, 3) := by decide +kernel
theorem d_X4_weigh_112 : decode prog_6_method_4_code 112 = .ok (.return_, 1) := by decide +kernel
theorem d_X4_join_0 : decode prog_6_method_5_code 0 = .ok (.aload_n 0, 1) := by decide +kernel
theorem d_X4_join_1 : decode prog_6_method_5_code 1 = .ok (.getfield 24, 3) := by decide +kernel
theorem d_X4_join_4 : decode prog_6_method_5_code 4 = .ok (.iload_n 1, 1) := by decide +kernel
theorem d_X4_join_5 : decode prog_6_method_5_code 5 = .ok (.dup2, 1) := by decide +kernel
theorem d_X4_join_6 : decode prog_6_method_5_code 6 = .ok (.iaload, 1) := by decide +kernel
theorem d_X4_join_7 : decode prog_6_method_5_code 7 = .ok (.iconst 1, 1) := by decide +kernel
theorem d_X4_join_8 : decode prog_6_method_5_code 8 = .ok (.iload_n 2, 1) := by decide +kernel
theorem d_X4_join_9 : decode prog_6_method_5_code 9 = .ok (.ishl, 1) := by decide +kernel
theorem d_X4_join_10 : decode prog_6_method_5_code 10 = .ok (.ior, 1) := by decide +kernel
theorem d_X4_join_11 : decode prog_6_method_5_code 11 = .ok (.iastore, 1) := by decide +kernel
theorem d_X4_join_12 : decode prog_6_method_5_code 12 = .ok (.aload_n 0, 1) := by decide +kernel
theorem d_X4_join_13 : decode prog_6_method_5_code 13 = .ok (.getfield 24, 3) := by decide +kernel
theorem d_X4_join_16 : decode prog_6_method_5_code 16 = .ok (.iload_n 2, 1) := by decide +kernel
theorem d_X4_join_17 : decode prog_6_method_5_code 17 = .ok (.dup2, 1) := by decide +kernel
theorem d_X4_join_18 : decode prog_6_method_5_code 18 = .ok (.iaload, 1) := by decide +kernel
theorem d_X4_join_19 : decode prog_6_method_5_code 19 = .ok (.iconst 1, 1) := by decide +kernel
theorem d_X4_join_20 : decode prog_6_method_5_code 20 = .ok (.iload_n 1, 1) := by decide +kernel
theorem d_X4_join_21 : decode prog_6_method_5_code 21 = .ok (.ishl, 1) := by decide +kernel
theorem d_X4_join_22 : decode prog_6_method_5_code 22 = .ok (.ior, 1) := by decide +kernel
theorem d_X4_join_23 : decode prog_6_method_5_code 23 = .ok (.iastore, 1) := by decide +kernel
theorem d_X4_join_24 : decode prog_6_method_5_code 24 = .ok (.return_, 1) := by decide +kernel
theorem d_X4_match_0 : decode prog_6_method_6_code 0 = .ok (.aload_n 0, 1) := by decide +kernel
theorem d_X4_match_1 : decode prog_6_method_6_code 1 = .ok (.aload_n 1, 1) := by decide +kernel
theorem d_X4_match_2 : decode prog_6_method_6_code 2 = .ok (.iconst 2, 1) := by decide +kernel
theorem d_X4_match_3 : decode prog_6_method_6_code 3 = .ok (.invokevirtual 100, 3) := by decide +kernel
theorem d_X4_match_6 : decode prog_6_method_6_code 6 = .ok (.aload_n 0, 1) := by decide +kernel
theorem d_X4_match_7 : decode prog_6_method_6_code 7 = .ok (.iconst (-1), 1) := by decide +kernel
theorem d_X4_match_8 : decode prog_6_method_6_code 8 = .ok (.putfield 104, 3) := by decide +kernel
theorem d_X4_match_11 : decode prog_6_method_6_code 11 = .ok (.aload_n 0, 1) := by decide +kernel
theorem d_X4_match_12 : decode prog_6_method_6_code 12 = .ok (.getfield 27, 3) := by decide +kernel
theorem d_X4_match_15 : decode prog_6_method_6_code 15 = .ok (.bipush (-3), 2) := by decide +kernel
theorem d_X4_match_17 : decode prog_6_method_6_code 17 = .ok (.invokestatic 62, 3) := by decide +kernel
theorem d_X4_match_20 : decode prog_6_method_6_code 20 = .ok (.aload_n 0, 1) := by decide +kernel
theorem d_X4_match_21 : decode prog_6_method_6_code 21 = .ok (.iconst 0, 1) := by decide +kernel
theorem d_X4_match_22 : decode prog_6_method_6_code 22 = .ok (.iconst 0, 1) := by decide +kernel
theorem d_X4_match_23 : decode prog_6_method_6_code 23 = .ok (.invokevirtual 107, 3) := by decide +kernel
theorem d_X4_match_26 : decode prog_6_method_6_code 26 = .ok (.return_, 1) := by decide +kernel
theorem d_X4_pairFrom_0 : decode prog_6_method_7_code 0 = .ok (.iload_n 1, 1) := by decide +kernel
theorem d_X4_pairFrom_1 : decode prog_6_method_7_code 1 = .ok (.aload_n 0, 1) := by decide +kernel
theorem d_X4_pairFrom_2 : decode prog_6_method_7_code 2 = .ok (.getfield 49, 3) := by decide +kernel
theorem d_X4_pairFrom_5 : decode prog_6_method_7_code 5 = .ok (.if_icmp .lt 33, 3) := by decide +kernel
theorem d_X4_pairFrom_8 : decode prog_6_method_7_code 8 = .ok (.iload_n 2, 1) := by decide +kernel
theorem d_X4_pairFrom_9 : decode prog_6_method_7_code 9 = .ok (.aload_n 0, 1) := by decide +kernel
theorem d_X4_pairFrom_10 : decode prog_6_method_7_code 10 = .ok (.getfield 104, 3) := by decide +kernel
theorem d_X4_pairFrom_13 : decode prog_6_method_7_code 13 = .ok (.if_icmp .gt 4, 3) := by decide +kernel
theorem d_X4_pairFrom_16 : decode prog_6_method_7_code 16 = .ok (.return_, 1) := by decide +kernel
theorem d_X4_pairFrom_17 : decode prog_6_method_7_code 17 = .ok (.aload_n 0, 1) := by decide +kernel
theorem d_X4_pairFrom_18 : decode prog_6_method_7_code 18 = .ok (.iload_n 2, 1) := by decide +kernel
theorem d_X4_pairFrom_19 : decode prog_6_method_7_code 19 = .ok (.putfield 104, 3) := by decide +kernel
theorem d_X4_pairFrom_22 : decode prog_6_method_7_code 22 = .ok (.aload_n 0, 1) := by decide +kernel
theorem d_X4_pairFrom_23 : decode prog_6_method_7_code 23 = .ok (.getfield 27, 3) := by decide +kernel
theorem d_X4_pairFrom_26 : decode prog_6_method_7_code 26 = .ok (.iconst 0, 1) := by decide +kernel
theorem d_X4_pairFrom_27 : decode prog_6_method_7_code 27 = .ok (.aload_n 0, 1) := by decide +kernel
theorem d_X4_pairFrom_28 : decode prog_6_method_7_code 28 = .ok (.getfield 30, 3) := by decide +kernel
theorem d_X4_pairFrom_31 : decode prog_6_method_7_code 31 = .ok (.iconst 0, 1) := by decide +kernel
theorem d_X4_pairFrom_32 : decode prog_6_method_7_code 32 = .ok (.bipush 9, 2) := by decide +kernel
theorem d_X4_pairFrom_34 : decode prog_6_method_7_code 34 = .ok (.invokestatic 94, 3) := by decide +kernel
theorem d_X4_pairFrom_37 : decode prog_6_method_7_code 37 = .ok (.return_, 1) := by decide +kernel
theorem d_X4_pairFrom_38 : decode prog_6_method_7_code 38 = .ok (.iload_n 2, 1) := by decide +kernel
theorem d_X4_pairFrom_39 : decode prog_6_method_7_code 39 = .ok (.aload_n 0, 1) := by decide +kernel
theorem d_X4_pairFrom_40 : decode prog_6_method_7_code 40 = .ok (.getfield 49, 3) := by decide +kernel
theorem d_X4_pairFrom_43 : decode prog_6_method_7_code 43 = .ok (.iload_n 1, 1) := by decide +kernel
theorem d_X4_pairFrom_44 : decode prog_6_method_7_code 44 = .ok (.isub, 1) := by decide +kernel
theorem d_X4_pairFrom_45 : decode prog_6_method_7_code 45 = .ok (.iconst 2, 1) := by decide +kernel
theorem d_X4_pairFrom_46 : decode prog_6_method_7_code 46 = .ok (.idiv, 1) := by decide +kernel
theorem d_X4_pairFrom_47 : decode prog_6_method_7_code 47 = .ok (.iadd, 1) := by decide +kernel
theorem d_X4_pairFrom_48 : decode prog_6_method_7_code 48 = .ok (.aload_n 0, 1) := by decide +kernel
theorem d_X4_pairFrom_49 : decode prog_6_method_7_code 49 = .ok (.getfield 104, 3) := by decide +kernel
theorem d_X4_pairFrom_52 : decode prog_6_method_7_code 52 = .ok (.if_icmp .gt 4, 3) := by decide +kernel
theorem d_X4_pairFrom_55 : decode prog_6_method_7_code 55 = .ok (.return_, 1) := by decide +kernel
theorem d_X4_pairFrom_56 : decode prog_6_method_7_code 56 = .ok (.aload_n 0, 1) := by decide +kernel
theorem d_X4_pairFrom_57 : decode prog_6_method_7_code 57 = .ok (.getfield 27, 3) := by decide +kernel
theorem d_X4_pairFrom_60 : decode prog_6_method_7_code 60 = .ok (.iload_n 1, 1) := by decide +kernel
theorem d_X4_pairFrom_61 : decode prog_6_method_7_code 61 = .ok (.iaload, 1) := by decide +kernel
theorem d_X4_pairFrom_62 : decode prog_6_method_7_code 62 = .ok (.bipush (-3), 2) := by decide +kernel
theorem d_X4_pairFrom_64 : decode prog_6_method_7_code 64 = .ok (.if_icmp .ne 88, 3) := by decide +kernel
theorem d_X4_pairFrom_67 : decode prog_6_method_7_code 67 = .ok (.iload_n 1, 1) := by decide +kernel
theorem d_X4_pairFrom_68 : decode prog_6_method_7_code 68 = .ok (.iconst 1, 1) := by decide +kernel
theorem d_X4_pairFrom_69 : decode prog_6_method_7_code 69 = .ok (.iadd, 1) := by decide +kernel
theorem d_X4_pairFrom_70 : decode prog_6_method_7_code 70 = .ok (.istore_n 3, 1) := by decide +kernel
theorem d_X4_pairFrom_71 : decode prog_6_method_7_code 71 = .ok (.iload_n 3, 1) := by decide +kernel
theorem d_X4_pairFrom_72 : decode prog_6_method_7_code 72 = .ok (.aload_n 0, 1) := by decide +kernel
theorem d_X4_pairFrom_73 : decode prog_6_method_7_code 73 = .ok (.getfield 49, 3) := by decide +kernel
theorem d_X4_pairFrom_76 : decode prog_6_method_7_code 76 = .ok (.if_icmp .ge 76, 3) := by decide +kernel
theorem d_X4_pairFrom_79 : decode prog_6_method_7_code 79 = .ok (.aload_n 0, 1) := by decide +kernel
theorem d_X4_pairFrom_80 : decode prog_6_method_7_code 80 = .ok (.getfield 27, 3) := by decide +kernel
theorem d_X4_pairFrom_83 : decode prog_6_method_7_code 83 = .ok (.iload_n 3, 1) := by decide +kernel
theorem d_X4_pairFrom_84 : decode prog_6_method_7_code 84 = .ok (.iaload, 1) := by decide +kernel
theorem d_X4_pairFrom_85 : decode prog_6_method_7_code 85 = .ok (.bipush (-3), 2) := by decide +kernel
theorem d_X4_pairFrom_87 : decode prog_6_method_7_code 87 = .ok (.if_icmp .ne 59, 3) := by decide +kernel
theorem d_X4_pairFrom_90 : decode prog_6_method_7_code 90 = .ok (.aload_n 0, 1) := by decide +kernel
theorem d_X4_pairFrom_91 : decode prog_6_method_7_code 91 = .ok (.getfield 24, 3) := by decide +kernel
theorem d_X4_pairFrom_94 : decode prog_6_method_7_code 94 = .ok (.iload_n 1, 1) := by decide +kernel
theorem d_X4_pairFrom_95 : decode prog_6_method_7_code 95 = .ok (.iaload, 1) := by decide +kernel
theorem d_X4_pairFrom_96 : decode prog_6_method_7_code 96 = .ok (.iload_n 3, 1) := by decide +kernel
theorem d_X4_pairFrom_97 : decode prog_6_method_7_code 97 = .ok (.ishr, 1) := by decide +kernel
theorem d_X4_pairFrom_98 : decode prog_6_method_7_code 98 = .ok (.iconst 1, 1) := by decide +kernel
theorem d_X4_pairFrom_99 : decode prog_6_method_7_code 99 = .ok (.iand, 1) := by decide +kernel
theorem d_X4_pairFrom_100 : decode prog_6_method_7_code 100 = .ok (.ifCond .ne 6, 3) := by decide +kernel
theorem d_X4_pairFrom_103 : decode prog_6_method_7_code 103 = .ok (.goto 43, 3) := by decide +kernel
theorem d_X4_pairFrom_106 : decode prog_6_method_7_code 106 = .ok (.aload_n 0, 1) := by decide +kernel
theorem d_X4_pairFrom_107 : decode prog_6_method_7_code 107 = .ok (.getfield 27, 3) := by decide +kernel
theorem d_X4_pairFrom_110 : decode prog_6_method_7_code 110 = .ok (.iload_n 1, 1) := by decide +kernel
theorem d_X4_pairFrom_111 : decode prog_6_method_7_code 111 = .ok (.iload_n 3, 1) := by decide +kernel
theorem d_X4_pairFrom_112 : decode prog_6_method_7_code 112 = .ok (.iastore, 1) := by decide +kernel
theorem d_X4_pairFrom_113 : decode prog_6_method_7_code 113 = .ok (.aload_n 0, 1) := by decide +kernel
theorem d_X4_pairFrom_114 : decode prog_6_method_7_code 114 = .ok (.getfield 27, 3) := by decide +kernel
theorem d_X4_pairFrom_117 : decode prog_6_method_7_code 117 = .ok (.iload_n 3, 1) := by decide +kernel
theorem d_X4_pairFrom_118 : decode prog_6_method_7_code 118 = .ok (.iload_n 1, 1) := by decide +kernel
theorem d_X4_pairFrom_119 : decode prog_6_method_7_code 119 = .ok (.iastore, 1) := by decide +kernel
theorem d_X4_pairFrom_120 : decode prog_6_method_7_code 120 = .ok (.aload_n 0, 1) := by decide +kernel
theorem d_X4_pairFrom_121 : decode prog_6_method_7_code 121 = .ok (.iload_n 1, 1) := by decide +kernel
theorem d_X4_pairFrom_122 : decode prog_6_method_7_code 122 = .ok (.iconst 1, 1) := by decide +kernel
theorem d_X4_pairFrom_123 : decode prog_6_method_7_code 123 = .ok (.iadd, 1) := by decide +kernel
theorem d_X4_pairFrom_124 : decode prog_6_method_7_code 124 = .ok (.iload_n 2, 1) := by decide +kernel
theorem d_X4_pairFrom_125 : decode prog_6_method_7_code 125 = .ok (.iconst 1, 1) := by decide +kernel
theorem d_X4_pairFrom_126 : decode prog_6_method_7_code 126 = .ok (.iadd, 1) := by decide +kernel
theorem d_X4_pairFrom_127 : decode prog_6_method_7_code 127 = .ok (.invokevirtual 107, 3) := by decide +kernel
theorem d_X4_pairFrom_130 : decode prog_6_method_7_code 130 = .ok (.aload_n 0, 1) := by decide +kernel
theorem d_X4_pairFrom_131 : decode prog_6_method_7_code 131 = .ok (.getfield 27, 3) := by decide +kernel
theorem d_X4_pairFrom_134 : decode prog_6_method_7_code 134 = .ok (.iload_n 1, 1) := by decide +kernel
theorem d_X4_pairFrom_135 : decode prog_6_method_7_code 135 = .ok (.bipush (-3), 2) := by decide +kernel
theorem d_X4_pairFrom_137 : decode prog_6_method_7_code 137 = .ok (.iastore, 1) := by decide +kernel
theorem d_X4_pairFrom_138 : decode prog_6_method_7_code 138 = .ok (.aload_n 0, 1) := by decide +kernel
theorem d_X4_pairFrom_139 : decode prog_6_method_7_code 139 = .ok (.getfield 27, 3) := by decide +kernel
theorem d_X4_pairFrom_142 : decode prog_6_method_7_code 142 = .ok (.iload_n 3, 1) := by decide +kernel
theorem d_X4_pairFrom_143 : decode prog_6_method_7_code 143 = .ok (.bipush (-3), 2) := by decide +kernel
theorem d_X4_pairFrom_145 : decode prog_6_method_7_code 145 = .ok (.iastore, 1) := by decide +kernel
theorem d_X4_pairFrom_146 : decode prog_6_method_7_code 146 = .ok (.iinc 3 1, 3) := by decide +kernel
theorem d_X4_pairFrom_149 : decode prog_6_method_7_code 149 = .ok (.goto (-78), 3) := by decide +kernel
theorem d_X4_pairFrom_152 : decode prog_6_method_7_code 152 = .ok (.aload_n 0, 1) := by decide +kernel
theorem d_X4_pairFrom_153 : decode prog_6_method_7_code 153 = .ok (.iload_n 1, 1) := by decide +kernel
theorem d_X4_pairFrom_154 : decode prog_6_method_7_code 154 = .ok (.iconst 1, 1) := by decide +kernel
theorem d_X4_pairFrom_155 : decode prog_6_method_7_code 155 = .ok (.iadd, 1) := by decide +kernel
theorem d_X4_pairFrom_156 : decode prog_6_method_7_code 156 = .ok (.iload_n 2, 1) := by decide +kernel
theorem d_X4_pairFrom_157 : decode prog_6_method_7_code 157 = .ok (.invokevirtual 107, 3) := by decide +kernel
theorem d_X4_pairFrom_160 : decode prog_6_method_7_code 160 = .ok (.return_, 1) := by decide +kernel
theorem d_X5_init_0 : decode prog_7_method_1_code 0 = .ok (.aload_n 0, 1) := by decide +kernel
theorem d_X5_init_1 : decode prog_7_method_1_code 1 = .ok (.invokespecial 3, 3) := by decide +kernel
theorem d_X5_init_4 : decode prog_7_method_1_code 4 = .ok (.aload_n 0, 1) := by decide +kernel
theorem d_X5_init_5 : decode prog_7_method_1_code 5 = .ok (.iconst 5, 1) := by decide +kernel
theorem d_X5_init_6 : decode prog_7_method_1_code 6 = .ok (.newarray .int, 2) := by decide +kernel
theorem d_X5_init_8 : decode prog_7_method_1_code 8 = .ok (.putfield 11, 3) := by decide +kernel
theorem d_X5_init_11 : decode prog_7_method_1_code 11 = .ok (.aload_n 0, 1) := by decide +kernel
theorem d_X5_init_12 : decode prog_7_method_1_code 12 = .ok (.bipush 9, 2) := by decide +kernel
theorem d_X5_init_14 : decode prog_7_method_1_code 14 = .ok (.newarray .int, 2) := by decide +kernel
theorem d_X5_init_16 : decode prog_7_method_1_code 16 = .ok (.putfield 17, 3) := by decide +kernel
theorem d_X5_init_19 : decode prog_7_method_1_code 19 = .ok (.aload_n 0, 1) := by decide +kernel
theorem d_X5_init_20 : decode prog_7_method_1_code 20 = .ok (.bipush 9, 2) := by decide +kernel
theorem d_X5_init_22 : decode prog_7_method_1_code 22 = .ok (.newarray .int, 2) := by decide +kernel
theorem d_X5_init_24 : decode prog_7_method_1_code 24 = .ok (.putfield 20, 3) := by decide +kernel
theorem d_X5_init_27 : decode prog_7_method_1_code 27 = .ok (.aload_n 0, 1) := by decide +kernel
theorem d_X5_init_28 : decode prog_7_method_1_code 28 = .ok (.bipush 6, 2) := by decide +kernel
theorem d_X5_init_30 : decode prog_7_method_1_code 30 = .ok (.newarray .int, 2) := by decide +kernel
theorem d_X5_init_32 : decode prog_7_method_1_code 32 = .ok (.putfield 23, 3) := by decide +kernel
theorem d_X5_init_35 : decode prog_7_method_1_code 35 = .ok (.aload_n 0, 1) := by decide +kernel
theorem d_X5_init_36 : decode prog_7_method_1_code 36 = .ok (.bipush 6, 2) := by decide +kernel
theorem d_X5_init_38 : decode prog_7_method_1_code 38 = .ok (.newarray .int, 2) := by decide +kernel
theorem d_X5_init_40 : decode prog_7_method_1_code 40 = .ok (.putfield 26, 3) := by decide +kernel
theorem d_X5_init_43 : decode prog_7_method_1_code 43 = .ok (.aload_n 0, 1) := by decide +kernel
theorem d_X5_init_44 : decode prog_7_method_1_code 44 = .ok (.bipush 6, 2) := by decide +kernel
theorem d_X5_init_46 : decode prog_7_method_1_code 46 = .ok (.newarray .int, 2) := by decide +kernel
theorem d_X5_init_48 : decode prog_7_method_1_code 48 = .ok (.putfield 29, 3) := by decide +kernel
theorem d_X5_init_51 : decode prog_7_method_1_code 51 = .ok (.aload_n 0, 1) := by decide +kernel
theorem d_X5_init_52 : decode prog_7_method_1_code 52 = .ok (.bipush 6, 2) := by decide +kernel
theorem d_X5_init_54 : decode prog_7_method_1_code 54 = .ok (.newarray .int, 2) := by decide +kernel
theorem d_X5_init_56 : decode prog_7_method_1_code 56 = .ok (.putfield 32, 3) := by decide +kernel
theorem d_X5_init_59 : decode prog_7_method_1_code 59 = .ok (.aload_n 0, 1) := by decide +kernel
theorem d_X5_init_60 : decode prog_7_method_1_code 60 = .ok (.getfield 29, 3) := by decide +kernel
theorem d_X5_init_63 : decode prog_7_method_1_code 63 = .ok (.iconst 0, 1) := by decide +kernel
theorem d_X5_init_64 : decode prog_7_method_1_code 64 = .ok (.iconst 1, 1) := by decide +kernel
theorem d_X5_init_65 : decode prog_7_method_1_code 65 = .ok (.iastore, 1) := by decide +kernel
theorem d_X5_init_66 : decode prog_7_method_1_code 66 = .ok (.return_, 1) := by decide +kernel
theorem d_X5_load_0 : decode prog_7_method_2_code 0 = .ok (.aload_n 0, 1) := by decide +kernel
theorem d_X5_load_1 : decode prog_7_method_2_code 1 = .ok (.aload_n 1, 1) := by decide +kernel
theorem d_X5_load_2 : decode prog_7_method_2_code 2 = .ok (.getfield 35, 3) := by decide +kernel
theorem d_X5_load_5 : decode prog_7_method_2_code 5 = .ok (.iconst 1, 1) := by decide +kernel
theorem d_X5_load_6 : decode prog_7_method_2_code 6 = .ok (.iaload, 1) := by decide +kernel
theorem d_X5_load_7 : decode prog_7_method_2_code 7 = .ok (.putfield 40, 3) := by decide +kernel
theorem d_X5_load_10 : decode prog_7_method_2_code 10 = .ok (.aload_n 0, 1) := by decide +kernel
theorem d_X5_load_11 : decode prog_7_method_2_code 11 = .ok (.aload_n 1, 1) := by decide +kernel
theorem d_X5_load_12 : decode prog_7_method_2_code 12 = .ok (.getfield 35, 3) := by decide +kernel
theorem d_X5_load_15 : decode prog_7_method_2_code 15 = .ok (.iconst 2, 1) := by decide +kernel
theorem d_X5_load_16 : decode prog_7_method_2_code 16 = .ok (.iaload, 1) := by decide +kernel
theorem d_X5_load_17 : decode prog_7_method_2_code 17 = .ok (.putfield 44, 3) := by decide +kernel
theorem d_X5_load_20 : decode prog_7_method_2_code 20 = .ok (.aload_n 0, 1) := by decide +kernel
theorem d_X5_load_21 : decode prog_7_method_2_code 21 = .ok (.aload_n 1, 1) := by decide +kernel
theorem d_X5_load_22 : decode prog_7_method_2_code 22 = .ok (.getfield 35, 3) := by decide +kernel
theorem d_X5_load_25 : decode prog_7_method_2_code 25 = .ok (.iconst 3, 1) := by decide +kernel
theorem d_X5_load_26 : decode prog_7_method_2_code 26 = .ok (.iaload, 1) := by decide +kernel
theorem d_X5_load_27 : decode prog_7_method_2_code 27 = .ok (.putfield 47, 3) := by decide +kernel
theorem d_X5_load_30 : decode prog_7_method_2_code 30 = .ok (.aload_n 1, 1) := by decide +kernel
theorem d_X5_load_31 : decode prog_7_method_2_code 31 = .ok (.getfield 35, 3) := by decide +kernel
theorem d_X5_load_34 : decode prog_7_method_2_code 34 = .ok (.iconst 0, 1) := by decide +kernel
theorem d_X5_load_35 : decode prog_7_method_2_code 35 = .ok (.aload_n 0, 1) := by decide +kernel
theorem d_X5_load_36 : decode prog_7_method_2_code 36 = .ok (.getfield 11, 3) := by decide +kernel
theorem d_X5_load_39 : decode prog_7_method_2_code 39 = .ok (.iconst 0, 1) := by decide +kernel
theorem d_X5_load_40 : decode prog_7_method_2_code 40 = .ok (.iconst 3, 1) := by decide +kernel
theorem d_X5_load_41 : decode prog_7_method_2_code 41 = .ok (.invokestatic 50, 3) := by decide +kernel
theorem d_X5_load_44 : decode prog_7_method_2_code 44 = .ok (.aload_n 1, 1) := by decide +kernel
theorem d_X5_load_45 : decode prog_7_method_2_code 45 = .ok (.getfield 56, 3) := by decide +kernel
theorem d_X5_load_48 : decode prog_7_method_2_code 48 = .ok (.iconst 0, 1) := by decide +kernel
theorem d_X5_load_49 : decode prog_7_method_2_code 49 = .ok (.aload_n 0, 1) := by decide +kernel
theorem d_X5_load_50 : decode prog_7_method_2_code 50 = .ok (.getfield 20, 3) := by decide +kernel
theorem d_X5_load_53 : decode prog_7_method_2_code 53 = .ok (.iconst 0, 1) := by decide +kernel
theorem d_X5_load_54 : decode prog_7_method_2_code 54 = .ok (.bipush 9, 2) := by decide +kernel
theorem d_X5_load_56 : decode prog_7_method_2_code 56 = .ok (.invokestatic 50, 3) := by decide +kernel
theorem d_X5_load_59 : decode prog_7_method_2_code 59 = .ok (.iconst 0, 1) := by decide +kernel
theorem d_X5_load_60 : decode prog_7_method_2_code 60 = .ok (.istore_n 2, 1) := by decide +kernel
theorem d_X5_load_61 : decode prog_7_method_2_code 61 = .ok (.iload_n 2, 1) := by decide +kernel
theorem d_X5_load_62 : decode prog_7_method_2_code 62 = .ok (.aload_n 1, 1) := by decide +kernel
theorem d_X5_load_63 : decode prog_7_method_2_code 63 = .ok (.getfield 57, 3) := by decide +kernel
theorem d_X5_load_66 : decode prog_7_method_2_code 66 = .ok (.if_icmp .ge 66, 3) := by decide +kernel
theorem d_X5_load_69 : decode prog_7_method_2_code 69 = .ok (.aload_n 0, 1) := by decide +kernel
theorem d_X5_load_70 : decode prog_7_method_2_code 70 = .ok (.getfield 11, 3) := by decide +kernel
theorem d_X5_load_73 : decode prog_7_method_2_code 73 = .ok (.iconst 3, 1) := by decide +kernel
theorem d_X5_load_74 : decode prog_7_method_2_code 74 = .ok (.aload_n 1, 1) := by decide +kernel
theorem d_X5_load_75 : decode prog_7_method_2_code 75 = .ok (.getfield 60, 3) := by decide +kernel
theorem d_X5_load_78 : decode prog_7_method_2_code 78 = .ok (.iload_n 2, 1) := by decide +kernel
theorem d_X5_load_79 : decode prog_7_method_2_code 79 = .ok (.iaload, 1) := by decide +kernel
theorem d_X5_load_80 : decode prog_7_method_2_code 80 = .ok (.iastore, 1) := by decide +kernel
theorem d_X5_load_81 : decode prog_7_method_2_code 81 = .ok (.aload_n 0, 1) := by decide +kernel
theorem d_X5_load_82 : decode prog_7_method_2_code 82 = .ok (.getfield 11, 3) := by decide +kernel
theorem d_X5_load_85 : decode prog_7_method_2_code 85 = .ok (.iconst 4, 1) := by decide +kernel
theorem d_X5_load_86 : decode prog_7_method_2_code 86 = .ok (.iload_n 2, 1) := by decide +kernel
theorem d_X5_load_87 : decode prog_7_method_2_code 87 = .ok (.iastore, 1) := by decide +kernel
theorem d_X5_load_88 : decode prog_7_method_2_code 88 = .ok (.aload_n 0, 1) := by decide +kernel
theorem d_X5_load_89 : decode prog_7_method_2_code 89 = .ok (.getfield 17, 3) := by decide +kernel
theorem d_X5_load_92 : decode prog_7_method_2_code 92 = .ok (.iload_n 2, 1) := by decide +kernel
theorem d_X5_load_93 : decode prog_7_method_2_code 93 = .ok (.aload_n 1, 1) := by decide +kernel
theorem d_X5_load_94 : decode prog_7_method_2_code 94 = .ok (.getfield 63, 3) := by decide +kernel
theorem d_X5_load_97 : decode prog_7_method_2_code 97 = .ok (.iload_n 2, 1) := by decide +kernel
theorem d_X5_load_98 : decode prog_7_method_2_code 98 = .ok (.iaload, 1) := by decide +kernel
theorem d_X5_load_99 : decode prog_7_method_2_code 99 = .ok (.aload_n 1, 1) := by decide +kernel
theorem d_X5_load_100 : decode prog_7_method_2_code 100 = .ok (.getfield 66, 3) := by decide +kernel
theorem d_X5_load_103 : decode prog_7_method_2_code 103 = .ok (.aload_n 1, 1) := by decide +kernel
theorem d_X5_load_104 : decode prog_7_method_2_code 104 = .ok (.getfield 63, 3) := by decide +kernel
theorem d_X5_load_107 : decode prog_7_method_2_code 107 = .ok (.iload_n 2, 1) := by decide +kernel
theorem d_X5_load_108 : decode prog_7_method_2_code 108 = .ok (.iaload, 1) := by decide +kernel
theorem d_X5_load_109 : decode prog_7_method_2_code 109 = .ok (.aload_n 0, 1) := by decide +kernel
theorem d_X5_load_110 : decode prog_7_method_2_code 110 = .ok (.getfield 11, 3) := by decide +kernel
theorem d_X5_load_113 : decode prog_7_method_2_code 113 = .ok (.invokevirtual 70, 3) := by decide +kernel
theorem d_X5_load_116 : decode prog_7_method_2_code 116 = .ok (.aload_n 1, 1) := by decide +kernel
theorem d_X5_load_117 : decode prog_7_method_2_code 117 = .ok (.getfield 35, 3) := by decide +kernel
theorem d_X5_load_120 : decode prog_7_method_2_code 120 = .ok (.iconst 0, 1) := by decide +kernel
theorem d_X5_load_121 : decode prog_7_method_2_code 121 = .ok (.iaload, 1) := by decide +kernel
theorem d_X5_load_122 : decode prog_7_method_2_code 122 = .ok (.invokestatic 74, 3) := by decide +kernel
theorem d_X5_load_125 : decode prog_7_method_2_code 125 = .ok (.iastore, 1) := by decide +kernel
theorem d_X5_load_126 : decode prog_7_method_2_code 126 = .ok (.iinc 2 1, 3) := by decide +kernel
theorem d_X5_load_129 : decode prog_7_method_2_code 129 = .ok (.goto (-68), 3) := by decide +kernel
theorem d_X5_load_132 : decode prog_7_method_2_code 132 = .ok (.return_, 1) := by decide +kernel
theorem d_X5_strengthOf_0 : decode prog_7_method_3_code 0 = .ok (.iload_n 0, 1) := by decide +kernel
theorem d_X5_strengthOf_1 : decode prog_7_method_3_code 1 = .ok (.tableswitch 61 1 4 #[31, 38, 45, 54], 31) := by decide +kernel
theorem d_X5_strengthOf_32 : decode prog_7_method_3_code 32 = .ok (.iload_n 1, 1) := by decide +kernel
theorem d_X5_strengthOf_33 : decode prog_7_method_3_code 33 = .ok (.iconst 2, 1) := by decide +kernel
theorem d_X5_strengthOf_34 : decode prog_7_method_3_code 34 = .ok (.idiv, 1) := by decide +kernel
theorem d_X5_strengthOf_35 : decode prog_7_method_3_code 35 = .ok (.istore_n 3, 1) := by decide +kernel
theorem d_X5_strengthOf_36 : decode prog_7_method_3_code 36 = .ok (.goto 31, 3) := by decide +kernel
theorem d_X5_strengthOf_39 : decode prog_7_method_3_code 39 = .ok (.iload_n 1, 1) := by decide +kernel
theorem d_X5_strengthOf_40 : decode prog_7_method_3_code 40 = .ok (.iload_n 2, 1) := by decide +kernel
theorem d_X5_strengthOf_41 : decode prog_7_method_3_code 41 = .ok (.iadd, 1) := by decide +kernel
theorem d_X5_strengthOf_42 : decode prog_7_method_3_code 42 = .ok (.istore_n 3, 1) := by decide +kernel
theorem d_X5_strengthOf_43 : decode prog_7_method_3_code 43 = .ok (.goto 24, 3) := by decide +kernel
theorem d_X5_strengthOf_46 : decode prog_7_method_3_code 46 = .ok (.iload_n 1, 1) := by decide +kernel
theorem d_X5_strengthOf_47 : decode prog_7_method_3_code 47 = .ok (.iload_n 2, 1) := by decide +kernel
theorem d_X5_strengthOf_48 : decode prog_7_method_3_code 48 = .ok (.iadd, 1) := by decide +kernel
theorem d_X5_strengthOf_49 : decode prog_7_method_3_code 49 = .ok (.iconst 1, 1) := by decide +kernel
theorem d_X5_strengthOf_50 : decode prog_7_method_3_code 50 = .ok (.isub, 1) := by decide +kernel
theorem d_X5_strengthOf_51 : decode prog_7_method_3_code 51 = .ok (.istore_n 3, 1) := by decide +kernel
theorem d_X5_strengthOf_52 : decode prog_7_method_3_code 52 = .ok (.goto 15, 3) := by decide +kernel
theorem d_X5_strengthOf_55 : decode prog_7_method_3_code 55 = .ok (.iconst 2, 1) := by decide +kernel
theorem d_X5_strengthOf_56 : decode prog_7_method_3_code 56 = .ok (.iload_n 1, 1) := by decide +kernel
theorem d_X5_strengthOf_57 : decode prog_7_method_3_code 57 = .ok (.imul, 1) := by decide +kernel
theorem d_X5_strengthOf_58 : decode prog_7_method_3_code 58 = .ok (.istore_n 3, 1) := by decide +kernel
theorem d_X5_strengthOf_59 : decode prog_7_method_3_code 59 = .ok (.goto 8, 3) := by decide +kernel
theorem d_X5_strengthOf_62 : decode prog_7_method_3_code 62 = .ok (.bipush (-2), 2) := by decide +kernel
theorem d_X5_strengthOf_64 : decode prog_7_method_3_code 64 = .ok (.iload_n 1, 1) := by decide +kernel
theorem d_X5_strengthOf_65 : decode prog_7_method_3_code 65 = .ok (.imul, 1) := by decide +kernel
theorem d_X5_strengthOf_66 : decode prog_7_method_3_code 66 = .ok (.istore_n 3, 1) := by decide +kernel
theorem d_X5_strengthOf_67 : decode prog_7_method_3_code 67 = .ok (.bipush (-9), 2) := by decide +kernel
theorem d_X5_strengthOf_69 : decode prog_7_method_3_code 69 = .ok (.bipush 9, 2) := by decide +kernel
theorem d_X5_strengthOf_71 : decode prog_7_method_3_code 71 = .ok (.iload_n 3, 1) := by decide +kernel
theorem d_X5_strengthOf_72 : decode prog_7_method_3_code 72 = .ok (.invokestatic 78, 3) := by decide +kernel
theorem d_X5_strengthOf_75 : decode prog_7_method_3_code 75 = .ok (.invokestatic 84, 3) := by decide +kernel
theorem d_X5_strengthOf_78 : decode prog_7_method_3_code 78 = .ok (.ireturn, 1) := by decide +kernel
theorem d_X5_through_0 : decode prog_7_method_4_code 0 = .ok (.aload_n 0, 1) := by decide +kernel
theorem d_X5_through_1 : decode prog_7_method_4_code 1 = .ok (.aload_n 1, 1) := by decide +kernel
theorem d_X5_through_2 : decode prog_7_method_4_code 2 = .ok (.bipush (-9), 2) := by decide +kernel
theorem d_X5_through_4 : decode prog_7_method_4_code 4 = .ok (.iconst 0, 1) := by decide +kernel
theorem d_X5_through_5 : decode prog_7_method_4_code 5 = .ok (.invokevirtual 87, 3) := by decide +kernel
theorem d_X5_through_8 : decode prog_7_method_4_code 8 = .ok (.return_, 1) := by decide +kernel
theorem d_X5_throughWith_0 : decode prog_7_method_5_code 0 = .ok (.iconst 0, 1) := by decide +kernel
theorem d_X5_throughWith_1 : decode prog_7_method_5_code 1 = .ok (.istore 4, 2) := by decide +kernel
theorem d_X5_throughWith_3 : decode prog_7_method_5_code 3 = .ok (.iload 4, 2) := by decide +kernel
theorem d_X5_throughWith_5 : decode prog_7_method_5_code 5 = .ok (.aload_n 1, 1) := by decide +kernel
theorem d_X5_throughWith_6 : decode prog_7_method_5_code 6 = .ok (.getfield 91, 3) := by decide +kernel
theorem d_X5_throughWith_9 : decode prog_7_method_5_code 9 = .ok (.if_icmp .ge 46, 3) := by decide +kernel
theorem d_X5_throughWith_12 : decode prog_7_method_5_code 12 = .ok (.iload 4, 2) := by decide +kernel
theorem d_X5_throughWith_14 : decode prog_7_method_5_code 14 = .ok (.iload_n 2, 1) := by decide +kernel
theorem d_X5_throughWith_15 : decode prog_7_method_5_code 15 = .ok (.if_icmp .ne 14, 3) := by decide +kernel
theorem d_X5_throughWith_18 : decode prog_7_method_5_code 18 = .ok (.aload_n 0, 1) := by decide +kernel
theorem d_X5_throughWith_19 : decode prog_7_method_5_code 19 = .ok (.iload 4, 2) := by decide +kernel
theorem d_X5_throughWith_21 : decode prog_7_method_5_code 21 = .ok (.iload_n 3, 1) := by decide +kernel
theorem d_X5_throughWith_22 : decode prog_7_method_5_code 22 = .ok (.iconst 0, 1) := by decide +kernel
theorem d_X5_throughWith_23 : decode prog_7_method_5_code 23 = .ok (.invokevirtual 94, 3) := by decide +kernel
theorem d_X5_throughWith_26 : decode prog_7_method_5_code 26 = .ok (.goto 23, 3) := by decide +kernel
theorem d_X5_throughWith_29 : decode prog_7_method_5_code 29 = .ok (.aload_n 0, 1) := by decide +kernel
theorem d_X5_throughWith_30 : decode prog_7_method_5_code 30 = .ok (.iload 4, 2) := by decide +kernel
theorem d_X5_throughWith_32 : decode prog_7_method_5_code 32 = .ok (.aload_n 1, 1) := by decide +kernel
theorem d_X5_throughWith_33 : decode prog_7_method_5_code 33 = .ok (.getfield 98, 3) := by decide +kernel
theorem d_X5_throughWith_36 : decode prog_7_method_5_code 36 = .ok (.iload 4, 2) := by decide +kernel
theorem d_X5_throughWith_38 : decode prog_7_method_5_code 38 = .ok (.iaload, 1) := by decide +kernel
theorem d_X5_throughWith_39 : decode prog_7_method_5_code 39 = .ok (.aload_n 1, 1) := by decide +kernel
theorem d_X5_throughWith_40 : decode prog_7_method_5_code 40 = .ok (.getfield 101, 3) := by decide +kernel
theorem d_X5_throughWith_43 : decode prog_7_method_5_code 43 = .ok (.iload 4, 2) := by decide +kernel
theorem d_X5_throughWith_45 : decode prog_7_method_5_code 45 = .ok (.iaload, 1) := by decide +kernel
theorem d_X5_throughWith_46 : decode prog_7_method_5_code 46 = .ok (.invokevirtual 104, 3) := by decide +kernel
theorem d_X5_throughWith_49 : decode prog_7_method_5_code 49 = .ok (.iinc 4 1, 3) := by decide +kernel
theorem d_X5_throughWith_52 : decode prog_7_method_5_code 52 = .ok (.goto (-49), 3) := by decide +kernel
theorem d_X5_throughWith_55 : decode prog_7_method_5_code 55 = .ok (.aload_n 0, 1) := by decide +kernel
theorem d_X5_throughWith_56 : decode prog_7_method_5_code 56 = .ok (.aload_n 1, 1) := by decide +kernel
theorem d_X5_throughWith_57 : decode prog_7_method_5_code 57 = .ok (.getfield 91, 3) := by decide +kernel
theorem d_X5_throughWith_60 : decode prog_7_method_5_code 60 = .ok (.invokevirtual 107, 3) := by decide +kernel
theorem d_X5_throughWith_63 : decode prog_7_method_5_code 63 = .ok (.return_, 1) := by decide +kernel
theorem d_X5_put_0 : decode prog_7_method_6_code 0 = .ok (.iconst 0, 1) := by decide +kernel
theorem d_X5_put_1 : decode prog_7_method_6_code 1 = .ok (.istore 4, 2) := by decide +kernel
theorem d_X5_put_3 : decode prog_7_method_6_code 3 = .ok (.iload_n 3, 1) := by decide +kernel
theorem d_X5_put_4 : decode prog_7_method_6_code 4 = .ok (.ifCond .ne 14, 3) := by decide +kernel
theorem d_X5_put_7 : decode prog_7_method_6_code 7 = .ok (.aload_n 0, 1) := by decide +kernel
theorem d_X5_put_8 : decode prog_7_method_6_code 8 = .ok (.getfield 20, 3) := by decide +kernel
theorem d_X5_put_11 : decode prog_7_method_6_code 11 = .ok (.iload_n 2, 1) := by decide +kernel
theorem d_X5_put_12 : decode prog_7_method_6_code 12 = .ok (.iaload, 1) := by decide +kernel
theorem d_X5_put_13 : decode prog_7_method_6_code 13 = .ok (.istore 4, 2) := by decide +kernel
theorem d_X5_put_15 : decode prog_7_method_6_code 15 = .ok (.goto 17, 3) := by decide +kernel
theorem d_X5_put_18 : decode prog_7_method_6_code 18 = .ok (.iload_n 3, 1) := by decide +kernel
theorem d_X5_put_19 : decode prog_7_method_6_code 19 = .ok (.iconst 2, 1) := by decide +kernel
theorem d_X5_put_20 : decode prog_7_method_6_code 20 = .ok (.if_icmp .ne 12, 3) := by decide +kernel
theorem d_X5_put_23 : decode prog_7_method_6_code 23 = .ok (.aload_n 0, 1) := by decide +kernel
theorem d_X5_put_24 : decode prog_7_method_6_code 24 = .ok (.getfield 20, 3) := by decide +kernel
theorem d_X5_put_27 : decode prog_7_method_6_code 27 = .ok (.iload_n 2, 1) := by decide +kernel
theorem d_X5_put_28 : decode prog_7_method_6_code 28 = .ok (.iaload, 1) := by decide +kernel
theorem d_X5_put_29 : decode prog_7_method_6_code 29 = .ok (.ineg, 1) := by decide +kernel
theorem d_X5_put_30 : decode prog_7_method_6_code 30 = .ok (.istore 4, 2) := by decide +kernel
theorem d_X5_put_32 : decode prog_7_method_6_code 32 = .ok (.aload_n 0, 1) := by decide +kernel
theorem d_X5_put_33 : decode prog_7_method_6_code 33 = .ok (.iload_n 1, 1) := by decide +kernel
theorem d_X5_put_34 : decode prog_7_method_6_code 34 = .ok (.aload_n 0, 1) := by decide +kernel
theorem d_X5_put_35 : decode prog_7_method_6_code 35 = .ok (.getfield 17, 3) := by decide +kernel
theorem d_X5_put_38 : decode prog_7_method_6_code 38 = .ok (.iload_n 2, 1) := by decide +kernel
theorem d_X5_put_39 : decode prog_7_method_6_code 39 = .ok (.iaload, 1) := by decide +kernel
theorem d_X5_put_40 : decode prog_7_method_6_code 40 = .ok (.iload 4, 2) := by decide +kernel
theorem d_X5_put_42 : decode prog_7_method_6_code 42 = .ok (.invokevirtual 94, 3) := by decide +kernel
theorem d_X5_put_45 : decode prog_7_method_6_code 45 = .ok (.return_, 1) := by decide +kernel
theorem d_X5_pass_0 : decode prog_7_method_7_code 0 = .ok (.aload_n 0, 1) := by decide +kernel
theorem d_X5_pass_1 : decode prog_7_method_7_code 1 = .ok (.getfield 26, 3) := by decide +kernel
theorem d_X5_pass_4 : decode prog_7_method_7_code 4 = .ok (.iload_n 1, 1) := by decide +kernel
theorem d_X5_pass_5 : decode prog_7_method_7_code 5 = .ok (.iconst 1, 1) := by decide +kernel
theorem d_X5_pass_6 : decode prog_7_method_7_code 6 = .ok (.iadd, 1) := by decide +kernel
theorem d_X5_pass_7 : decode prog_7_method_7_code 7 = .ok (.aload_n 0, 1) := by decide +kernel
theorem d_X5_pass_8 : decode prog_7_method_7_code 8 = .ok (.getfield 26, 3) := by decide +kernel
theorem d_X5_pass_11 : decode prog_7_method_7_code 11 = .ok (.iload_n 1, 1) := by decide +kernel
theorem d_X5_pass_12 : decode prog_7_method_7_code 12 = .ok (.iaload, 1) := by decide +kernel
theorem d_X5_pass_13 : decode prog_7_method_7_code 13 = .ok (.iload_n 3, 1) := by decide +kernel
theorem d_X5_pass_14 : decode prog_7_method_7_code 14 = .ok (.iadd, 1) := by decide +kernel
theorem d_X5_pass_15 : decode prog_7_method_7_code 15 = .ok (.iload_n 2, 1) := by decide +kernel
theorem d_X5_pass_16 : decode prog_7_method_7_code 16 = .ok (.aload_n 0, 1) := by decide +kernel
theorem d_X5_pass_17 : decode prog_7_method_7_code 17 = .ok (.getfield 23, 3) := by decide +kernel
theorem d_X5_pass_20 : decode prog_7_method_7_code 20 = .ok (.iload_n 1, 1) := by decide +kernel
theorem d_X5_pass_21 : decode prog_7_method_7_code 21 = .ok (.iaload, 1) := by decide +kernel
theorem d_X5_pass_22 : decode prog_7_method_7_code 22 = .ok (.imul, 1) := by decide +kernel
theorem d_X5_pass_23 : decode prog_7_method_7_code 23 = .ok (.isub, 1) := by decide +kernel
theorem d_X5_pass_24 : decode prog_7_method_7_code 24 = .ok (.iastore, 1) := by decide +kernel
theorem d_X5_pass_25 : decode prog_7_method_7_code 25 = .ok (.aload_n 0, 1) := by decide +kernel
theorem d_X5_pass_26 : decode prog_7_method_7_code 26 = .ok (.getfield 23, 3) := by decide +kernel
theorem d_X5_pass_29 : decode prog_7_method_7_code 29 = .ok (.iload_n 1, 1) := by decide +kernel
theorem d_X5_pass_30 : decode prog_7_method_7_code 30 = .ok (.iconst 1, 1) := by decide +kernel
theorem d_X5_pass_31 : decode prog_7_method_7_code 31 = .ok (.iadd, 1) := by decide +kernel
theorem d_X5_pass_32 : decode prog_7_method_7_code 32 = .ok (.aload_n 0, 1) := by decide +kernel
theorem d_X5_pass_33 : decode prog_7_method_7_code 33 = .ok (.getfield 23, 3) := by decide +kernel
theorem d_X5_pass_36 : decode prog_7_method_7_code 36 = .ok (.iload_n 1, 1) := by decide +kernel
theorem d_X5_pass_37 : decode prog_7_method_7_code 37 = .ok (.iaload, 1) := by decide +kernel
theorem d_X5_pass_38 : decode prog_7_method_7_code 38 = .ok (.aload_n 0, 1) := by decide +kernel
theorem d_X5_pass_39 : decode prog_7_method_7_code 39 = .ok (.getfield 40, 3) := by decide +kernel
theorem d_X5_pass_42 : decode prog_7_method_7_code 42 = .ok (.aload_n 0, 1) := by decide +kernel
theorem d_X5_pass_43 : decode prog_7_method_7_code 43 = .ok (.getfield 26, 3) := by decide +kernel
theorem d_X5_pass_46 : decode prog_7_method_7_code 46 = .ok (.iload_n 1, 1) := by decide +kernel
theorem d_X5_pass_47 : decode prog_7_method_7_code 47 = .ok (.iconst 1, 1) := by decide +kernel
theorem d_X5_pass_48 : decode prog_7_method_7_code 48 = .ok (.iadd, 1) := by decide +kernel
theorem d_X5_pass_49 : decode prog_7_method_7_code 49 = .ok (.iaload, 1) := by decide +kernel
theorem d_X5_pass_50 : decode prog_7_method_7_code 50 = .ok (.imul, 1) := by decide +kernel
theorem d_X5_pass_51 : decode prog_7_method_7_code 51 = .ok (.iadd, 1) := by decide +kernel
theorem d_X5_pass_52 : decode prog_7_method_7_code 52 = .ok (.iastore, 1) := by decide +kernel
theorem d_X5_pass_53 : decode prog_7_method_7_code 53 = .ok (.aload_n 0, 1) := by decide +kernel
theorem d_X5_pass_54 : decode prog_7_method_7_code 54 = .ok (.getfield 32, 3) := by decide +kernel
theorem d_X5_pass_57 : decode prog_7_method_7_code 57 = .ok (.iload_n 1, 1) := by decide +kernel
theorem d_X5_pass_58 : decode prog_7_method_7_code 58 = .ok (.iconst 1, 1) := by decide +kernel
theorem d_X5_pass_59 : decode prog_7_method_7_code 59 = .ok (.iadd, 1) := by decide +kernel
theorem d_X5_pass_60 : decode prog_7_method_7_code 60 = .ok (.aload_n 0, 1) := by decide +kernel
theorem d_X5_pass_61 : decode prog_7_method_7_code 61 = .ok (.getfield 32, 3) := by decide +kernel
theorem d_X5_pass_64 : decode prog_7_method_7_code 64 = .ok (.iload_n 1, 1) := by decide +kernel
theorem d_X5_pass_65 : decode prog_7_method_7_code 65 = .ok (.iaload, 1) := by decide +kernel
theorem d_X5_pass_66 : decode prog_7_method_7_code 66 = .ok (.iload_n 2, 1) := by decide +kernel
theorem d_X5_pass_67 : decode prog_7_method_7_code 67 = .ok (.aload_n 0, 1) := by decide +kernel
theorem d_X5_pass_68 : decode prog_7_method_7_code 68 = .ok (.getfield 29, 3) := by decide +kernel
theorem d_X5_pass_71 : decode prog_7_method_7_code 71 = .ok (.iload_n 1, 1) := by decide +kernel
theorem d_X5_pass_72 : decode prog_7_method_7_code 72 = .ok (.iaload, 1) := by decide +kernel
theorem d_X5_pass_73 : decode prog_7_method_7_code 73 = .ok (.imul, 1) := by decide +kernel
theorem d_X5_pass_74 : decode prog_7_method_7_code 74 = .ok (.isub, 1) := by decide +kernel
theorem d_X5_pass_75 : decode prog_7_method_7_code 75 = .ok (.iastore, 1) := by decide +kernel
theorem d_X5_pass_76 : decode prog_7_method_7_code 76 = .ok (.aload_n 0, 1) := by decide +kernel
theorem d_X5_pass_77 : decode prog_7_method_7_code 77 = .ok (.getfield 29, 3) := by decide +kernel
theorem d_X5_pass_80 : decode prog_7_method_7_code 80 = .ok (.iload_n 1, 1) := by decide +kernel
theorem d_X5_pass_81 : decode prog_7_method_7_code 81 = .ok (.iconst 1, 1) := by decide +kernel
theorem d_X5_pass_82 : decode prog_7_method_7_code 82 = .ok (.iadd, 1) := by decide +kernel
theorem d_X5_pass_83 : decode prog_7_method_7_code 83 = .ok (.aload_n 0, 1) := by decide +kernel
theorem d_X5_pass_84 : decode prog_7_method_7_code 84 = .ok (.getfield 29, 3) := by decide +kernel
theorem d_X5_pass_87 : decode prog_7_method_7_code 87 = .ok (.iload_n 1, 1) := by decide +kernel
theorem d_X5_pass_88 : decode prog_7_method_7_code 88 = .ok (.iaload, 1) := by decide +kernel
theorem d_X5_pass_89 : decode prog_7_method_7_code 89 = .ok (.aload_n 0, 1) := by decide +kernel
theorem d_X5_pass_90 : decode prog_7_method_7_code 90 = .ok (.getfield 40, 3) := by decide +kernel
theorem d_X5_pass_93 : decode prog_7_method_7_code 93 = .ok (.aload_n 0, 1) := by decide +kernel
theorem d_X5_pass_94 : decode prog_7_method_7_code 94 = .ok (.getfield 32, 3) := by decide +kernel
theorem d_X5_pass_97 : decode prog_7_method_7_code 97 = .ok (.iload_n 1, 1) := by decide +kernel
theorem d_X5_pass_98 : decode prog_7_method_7_code 98 = .ok (.iconst 1, 1) := by decide +kernel
theorem d_X5_pass_99 : decode prog_7_method_7_code 99 = .ok (.iadd, 1) := by decide +kernel
theorem d_X5_pass_100 : decode prog_7_method_7_code 100 = .ok (.iaload, 1) := by decide +kernel
theorem d_X5_pass_101 : decode prog_7_method_7_code 101 = .ok (.imul, 1) := by decide +kernel
theorem d_X5_pass_102 : decode prog_7_method_7_code 102 = .ok (.iadd, 1) := by decide +kernel
theorem d_X5_pass_103 : decode prog_7_method_7_code 103 = .ok (.iastore, 1) := by decide +kernel
theorem d_X5_pass_104 : decode prog_7_method_7_code 104 = .ok (.return_, 1) := by decide +kernel
theorem d_X5_see_0 : decode prog_7_method_8_code 0 = .ok (.aload_n 0, 1) := by decide +kernel
theorem d_X5_see_1 : decode prog_7_method_8_code 1 = .ok (.iload_n 1, 1) := by decide +kernel
theorem d_X5_see_2 : decode prog_7_method_8_code 2 = .ok (.aload_n 0, 1) := by decide +kernel
theorem d_X5_see_3 : decode prog_7_method_8_code 3 = .ok (.getfield 44, 3) := by decide +kernel
theorem d_X5_see_6 : decode prog_7_method_8_code 6 = .ok (.iconst 0, 1) := by decide +kernel
theorem d_X5_see_7 : decode prog_7_method_8_code 7 = .ok (.invokevirtual 94, 3) := by decide +kernel
theorem d_X5_see_10 : decode prog_7_method_8_code 10 = .ok (.aload_n 0, 1) := by decide +kernel
theorem d_X5_see_11 : decode prog_7_method_8_code 11 = .ok (.iload_n 1, 1) := by decide +kernel
theorem d_X5_see_12 : decode prog_7_method_8_code 12 = .ok (.iconst 1, 1) := by decide +kernel
theorem d_X5_see_13 : decode prog_7_method_8_code 13 = .ok (.iadd, 1) := by decide +kernel
theorem d_X5_see_14 : decode prog_7_method_8_code 14 = .ok (.putfield 111, 3) := by decide +kernel
theorem d_X5_see_17 : decode prog_7_method_8_code 17 = .ok (.return_, 1) := by decide +kernel
theorem d_X5_heightAt_0 : decode prog_7_method_9_code 0 = .ok (.aload_n 0, 1) := by decide +kernel
theorem d_X5_heightAt_1 : decode prog_7_method_9_code 1 = .ok (.getfield 23, 3) := by decide +kernel
theorem d_X5_heightAt_4 : decode prog_7_method_9_code 4 = .ok (.iload_n 1, 1) := by decide +kernel
theorem d_X5_heightAt_5 : decode prog_7_method_9_code 5 = .ok (.iaload, 1) := by decide +kernel
theorem d_X5_heightAt_6 : decode prog_7_method_9_code 6 = .ok (.iload_n 2, 1) := by decide +kernel
theorem d_X5_heightAt_7 : decode prog_7_method_9_code 7 = .ok (.aload_n 0, 1) := by decide +kernel
theorem d_X5_heightAt_8 : decode prog_7_method_9_code 8 = .ok (.getfield 29, 3) := by decide +kernel
theorem d_X5_heightAt_11 : decode prog_7_method_9_code 11 = .ok (.iload_n 1, 1) := by decide +kernel
theorem d_X5_heightAt_12 : decode prog_7_method_9_code 12 = .ok (.iaload, 1) := by decide +kernel
theorem d_X5_heightAt_13 : decode prog_7_method_9_code 13 = .ok (.imul, 1) := by decide +kernel
theorem d_X5_heightAt_14 : decode prog_7_method_9_code 14 = .ok (.iadd, 1) := by decide +kernel
theorem d_X5_heightAt_15 : decode prog_7_method_9_code 15 = .ok (.ireturn, 1) := by decide +kernel
theorem d_X5_slopeAt_0 : decode prog_7_method_10_code 0 = .ok (.aload_n 0, 1) := by decide +kernel
theorem d_X5_slopeAt_1 : decode prog_7_method_10_code 1 = .ok (.getfield 26, 3) := by decide +kernel
theorem d_X5_slopeAt_4 : decode prog_7_method_10_code 4 = .ok (.iload_n 1, 1) := by decide +kernel
theorem d_X5_slopeAt_5 : decode prog_7_method_10_code 5 = .ok (.iaload, 1) := by decide +kernel
theorem d_X5_slopeAt_6 : decode prog_7_method_10_code 6 = .ok (.iload_n 2, 1) := by decide +kernel
theorem d_X5_slopeAt_7 : decode prog_7_method_10_code 7 = .ok (.aload_n 0, 1) := by decide +kernel
theorem d_X5_slopeAt_8 : decode prog_7_method_10_code 8 = .ok (.getfield 32, 3) := by decide +kernel
theorem d_X5_slopeAt_11 : decode prog_7_method_10_code 11 = .ok (.iload_n 1, 1) := by decide +kernel
theorem d_X5_slopeAt_12 : decode prog_7_method_10_code 12 = .ok (.iaload, 1) := by decide +kernel
theorem d_X5_slopeAt_13 : decode prog_7_method_10_code 13 = .ok (.imul, 1) := by decide +kernel
theorem d_X5_slopeAt_14 : decode prog_7_method_10_code 14 = .ok (.iadd, 1) := by decide +kernel
theorem d_X5_slopeAt_15 : decode prog_7_method_10_code 15 = .ok (.ireturn, 1) := by decide +kernel
theorem d_X5_seenOf_0 : decode prog_7_method_11_code 0 = .ok (.aload_n 0, 1) := by decide +kernel
theorem d_X5_seenOf_1 : decode prog_7_method_11_code 1 = .ok (.aload_n 0, 1) := by decide +kernel
theorem d_X5_seenOf_2 : decode prog_7_method_11_code 2 = .ok (.getfield 111, 3) := by decide +kernel
theorem d_X5_seenOf_5 : decode prog_7_method_11_code 5 = .ok (.iload_n 1, 1) := by decide +kernel
theorem d_X5_seenOf_6 : decode prog_7_method_11_code 6 = .ok (.invokevirtual 114, 3) := by decide +kernel
theorem d_X5_seenOf_9 : decode prog_7_method_11_code 9 = .ok (.ireturn, 1) := by decide +kernel
theorem d_X5_shiftSeen_0 : decode prog_7_method_12_code 0 = .ok (.aload_n 0, 1) := by decide +kernel
theorem d_X5_shiftSeen_1 : decode prog_7_method_12_code 1 = .ok (.getfield 23, 3) := by decide +kernel
theorem d_X5_shiftSeen_4 : decode prog_7_method_12_code 4 = .ok (.aload_n 0, 1) := by decide +kernel
theorem d_X5_shiftSeen_5 : decode prog_7_method_12_code 5 = .ok (.getfield 111, 3) := by decide +kernel
theorem d_X5_shiftSeen_8 : decode prog_7_method_12_code 8 = .ok (.iaload, 1) := by decide +kernel
theorem d_X5_shiftSeen_9 : decode prog_7_method_12_code 9 = .ok (.invokestatic 117, 3) := by decide +kernel
theorem d_X5_shiftSeen_12 : decode prog_7_method_12_code 12 = .ok (.ireturn, 1) := by decide +kernel
theorem d_X5_blurSeen_0 : decode prog_7_method_13_code 0 = .ok (.aload_n 0, 1) := by decide +kernel
theorem d_X5_blurSeen_1 : decode prog_7_method_13_code 1 = .ok (.getfield 29, 3) := by decide +kernel
theorem d_X5_blurSeen_4 : decode prog_7_method_13_code 4 = .ok (.aload_n 0, 1) := by decide +kernel
theorem d_X5_blurSeen_5 : decode prog_7_method_13_code 5 = .ok (.getfield 111, 3) := by decide +kernel
theorem d_X5_blurSeen_8 : decode prog_7_method_13_code 8 = .ok (.iaload, 1) := by decide +kernel
theorem d_X5_blurSeen_9 : decode prog_7_method_13_code 9 = .ok (.invokestatic 117, 3) := by decide +kernel
theorem d_X5_blurSeen_12 : decode prog_7_method_13_code 12 = .ok (.ireturn, 1) := by decide +kernel
theorem d_X5_wrongSeen_0 : decode prog_7_method_14_code 0 = .ok (.aload_n 0, 1) := by decide +kernel
theorem d_X5_wrongSeen_1 : decode prog_7_method_14_code 1 = .ok (.invokevirtual 121, 3) := by decide +kernel
theorem d_X5_wrongSeen_4 : decode prog_7_method_14_code 4 = .ok (.aload_n 0, 1) := by decide +kernel
theorem d_X5_wrongSeen_5 : decode prog_7_method_14_code 5 = .ok (.invokevirtual 125, 3) := by decide +kernel
theorem d_X5_wrongSeen_8 : decode prog_7_method_14_code 8 = .ok (.iadd, 1) := by decide +kernel
theorem d_X5_wrongSeen_9 : decode prog_7_method_14_code 9 = .ok (.ireturn, 1) := by decide +kernel
theorem d_X5_isMended_0 : decode prog_7_method_15_code 0 = .ok (.aload_n 0, 1) := by decide +kernel
theorem d_X5_isMended_1 : decode prog_7_method_15_code 1 = .ok (.invokevirtual 128, 3) := by decide +kernel
theorem d_X5_isMended_4 : decode prog_7_method_15_code 4 = .ok (.aload_n 0, 1) := by decide +kernel
theorem d_X5_isMended_5 : decode prog_7_method_15_code 5 = .ok (.getfield 47, 3) := by decide +kernel
theorem d_X5_isMended_8 : decode prog_7_method_15_code 8 = .ok (.if_icmp .gt 7, 3) := by decide +kernel
theorem d_X5_isMended_11 : decode prog_7_method_15_code 11 = .ok (.iconst 1, 1) := by decide +kernel
theorem d_X5_isMended_12 : decode prog_7_method_15_code 12 = .ok (.goto 4, 3) := by decide +kernel
theorem d_X5_isMended_15 : decode prog_7_method_15_code 15 = .ok (.iconst 0, 1) := by decide +kernel
theorem d_X5_isMended_16 : decode prog_7_method_15_code 16 = .ok (.ireturn, 1) := by decide +kernel
theorem d_X6_init_0 : decode prog_8_method_1_code 0 = .ok (.aload_n 0, 1) := by decide +kernel
theorem d_X6_init_1 : decode prog_8_method_1_code 1 = .ok (.invokespecial 1, 3) := by decide +kernel
theorem d_X6_init_4 : decode prog_8_method_1_code 4 = .ok (.aload_n 0, 1) := by decide +kernel
theorem d_X6_init_5 : decode prog_8_method_1_code 5 = .ok (.iload_n 1, 1) := by decide +kernel
theorem d_X6_init_6 : decode prog_8_method_1_code 6 = .ok (.putfield 7, 3) := by decide +kernel
theorem d_X6_init_9 : decode prog_8_method_1_code 9 = .ok (.aload_n 0, 1) := by decide +kernel
theorem d_X6_init_10 : decode prog_8_method_1_code 10 = .ok (.aload_n 2, 1) := by decide +kernel
theorem d_X6_init_11 : decode prog_8_method_1_code 11 = .ok (.putfield 13, 3) := by decide +kernel
theorem d_X6_init_14 : decode prog_8_method_1_code 14 = .ok (.return_, 1) := by decide +kernel
theorem d_X6_comparison_0 : decode prog_8_method_2_code 0 = .ok (.iload_n 0, 1) := by decide +kernel
theorem d_X6_comparison_1 : decode prog_8_method_2_code 1 = .ok (.bipush 16, 2) := by decide +kernel
theorem d_X6_comparison_3 : decode prog_8_method_2_code 3 = .ok (.ishl, 1) := by decide +kernel
theorem d_X6_comparison_4 : decode prog_8_method_2_code 4 = .ok (.iload_n 2, 1) := by decide +kernel
theorem d_X6_comparison_5 : decode prog_8_method_2_code 5 = .ok (.iconst 2, 1) := by decide +kernel
theorem d_X6_comparison_6 : decode prog_8_method_2_code 6 = .ok (.ishl, 1) := by decide +kernel
theorem d_X6_comparison_7 : decode prog_8_method_2_code 7 = .ok (.ior, 1) := by decide +kernel
theorem d_X6_comparison_8 : decode prog_8_method_2_code 8 = .ok (.iload_n 1, 1) := by decide +kernel
theorem d_X6_comparison_9 : decode prog_8_method_2_code 9 = .ok (.ior, 1) := by decide +kernel
theorem d_X6_comparison_10 : decode prog_8_method_2_code 10 = .ok (.ireturn, 1) := by decide +kernel
theorem d_X6_bent_0 : decode prog_8_method_3_code 0 = .ok (.aload_n 2, 1) := by decide +kernel
theorem d_X6_bent_1 : decode prog_8_method_3_code 1 = .ok (.iconst 3, 1) := by decide +kernel
theorem d_X6_bent_2 : decode prog_8_method_3_code 2 = .ok (.iaload, 1) := by decide +kernel
theorem d_X6_bent_3 : decode prog_8_method_3_code 3 = .ok (.istore_n 3, 1) := by decide +kernel
theorem d_X6_bent_4 : decode prog_8_method_3_code 4 = .ok (.iconst 0, 1) := by decide +kernel
theorem d_X6_bent_5 : decode prog_8_method_3_code 5 = .ok (.istore 4, 2) := by decide +kernel
theorem d_X6_bent_7 : decode prog_8_method_3_code 7 = .ok (.iconst 0, 1) := by decide +kernel
theorem d_X6_bent_8 : decode prog_8_method_3_code 8 = .ok (.istore 5, 2) := by decide +kernel
theorem d_X6_bent_10 : decode prog_8_method_3_code 10 = .ok (.iload 5, 2) := by decide +kernel
theorem d_X6_bent_12 : decode prog_8_method_3_code 12 = .ok (.aload_n 0, 1) := by decide +kernel
theorem d_X6_bent_13 : decode prog_8_method_3_code 13 = .ok (.getfield 7, 3) := by decide +kernel
theorem d_X6_bent_16 : decode prog_8_method_3_code 16 = .ok (.if_icmp .ge 80, 3) := by decide +kernel
theorem d_X6_bent_19 : decode prog_8_method_3_code 19 = .ok (.iload 4, 2) := by decide +kernel
theorem d_X6_bent_21 : decode prog_8_method_3_code 21 = .ok (.iconst 4, 1) := by decide +kernel
theorem d_X6_bent_22 : decode prog_8_method_3_code 22 = .ok (.iadd, 1) := by decide +kernel
theorem d_X6_bent_23 : decode prog_8_method_3_code 23 = .ok (.aload_n 0, 1) := by decide +kernel
theorem d_X6_bent_24 : decode prog_8_method_3_code 24 = .ok (.getfield 13, 3) := by decide +kernel
theorem d_X6_bent_27 : decode prog_8_method_3_code 27 = .ok (.iload 4, 2) := by decide +kernel
theorem d_X6_bent_29 : decode prog_8_method_3_code 29 = .ok (.iconst 3, 1) := by decide +kernel
theorem d_X6_bent_30 : decode prog_8_method_3_code 30 = .ok (.iadd, 1) := by decide +kernel
theorem d_X6_bent_31 : decode prog_8_method_3_code 31 = .ok (.iaload, 1) := by decide +kernel
theorem d_X6_bent_32 : decode prog_8_method_3_code 32 = .ok (.iadd, 1) := by decide +kernel
theorem d_X6_bent_33 : decode prog_8_method_3_code 33 = .ok (.istore 6, 2) := by decide +kernel
theorem d_X6_bent_35 : decode prog_8_method_3_code 35 = .ok (.iload_n 1, 1) := by decide +kernel
theorem d_X6_bent_36 : decode prog_8_method_3_code 36 = .ok (.aload_n 0, 1) := by decide +kernel
theorem d_X6_bent_37 : decode prog_8_method_3_code 37 = .ok (.getfield 13, 3) := by decide +kernel
theorem d_X6_bent_40 : decode prog_8_method_3_code 40 = .ok (.iload 4, 2) := by decide +kernel
theorem d_X6_bent_42 : decode prog_8_method_3_code 42 = .ok (.iaload, 1) := by decide +kernel
theorem d_X6_bent_43 : decode prog_8_method_3_code 43 = .ok (.invokestatic 17, 3) := by decide +kernel
theorem d_X6_bent_46 : decode prog_8_method_3_code 46 = .ok (.ifCond .eq 40, 3) := by decide +kernel
theorem d_X6_bent_49 : decode prog_8_method_3_code 49 = .ok (.aload_n 0, 1) := by decide +kernel
theorem d_X6_bent_50 : decode prog_8_method_3_code 50 = .ok (.iload 4, 2) := by decide +kernel
theorem d_X6_bent_52 : decode prog_8_method_3_code 52 = .ok (.iconst 4, 1) := by decide +kernel
theorem d_X6_bent_53 : decode prog_8_method_3_code 53 = .ok (.iadd, 1) := by decide +kernel
theorem d_X6_bent_54 : decode prog_8_method_3_code 54 = .ok (.iload 6, 2) := by decide +kernel
theorem d_X6_bent_56 : decode prog_8_method_3_code 56 = .ok (.aload_n 2, 1) := by decide +kernel
theorem d_X6_bent_57 : decode prog_8_method_3_code 57 = .ok (.invokevirtual 23, 3) := by decide +kernel
theorem d_X6_bent_60 : decode prog_8_method_3_code 60 = .ok (.ifCond .eq 26, 3) := by decide +kernel
theorem d_X6_bent_63 : decode prog_8_method_3_code 63 = .ok (.iload_n 3, 1) := by decide +kernel
theorem d_X6_bent_64 : decode prog_8_method_3_code 64 = .ok (.aload_n 0, 1) := by decide +kernel
theorem d_X6_bent_65 : decode prog_8_method_3_code 65 = .ok (.getfield 13, 3) := by decide +kernel
theorem d_X6_bent_68 : decode prog_8_method_3_code 68 = .ok (.iload 4, 2) := by decide +kernel
theorem d_X6_bent_70 : decode prog_8_method_3_code 70 = .ok (.iconst 1, 1) := by decide +kernel
theorem d_X6_bent_71 : decode prog_8_method_3_code 71 = .ok (.iadd, 1) := by decide +kernel
theorem d_X6_bent_72 : decode prog_8_method_3_code 72 = .ok (.iaload, 1) := by decide +kernel
theorem d_X6_bent_73 : decode prog_8_method_3_code 73 = .ok (.aload_n 0, 1) := by decide +kernel
theorem d_X6_bent_74 : decode prog_8_method_3_code 74 = .ok (.getfield 13, 3) := by decide +kernel
theorem d_X6_bent_77 : decode prog_8_method_3_code 77 = .ok (.iload 4, 2) := by decide +kernel
theorem d_X6_bent_79 : decode prog_8_method_3_code 79 = .ok (.iconst 2, 1) := by decide +kernel
theorem d_X6_bent_80 : decode prog_8_method_3_code 80 = .ok (.iadd, 1) := by decide +kernel
theorem d_X6_bent_81 : decode prog_8_method_3_code 81 = .ok (.iaload, 1) := by decide +kernel
theorem d_X6_bent_82 : decode prog_8_method_3_code 82 = .ok (.invokestatic 27, 3) := by decide +kernel
theorem d_X6_bent_85 : decode prog_8_method_3_code 85 = .ok (.ireturn, 1) := by decide +kernel
theorem d_X6_bent_86 : decode prog_8_method_3_code 86 = .ok (.iload 6, 2) := by decide +kernel
theorem d_X6_bent_88 : decode prog_8_method_3_code 88 = .ok (.istore 4, 2) := by decide +kernel
theorem d_X6_bent_90 : decode prog_8_method_3_code 90 = .ok (.iinc 5 1, 3) := by decide +kernel
theorem d_X6_bent_93 : decode prog_8_method_3_code 93 = .ok (.goto (-83), 3) := by decide +kernel
theorem d_X6_bent_96 : decode prog_8_method_3_code 96 = .ok (.iload_n 3, 1) := by decide +kernel
theorem d_X6_bent_97 : decode prog_8_method_3_code 97 = .ok (.ireturn, 1) := by decide +kernel
theorem d_X6_changed_0 : decode prog_8_method_4_code 0 = .ok (.iload_n 1, 1) := by decide +kernel
theorem d_X6_changed_1 : decode prog_8_method_4_code 1 = .ok (.lookupswitch 35 #[(0, 27), (1, 31)], 27) := by decide +kernel
theorem d_X6_changed_28 : decode prog_8_method_4_code 28 = .ok (.iload_n 0, 1) := by decide +kernel
theorem d_X6_changed_29 : decode prog_8_method_4_code 29 = .ok (.iload_n 2, 1) := by decide +kernel
theorem d_X6_changed_30 : decode prog_8_method_4_code 30 = .ok (.iadd, 1) := by decide +kernel
theorem d_X6_changed_31 : decode prog_8_method_4_code 31 = .ok (.ireturn, 1) := by decide +kernel
theorem d_X6_changed_32 : decode prog_8_method_4_code 32 = .ok (.iload_n 0, 1) := by decide +kernel
theorem d_X6_changed_33 : decode prog_8_method_4_code 33 = .ok (.iload_n 2, 1) := by decide +kernel
theorem d_X6_changed_34 : decode prog_8_method_4_code 34 = .ok (.isub, 1) := by decide +kernel
theorem d_X6_changed_35 : decode prog_8_method_4_code 35 = .ok (.ireturn, 1) := by decide +kernel
theorem d_X6_changed_36 : decode prog_8_method_4_code 36 = .ok (.iconst 0, 1) := by decide +kernel
theorem d_X6_changed_37 : decode prog_8_method_4_code 37 = .ok (.ireturn, 1) := by decide +kernel
theorem d_X6_holds_0 : decode prog_8_method_5_code 0 = .ok (.iconst 1, 1) := by decide +kernel
theorem d_X6_holds_1 : decode prog_8_method_5_code 1 = .ok (.istore 4, 2) := by decide +kernel
theorem d_X6_holds_3 : decode prog_8_method_5_code 3 = .ok (.iload_n 1, 1) := by decide +kernel
theorem d_X6_holds_4 : decode prog_8_method_5_code 4 = .ok (.istore 5, 2) := by decide +kernel
theorem d_X6_holds_6 : decode prog_8_method_5_code 6 = .ok (.iload 5, 2) := by decide +kernel
theorem d_X6_holds_8 : decode prog_8_method_5_code 8 = .ok (.iload_n 2, 1) := by decide +kernel
theorem d_X6_holds_9 : decode prog_8_method_5_code 9 = .ok (.if_icmp .ge 121, 3) := by decide +kernel
theorem d_X6_holds_12 : decode prog_8_method_5_code 12 = .ok (.iload 4, 2) := by decide +kernel
theorem d_X6_holds_14 : decode prog_8_method_5_code 14 = .ok (.iconst 1, 1) := by decide +kernel
theorem d_X6_holds_15 : decode prog_8_method_5_code 15 = .ok (.iand, 1) := by decide +kernel
theorem d_X6_holds_16 : decode prog_8_method_5_code 16 = .ok (.istore 6, 2) := by decide +kernel
theorem d_X6_holds_18 : decode prog_8_method_5_code 18 = .ok (.aload_n 0, 1) := by decide +kernel
theorem d_X6_holds_19 : decode prog_8_method_5_code 19 = .ok (.getfield 13, 3) := by decide +kernel
theorem d_X6_holds_22 : decode prog_8_method_5_code 22 = .ok (.iload 5, 2) := by decide +kernel
theorem d_X6_holds_24 : decode prog_8_method_5_code 24 = .ok (.iaload, 1) := by decide +kernel
theorem d_X6_holds_25 : decode prog_8_method_5_code 25 = .ok (.tableswitch 73 (-3) (-1) #[61, 36, 27], 27) := by decide +kernel
theorem d_X6_holds_52 : decode prog_8_method_5_code 52 = .ok (.iload 4, 2) := by decide +kernel
theorem d_X6_holds_54 : decode prog_8_method_5_code 54 = .ok (.iconst 1, 1) := by decide +kernel
theorem d_X6_holds_55 : decode prog_8_method_5_code 55 = .ok (.ixor, 1) := by decide +kernel
theorem d_X6_holds_56 : decode prog_8_method_5_code 56 = .ok (.istore 4, 2) := by decide +kernel
theorem d_X6_holds_58 : decode prog_8_method_5_code 58 = .ok (.goto 66, 3) := by decide +kernel
theorem d_X6_holds_61 : decode prog_8_method_5_code 61 = .ok (.iload 6, 2) := by decide +kernel
theorem d_X6_holds_63 : decode prog_8_method_5_code 63 = .ok (.iconst 1, 1) := by decide +kernel
theorem d_X6_holds_64 : decode prog_8_method_5_code 64 = .ok (.if_icmp .ne 10, 3) := by decide +kernel
theorem d_X6_holds_67 : decode prog_8_method_5_code 67 = .ok (.iload 4, 2) := by decide +kernel
theorem d_X6_holds_69 : decode prog_8_method_5_code 69 = .ok (.iconst 1, 1) := by decide +kernel
theorem d_X6_holds_70 : decode prog_8_method_5_code 70 = .ok (.iushr, 1) := by decide +kernel
theorem d_X6_holds_71 : decode prog_8_method_5_code 71 = .ok (.goto 10, 3) := by decide +kernel
theorem d_X6_holds_74 : decode prog_8_method_5_code 74 = .ok (.iload 4, 2) := by decide +kernel
theorem d_X6_holds_76 : decode prog_8_method_5_code 76 = .ok (.iconst 1, 1) := by decide +kernel
theorem d_X6_holds_77 : decode prog_8_method_5_code 77 = .ok (.iushr, 1) := by decide +kernel
theorem d_X6_holds_78 : decode prog_8_method_5_code 78 = .ok (.bipush (-2), 2) := by decide +kernel
theorem d_X6_holds_80 : decode prog_8_method_5_code 80 = .ok (.iand, 1) := by decide +kernel
theorem d_X6_holds_81 : decode prog_8_method_5_code 81 = .ok (.istore 4, 2) := by decide +kernel
theorem d_X6_holds_83 : decode prog_8_method_5_code 83 = .ok (.goto 41, 3) := by decide +kernel
theorem d_X6_holds_86 : decode prog_8_method_5_code 86 = .ok (.iload 4, 2) := by decide +kernel
theorem d_X6_holds_88 : decode prog_8_method_5_code 88 = .ok (.iconst 1, 1) := by decide +kernel
theorem d_X6_holds_89 : decode prog_8_method_5_code 89 = .ok (.iushr, 1) := by decide +kernel
theorem d_X6_holds_90 : decode prog_8_method_5_code 90 = .ok (.iload 6, 2) := by decide +kernel
theorem d_X6_holds_92 : decode prog_8_method_5_code 92 = .ok (.ior, 1) := by decide +kernel
theorem d_X6_holds_93 : decode prog_8_method_5_code 93 = .ok (.istore 4, 2) := by decide +kernel
theorem d_X6_holds_95 : decode prog_8_method_5_code 95 = .ok (.goto 29, 3) := by decide +kernel
theorem d_X6_holds_98 : decode prog_8_method_5_code 98 = .ok (.iload 4, 2) := by decide +kernel
theorem d_X6_holds_100 : decode prog_8_method_5_code 100 = .ok (.iconst 1, 1) := by decide +kernel
theorem d_X6_holds_101 : decode prog_8_method_5_code 101 = .ok (.ishl, 1) := by decide +kernel
theorem d_X6_holds_102 : decode prog_8_method_5_code 102 = .ok (.aload_n 0, 1) := by decide +kernel
theorem d_X6_holds_103 : decode prog_8_method_5_code 103 = .ok (.getfield 13, 3) := by decide +kernel
theorem d_X6_holds_106 : decode prog_8_method_5_code 106 = .ok (.iload 5, 2) := by decide +kernel
theorem d_X6_holds_108 : decode prog_8_method_5_code 108 = .ok (.iaload, 1) := by decide +kernel
theorem d_X6_holds_109 : decode prog_8_method_5_code 109 = .ok (.aload_n 3, 1) := by decide +kernel
theorem d_X6_holds_110 : decode prog_8_method_5_code 110 = .ok (.invokestatic 31, 3) := by decide +kernel
theorem d_X6_holds_113 : decode prog_8_method_5_code 113 = .ok (.ifCond .eq 7, 3) := by decide +kernel
theorem d_X6_holds_116 : decode prog_8_method_5_code 116 = .ok (.iconst 1, 1) := by decide +kernel
theorem d_X6_holds_117 : decode prog_8_method_5_code 117 = .ok (.goto 4, 3) := by decide +kernel
theorem d_X6_holds_120 : decode prog_8_method_5_code 120 = .ok (.iconst 0, 1) := by decide +kernel
theorem d_X6_holds_121 : decode prog_8_method_5_code 121 = .ok (.ior, 1) := by decide +kernel
theorem d_X6_holds_122 : decode prog_8_method_5_code 122 = .ok (.istore 4, 2) := by decide +kernel
theorem d_X6_holds_124 : decode prog_8_method_5_code 124 = .ok (.iinc 5 1, 3) := by decide +kernel
theorem d_X6_holds_127 : decode prog_8_method_5_code 127 = .ok (.goto (-121), 3) := by decide +kernel
theorem d_X6_holds_130 : decode prog_8_method_5_code 130 = .ok (.iload 4, 2) := by decide +kernel
theorem d_X6_holds_132 : decode prog_8_method_5_code 132 = .ok (.iconst 1, 1) := by decide +kernel
theorem d_X6_holds_133 : decode prog_8_method_5_code 133 = .ok (.iand, 1) := by decide +kernel
theorem d_X6_holds_134 : decode prog_8_method_5_code 134 = .ok (.iconst 1, 1) := by decide +kernel
theorem d_X6_holds_135 : decode prog_8_method_5_code 135 = .ok (.if_icmp .ne 7, 3) := by decide +kernel
theorem d_X6_holds_138 : decode prog_8_method_5_code 138 = .ok (.iconst 1, 1) := by decide +kernel
theorem d_X6_holds_139 : decode prog_8_method_5_code 139 = .ok (.goto 4, 3) := by decide +kernel
theorem d_X6_holds_142 : decode prog_8_method_5_code 142 = .ok (.iconst 0, 1) := by decide +kernel
theorem d_X6_holds_143 : decode prog_8_method_5_code 143 = .ok (.ireturn, 1) := by decide +kernel
theorem d_X6_compares_0 : decode prog_8_method_6_code 0 = .ok (.iload_n 0, 1) := by decide +kernel
theorem d_X6_compares_1 : decode prog_8_method_6_code 1 = .ok (.bipush 16, 2) := by decide +kernel
theorem d_X6_compares_3 : decode prog_8_method_6_code 3 = .ok (.ishr, 1) := by decide +kernel
theorem d_X6_compares_4 : decode prog_8_method_6_code 4 = .ok (.aload_n 1, 1) := by decide +kernel
theorem d_X6_compares_5 : decode prog_8_method_6_code 5 = .ok (.invokestatic 35, 3) := by decide +kernel
theorem d_X6_compares_8 : decode prog_8_method_6_code 8 = .ok (.istore_n 2, 1) := by decide +kernel
theorem d_X6_compares_9 : decode prog_8_method_6_code 9 = .ok (.iload_n 0, 1) := by decide +kernel
theorem d_X6_compares_10 : decode prog_8_method_6_code 10 = .ok (.iconst 2, 1) := by decide +kernel
theorem d_X6_compares_11 : decode prog_8_method_6_code 11 = .ok (.ishr, 1) := by decide +kernel
theorem d_X6_compares_12 : decode prog_8_method_6_code 12 = .ok (.sipush 16383, 3) := by decide +kernel
theorem d_X6_compares_15 : decode prog_8_method_6_code 15 = .ok (.iand, 1) := by decide +kernel
theorem d_X6_compares_16 : decode prog_8_method_6_code 16 = .ok (.aload_n 1, 1) := by decide +kernel
theorem d_X6_compares_17 : decode prog_8_method_6_code 17 = .ok (.invokestatic 35, 3) := by decide +kernel
theorem d_X6_compares_20 : decode prog_8_method_6_code 20 = .ok (.istore_n 3, 1) := by decide +kernel
theorem d_X6_compares_21 : decode prog_8_method_6_code 21 = .ok (.iload_n 0, 1) := by decide +kernel
theorem d_X6_compares_22 : decode prog_8_method_6_code 22 = .ok (.iconst 3, 1) := by decide +kernel
theorem d_X6_compares_23 : decode prog_8_method_6_code 23 = .ok (.iand, 1) := by decide +kernel
theorem d_X6_compares_24 : decode prog_8_method_6_code 24 = .ok (.lookupswitch 50 #[(0, 28), (1, 39)], 28) := by decide +kernel
theorem d_X6_compares_52 : decode prog_8_method_6_code 52 = .ok (.iload_n 2, 1) := by decide +kernel
theorem d_X6_compares_53 : decode prog_8_method_6_code 53 = .ok (.iload_n 3, 1) := by decide +kernel
theorem d_X6_compares_54 : decode prog_8_method_6_code 54 = .ok (.if_icmp .ge 7, 3) := by decide +kernel
theorem d_X6_compares_57 : decode prog_8_method_6_code 57 = .ok (.iconst 1, 1) := by decide +kernel
theorem d_X6_compares_58 : decode prog_8_method_6_code 58 = .ok (.goto 4, 3) := by decide +kernel
theorem d_X6_compares_61 : decode prog_8_method_6_code 61 = .ok (.iconst 0, 1) := by decide +kernel
theorem d_X6_compares_62 : decode prog_8_method_6_code 62 = .ok (.ireturn, 1) := by decide +kernel
theorem d_X6_compares_63 : decode prog_8_method_6_code 63 = .ok (.iload_n 2, 1) := by decide +kernel
theorem d_X6_compares_64 : decode prog_8_method_6_code 64 = .ok (.iload_n 3, 1) := by decide +kernel
theorem d_X6_compares_65 : decode prog_8_method_6_code 65 = .ok (.if_icmp .ne 7, 3) := by decide +kernel
theorem d_X6_compares_68 : decode prog_8_method_6_code 68 = .ok (.iconst 1, 1) := by decide +kernel
theorem d_X6_compares_69 : decode prog_8_method_6_code 69 = .ok (.goto 4, 3) := by decide +kernel
theorem d_X6_compares_72 : decode prog_8_method_6_code 72 = .ok (.iconst 0, 1) := by decide +kernel
theorem d_X6_compares_73 : decode prog_8_method_6_code 73 = .ok (.ireturn, 1) := by decide +kernel
theorem d_X6_compares_74 : decode prog_8_method_6_code 74 = .ok (.iload_n 2, 1) := by decide +kernel
theorem d_X6_compares_75 : decode prog_8_method_6_code 75 = .ok (.iload_n 3, 1) := by decide +kernel
theorem d_X6_compares_76 : decode prog_8_method_6_code 76 = .ok (.if_icmp .le 7, 3) := by decide +kernel
theorem d_X6_compares_79 : decode prog_8_method_6_code 79 = .ok (.iconst 1, 1) := by decide +kernel
theorem d_X6_compares_80 : decode prog_8_method_6_code 80 = .ok (.goto 4, 3) := by decide +kernel
theorem d_X6_compares_83 : decode prog_8_method_6_code 83 = .ok (.iconst 0, 1) := by decide +kernel
theorem d_X6_compares_84 : decode prog_8_method_6_code 84 = .ok (.ireturn, 1) := by decide +kernel
theorem d_X6_valueOf_0 : decode prog_8_method_7_code 0 = .ok (.iload_n 0, 1) := by decide +kernel
theorem d_X6_valueOf_1 : decode prog_8_method_7_code 1 = .ok (.sipush 10000, 3) := by decide +kernel
theorem d_X6_valueOf_4 : decode prog_8_method_7_code 4 = .ok (.isub, 1) := by decide +kernel
theorem d_X6_valueOf_5 : decode prog_8_method_7_code 5 = .ok (.istore_n 2, 1) := by decide +kernel
theorem d_X6_valueOf_6 : decode prog_8_method_7_code 6 = .ok (.iload_n 2, 1) := by decide +kernel
theorem d_X6_valueOf_7 : decode prog_8_method_7_code 7 = .ok (.ifCond .lt 14, 3) := by decide +kernel
theorem d_X6_valueOf_10 : decode prog_8_method_7_code 10 = .ok (.iload_n 2, 1) := by decide +kernel
theorem d_X6_valueOf_11 : decode prog_8_method_7_code 11 = .ok (.iconst 5, 1) := by decide +kernel
theorem d_X6_valueOf_12 : decode prog_8_method_7_code 12 = .ok (.if_icmp .ge 9, 3) := by decide +kernel
theorem d_X6_valueOf_15 : decode prog_8_method_7_code 15 = .ok (.aload_n 1, 1) := by decide +kernel
theorem d_X6_valueOf_16 : decode prog_8_method_7_code 16 = .ok (.iload_n 2, 1) := by decide +kernel
theorem d_X6_valueOf_17 : decode prog_8_method_7_code 17 = .ok (.iaload, 1) := by decide +kernel
theorem d_X6_valueOf_18 : decode prog_8_method_7_code 18 = .ok (.goto 4, 3) := by decide +kernel
theorem d_X6_valueOf_21 : decode prog_8_method_7_code 21 = .ok (.iload_n 0, 1) := by decide +kernel
theorem d_X6_valueOf_22 : decode prog_8_method_7_code 22 = .ok (.ireturn, 1) := by decide +kernel
theorem d_X7_init_0 : decode prog_9_method_1_code 0 = .ok (.aload_n 0, 1) := by decide +kernel
theorem d_X7_init_1 : decode prog_9_method_1_code 1 = .ok (.invokespecial 3, 3) := by decide +kernel
theorem d_X7_init_4 : decode prog_9_method_1_code 4 = .ok (.aload_n 0, 1) := by decide +kernel
theorem d_X7_init_5 : decode prog_9_method_1_code 5 = .ok (.iload_n 1, 1) := by decide +kernel
theorem d_X7_init_6 : decode prog_9_method_1_code 6 = .ok (.putfield 9, 3) := by decide +kernel
theorem d_X7_init_9 : decode prog_9_method_1_code 9 = .ok (.aload_n 0, 1) := by decide +kernel
theorem d_X7_init_10 : decode prog_9_method_1_code 10 = .ok (.iload_n 2, 1) := by decide +kernel
theorem d_X7_init_11 : decode prog_9_method_1_code 11 = .ok (.newarray .int, 2) := by decide +kernel
theorem d_X7_init_13 : decode prog_9_method_1_code 13 = .ok (.putfield 15, 3) := by decide +kernel
theorem d_X7_init_16 : decode prog_9_method_1_code 16 = .ok (.return_, 1) := by decide +kernel
theorem d_X7_hasItem_0 : decode prog_9_method_2_code 0 = .ok (.iload_n 1, 1) := by decide +kernel
theorem d_X7_hasItem_1 : decode prog_9_method_2_code 1 = .ok (.iconst 0, 1) := by decide +kernel
theorem d_X7_hasItem_2 : decode prog_9_method_2_code 2 = .ok (.aload_n 0, 1) := by decide +kernel
theorem d_X7_hasItem_3 : decode prog_9_method_2_code 3 = .ok (.getfield 15, 3) := by decide +kernel
theorem d_X7_hasItem_6 : decode prog_9_method_2_code 6 = .ok (.arraylength, 1) := by decide +kernel
theorem d_X7_hasItem_7 : decode prog_9_method_2_code 7 = .ok (.iconst 1, 1) := by decide +kernel
theorem d_X7_hasItem_8 : decode prog_9_method_2_code 8 = .ok (.isub, 1) := by decide +kernel
theorem d_X7_hasItem_9 : decode prog_9_method_2_code 9 = .ok (.invokestatic 19, 3) := by decide +kernel
theorem d_X7_hasItem_12 : decode prog_9_method_2_code 12 = .ok (.ireturn, 1) := by decide +kernel
theorem d_X7_narrowed_0 : decode prog_9_method_3_code 0 = .ok (.aload_n 0, 1) := by decide +kernel
theorem d_X7_narrowed_1 : decode prog_9_method_3_code 1 = .ok (.getfield 9, 3) := by decide +kernel
theorem d_X7_narrowed_4 : decode prog_9_method_3_code 4 = .ok (.tableswitch 52 0 4 #[36, 39, 52, 52, 42], 36) := by decide +kernel
theorem d_X7_narrowed_40 : decode prog_9_method_3_code 40 = .ok (.iload_n 1, 1) := by decide +kernel
theorem d_X7_narrowed_41 : decode prog_9_method_3_code 41 = .ok (.i2b, 1) := by decide +kernel
theorem d_X7_narrowed_42 : decode prog_9_method_3_code 42 = .ok (.ireturn, 1) := by decide +kernel
theorem d_X7_narrowed_43 : decode prog_9_method_3_code 43 = .ok (.iload_n 1, 1) := by decide +kernel
theorem d_X7_narrowed_44 : decode prog_9_method_3_code 44 = .ok (.i2s, 1) := by decide +kernel
theorem d_X7_narrowed_45 : decode prog_9_method_3_code 45 = .ok (.ireturn, 1) := by decide +kernel
theorem d_X7_narrowed_46 : decode prog_9_method_3_code 46 = .ok (.iload_n 1, 1) := by decide +kernel
theorem d_X7_narrowed_47 : decode prog_9_method_3_code 47 = .ok (.ifCond .eq 7, 3) := by decide +kernel
theorem d_X7_narrowed_50 : decode prog_9_method_3_code 50 = .ok (.iconst 1, 1) := by decide +kernel
theorem d_X7_narrowed_51 : decode prog_9_method_3_code 51 = .ok (.goto 4, 3) := by decide +kernel
theorem d_X7_narrowed_54 : decode prog_9_method_3_code 54 = .ok (.iconst 0, 1) := by decide +kernel
theorem d_X7_narrowed_55 : decode prog_9_method_3_code 55 = .ok (.ireturn, 1) := by decide +kernel
theorem d_X7_narrowed_56 : decode prog_9_method_3_code 56 = .ok (.iload_n 1, 1) := by decide +kernel
theorem d_X7_narrowed_57 : decode prog_9_method_3_code 57 = .ok (.ireturn, 1) := by decide +kernel
theorem d_X8_init_0 : decode prog_10_method_1_code 0 = .ok (.aload_n 0, 1) := by decide +kernel
theorem d_X8_init_1 : decode prog_10_method_1_code 1 = .ok (.invokespecial 3, 3) := by decide +kernel
theorem d_X8_init_4 : decode prog_10_method_1_code 4 = .ok (.aload_n 0, 1) := by decide +kernel
theorem d_X8_init_5 : decode prog_10_method_1_code 5 = .ok (.sipush 200, 3) := by decide +kernel
theorem d_X8_init_8 : decode prog_10_method_1_code 8 = .ok (.newarray .int, 2) := by decide +kernel
theorem d_X8_init_10 : decode prog_10_method_1_code 10 = .ok (.putfield 9, 3) := by decide +kernel
theorem d_X8_init_13 : decode prog_10_method_1_code 13 = .ok (.aload_n 0, 1) := by decide +kernel
theorem d_X8_init_14 : decode prog_10_method_1_code 14 = .ok (.sipush 201, 3) := by decide +kernel
theorem d_X8_init_17 : decode prog_10_method_1_code 17 = .ok (.newarray .int, 2) := by decide +kernel
theorem d_X8_init_19 : decode prog_10_method_1_code 19 = .ok (.putfield 15, 3) := by decide +kernel
theorem d_X8_init_22 : decode prog_10_method_1_code 22 = .ok (.aload_n 0, 1) := by decide +kernel
theorem d_X8_init_23 : decode prog_10_method_1_code 23 = .ok (.sipush 201, 3) := by decide +kernel
theorem d_X8_init_26 : decode prog_10_method_1_code 26 = .ok (.newarray .int, 2) := by decide +kernel
theorem d_X8_init_28 : decode prog_10_method_1_code 28 = .ok (.putfield 18, 3) := by decide +kernel
theorem d_X8_init_31 : decode prog_10_method_1_code 31 = .ok (.aload_n 0, 1) := by decide +kernel
theorem d_X8_init_32 : decode prog_10_method_1_code 32 = .ok (.sipush 232, 3) := by decide +kernel
theorem d_X8_init_35 : decode prog_10_method_1_code 35 = .ok (.newarray .int, 2) := by decide +kernel
theorem d_X8_init_37 : decode prog_10_method_1_code 37 = .ok (.putfield 23, 3) := by decide +kernel
theorem d_X8_init_40 : decode prog_10_method_1_code 40 = .ok (.return_, 1) := by decide +kernel
theorem d_X8_append_0 : decode prog_10_method_2_code 0 = .ok (.aload_n 0, 1) := by decide +kernel
theorem d_X8_append_1 : decode prog_10_method_2_code 1 = .ok (.getfield 26, 3) := by decide +kernel
theorem d_X8_append_4 : decode prog_10_method_2_code 4 = .ok (.sipush 200, 3) := by decide +kernel
theorem d_X8_append_7 : decode prog_10_method_2_code 7 = .ok (.if_icmp .lt 4, 3) := by decide +kernel
theorem d_X8_append_10 : decode prog_10_method_2_code 10 = .ok (.return_, 1) := by decide +kernel
theorem d_X8_append_11 : decode prog_10_method_2_code 11 = .ok (.aload_n 0, 1) := by decide +kernel
theorem d_X8_append_12 : decode prog_10_method_2_code 12 = .ok (.getfield 9, 3) := by decide +kernel
theorem d_X8_append_15 : decode prog_10_method_2_code 15 = .ok (.aload_n 0, 1) := by decide +kernel
theorem d_X8_append_16 : decode prog_10_method_2_code 16 = .ok (.getfield 26, 3) := by decide +kernel
theorem d_X8_append_19 : decode prog_10_method_2_code 19 = .ok (.iload_n 1, 1) := by decide +kernel
theorem d_X8_append_20 : decode prog_10_method_2_code 20 = .ok (.iastore, 1) := by decide +kernel
theorem d_X8_append_21 : decode prog_10_method_2_code 21 = .ok (.aload_n 0, 1) := by decide +kernel
theorem d_X8_append_22 : decode prog_10_method_2_code 22 = .ok (.dup, 1) := by decide +kernel
theorem d_X8_append_23 : decode prog_10_method_2_code 23 = .ok (.getfield 26, 3) := by decide +kernel
theorem d_X8_append_26 : decode prog_10_method_2_code 26 = .ok (.iconst 1, 1) := by decide +kernel
theorem d_X8_append_27 : decode prog_10_method_2_code 27 = .ok (.iadd, 1) := by decide +kernel
theorem d_X8_append_28 : decode prog_10_method_2_code 28 = .ok (.putfield 26, 3) := by decide +kernel
theorem d_X8_append_31 : decode prog_10_method_2_code 31 = .ok (.return_, 1) := by decide +kernel
theorem d_X8_told_0 : decode prog_10_method_3_code 0 = .ok (.aload_n 0, 1) := by decide +kernel
theorem d_X8_told_1 : decode prog_10_method_3_code 1 = .ok (.invokevirtual 30, 3) := by decide +kernel
theorem d_X8_told_4 : decode prog_10_method_3_code 4 = .ok (.aload_n 0, 1) := by decide +kernel
theorem d_X8_told_5 : decode prog_10_method_3_code 5 = .ok (.iconst 0, 1) := by decide +kernel
theorem d_X8_told_6 : decode prog_10_method_3_code 6 = .ok (.putfield 33, 3) := by decide +kernel
theorem d_X8_told_9 : decode prog_10_method_3_code 9 = .ok (.aload_n 0, 1) := by decide +kernel
theorem d_X8_told_10 : decode prog_10_method_3_code 10 = .ok (.aload_n 0, 1) := by decide +kernel
theorem d_X8_told_11 : decode prog_10_method_3_code 11 = .ok (.getfield 15, 3) := by decide +kernel
theorem d_X8_told_14 : decode prog_10_method_3_code 14 = .ok (.iconst 0, 1) := by decide +kernel
theorem d_X8_told_15 : decode prog_10_method_3_code 15 = .ok (.iaload, 1) := by decide +kernel
theorem d_X8_told_16 : decode prog_10_method_3_code 16 = .ok (.putfield 36, 3) := by decide +kernel
theorem d_X8_told_19 : decode prog_10_method_3_code 19 = .ok (.aload_n 0, 1) := by decide +kernel
theorem d_X8_told_20 : decode prog_10_method_3_code 20 = .ok (.iconst (-1), 1) := by decide +kernel
theorem d_X8_told_21 : decode prog_10_method_3_code 21 = .ok (.putfield 39, 3) := by decide +kernel
theorem d_X8_told_24 : decode prog_10_method_3_code 24 = .ok (.aload_n 0, 1) := by decide +kernel
theorem d_X8_told_25 : decode prog_10_method_3_code 25 = .ok (.iconst 0, 1) := by decide +kernel
theorem d_X8_told_26 : decode prog_10_method_3_code 26 = .ok (.putfield 42, 3) := by decide +kernel
theorem d_X8_told_29 : decode prog_10_method_3_code 29 = .ok (.iconst 0, 1) := by decide +kernel
theorem d_X8_told_30 : decode prog_10_method_3_code 30 = .ok (.istore_n 1, 1) := by decide +kernel
theorem d_X8_told_31 : decode prog_10_method_3_code 31 = .ok (.iload_n 1, 1) := by decide +kernel
theorem d_X8_told_32 : decode prog_10_method_3_code 32 = .ok (.bipush 8, 2) := by decide +kernel
theorem d_X8_told_34 : decode prog_10_method_3_code 34 = .ok (.if_icmp .ge 30, 3) := by decide +kernel
theorem d_X8_told_37 : decode prog_10_method_3_code 37 = .ok (.aload_n 0, 1) := by decide +kernel
theorem d_X8_told_38 : decode prog_10_method_3_code 38 = .ok (.getfield 36, 3) := by decide +kernel
theorem d_X8_told_41 : decode prog_10_method_3_code 41 = .ok (.bipush 19, 2) := by decide +kernel
theorem d_X8_told_43 : decode prog_10_method_3_code 43 = .ok (.if_icmp .eq 21, 3) := by decide +kernel
theorem d_X8_told_46 : decode prog_10_method_3_code 46 = .ok (.aload_n 0, 1) := by decide +kernel
theorem d_X8_told_47 : decode prog_10_method_3_code 47 = .ok (.getfield 39, 3) := by decide +kernel
theorem d_X8_told_50 : decode prog_10_method_3_code 50 = .ok (.iconst (-1), 1) := by decide +kernel
theorem d_X8_told_51 : decode prog_10_method_3_code 51 = .ok (.if_icmp .ne 13, 3) := by decide +kernel
theorem d_X8_told_54 : decode prog_10_method_3_code 54 = .ok (.aload_n 0, 1) := by decide +kernel
theorem d_X8_told_55 : decode prog_10_method_3_code 55 = .ok (.invokevirtual 45, 3) := by decide +kernel
theorem d_X8_told_58 : decode prog_10_method_3_code 58 = .ok (.iinc 1 1, 3) := by decide +kernel
theorem d_X8_told_61 : decode prog_10_method_3_code 61 = .ok (.goto (-30), 3) := by decide +kernel
theorem d_X8_told_64 : decode prog_10_method_3_code 64 = .ok (.aload_n 0, 1) := by decide +kernel
theorem d_X8_told_65 : decode prog_10_method_3_code 65 = .ok (.getfield 36, 3) := by decide +kernel
theorem d_X8_told_68 : decode prog_10_method_3_code 68 = .ok (.bipush 19, 2) := by decide +kernel
theorem d_X8_told_70 : decode prog_10_method_3_code 70 = .ok (.if_icmp .eq 7, 3) := by decide +kernel
theorem d_X8_told_73 : decode prog_10_method_3_code 73 = .ok (.aload_n 0, 1) := by decide +kernel
theorem d_X8_told_74 : decode prog_10_method_3_code 74 = .ok (.invokevirtual 48, 3) := by decide +kernel
theorem d_X8_told_77 : decode prog_10_method_3_code 77 = .ok (.aload_n 0, 1) := by decide +kernel
theorem d_X8_told_78 : decode prog_10_method_3_code 78 = .ok (.getfield 39, 3) := by decide +kernel
theorem d_X8_told_81 : decode prog_10_method_3_code 81 = .ok (.iconst (-1), 1) := by decide +kernel
theorem d_X8_told_82 : decode prog_10_method_3_code 82 = .ok (.if_icmp .ne 25, 3) := by decide +kernel
theorem d_X8_told_85 : decode prog_10_method_3_code 85 = .ok (.new 21, 3) := by decide +kernel
theorem d_X8_told_88 : decode prog_10_method_3_code 88 = .ok (.dup, 1) := by decide +kernel
theorem d_X8_told_89 : decode prog_10_method_3_code 89 = .ok (.iload_n 1, 1) := by decide +kernel
theorem d_X8_told_90 : decode prog_10_method_3_code 90 = .ok (.aload_n 0, 1) := by decide +kernel
theorem d_X8_told_91 : decode prog_10_method_3_code 91 = .ok (.getfield 23, 3) := by decide +kernel
theorem d_X8_told_94 : decode prog_10_method_3_code 94 = .ok (.aload_n 0, 1) := by decide +kernel
theorem d_X8_told_95 : decode prog_10_method_3_code 95 = .ok (.getfield 42, 3) := by decide +kernel
theorem d_X8_told_98 : decode prog_10_method_3_code 98 = .ok (.invokestatic 51, 3) := by decide +kernel
theorem d_X8_told_101 : decode prog_10_method_3_code 101 = .ok (.invokespecial 57, 3) := by decide +kernel
theorem d_X8_told_104 : decode prog_10_method_3_code 104 = .ok (.goto 4, 3) := by decide +kernel
theorem d_X8_told_107 : decode prog_10_method_3_code 107 = .ok (.aconst_null, 1) := by decide +kernel
theorem d_X8_told_108 : decode prog_10_method_3_code 108 = .ok (.areturn, 1) := by decide +kernel
theorem d_X8_split_0 : decode prog_10_method_4_code 0 = .ok (.iconst 0, 1) := by decide +kernel
theorem d_X8_split_1 : decode prog_10_method_4_code 1 = .ok (.istore_n 1, 1) := by decide +kernel
theorem d_X8_split_2 : decode prog_10_method_4_code 2 = .ok (.iconst 0, 1) := by decide +kernel
theorem d_X8_split_3 : decode prog_10_method_4_code 3 = .ok (.istore_n 2, 1) := by decide +kernel
theorem d_X8_split_4 : decode prog_10_method_4_code 4 = .ok (.iload_n 2, 1) := by decide +kernel
theorem d_X8_split_5 : decode prog_10_method_4_code 5 = .ok (.aload_n 0, 1) := by decide +kernel
theorem d_X8_split_6 : decode prog_10_method_4_code 6 = .ok (.getfield 26, 3) := by decide +kernel
theorem d_X8_split_9 : decode prog_10_method_4_code 9 = .ok (.if_icmp .ge 57, 3) := by decide +kernel
theorem d_X8_split_12 : decode prog_10_method_4_code 12 = .ok (.aload_n 0, 1) := by decide +kernel
theorem d_X8_split_13 : decode prog_10_method_4_code 13 = .ok (.getfield 9, 3) := by decide +kernel
theorem d_X8_split_16 : decode prog_10_method_4_code 16 = .ok (.iload_n 2, 1) := by decide +kernel
theorem d_X8_split_17 : decode prog_10_method_4_code 17 = .ok (.iaload, 1) := by decide +kernel
theorem d_X8_split_18 : decode prog_10_method_4_code 18 = .ok (.bipush 32, 2) := by decide +kernel
theorem d_X8_split_20 : decode prog_10_method_4_code 20 = .ok (.if_icmp .eq 40, 3) := by decide +kernel
theorem d_X8_split_23 : decode prog_10_method_4_code 23 = .ok (.aload_n 0, 1) := by decide +kernel
theorem d_X8_split_24 : decode prog_10_method_4_code 24 = .ok (.iload_n 2, 1) := by decide +kernel
theorem d_X8_split_25 : decode prog_10_method_4_code 25 = .ok (.invokevirtual 60, 3) := by decide +kernel
theorem d_X8_split_28 : decode prog_10_method_4_code 28 = .ok (.ifCond .eq 6, 3) := by decide +kernel
theorem d_X8_split_31 : decode prog_10_method_4_code 31 = .ok (.goto 29, 3) := by decide +kernel
theorem d_X8_split_34 : decode prog_10_method_4_code 34 = .ok (.aload_n 0, 1) := by decide +kernel
theorem d_X8_split_35 : decode prog_10_method_4_code 35 = .ok (.getfield 15, 3) := by decide +kernel
theorem d_X8_split_38 : decode prog_10_method_4_code 38 = .ok (.iload_n 1, 1) := by decide +kernel
theorem d_X8_split_39 : decode prog_10_method_4_code 39 = .ok (.aload_n 0, 1) := by decide +kernel
theorem d_X8_split_40 : decode prog_10_method_4_code 40 = .ok (.iload_n 2, 1) := by decide +kernel
theorem d_X8_split_41 : decode prog_10_method_4_code 41 = .ok (.aload_n 0, 1) := by decide +kernel
theorem d_X8_split_42 : decode prog_10_method_4_code 42 = .ok (.iload_n 2, 1) := by decide +kernel
theorem d_X8_split_43 : decode prog_10_method_4_code 43 = .ok (.invokevirtual 64, 3) := by decide +kernel
theorem d_X8_split_46 : decode prog_10_method_4_code 46 = .ok (.invokevirtual 68, 3) := by decide +kernel
theorem d_X8_split_49 : decode prog_10_method_4_code 49 = .ok (.iastore, 1) := by decide +kernel
theorem d_X8_split_50 : decode prog_10_method_4_code 50 = .ok (.aload_n 0, 1) := by decide +kernel
theorem d_X8_split_51 : decode prog_10_method_4_code 51 = .ok (.getfield 18, 3) := by decide +kernel
theorem d_X8_split_54 : decode prog_10_method_4_code 54 = .ok (.iload_n 1, 1) := by decide +kernel
theorem d_X8_split_55 : decode prog_10_method_4_code 55 = .ok (.iload_n 2, 1) := by decide +kernel
theorem d_X8_split_56 : decode prog_10_method_4_code 56 = .ok (.iastore, 1) := by decide +kernel
theorem d_X8_split_57 : decode prog_10_method_4_code 57 = .ok (.iinc 1 1, 3) := by decide +kernel
theorem d_X8_split_60 : decode prog_10_method_4_code 60 = .ok (.iinc 2 1, 3) := by decide +kernel
theorem d_X8_split_63 : decode prog_10_method_4_code 63 = .ok (.goto (-59), 3) := by decide +kernel
theorem d_X8_split_66 : decode prog_10_method_4_code 66 = .ok (.aload_n 0, 1) := by decide +kernel
theorem d_X8_split_67 : decode prog_10_method_4_code 67 = .ok (.getfield 15, 3) := by decide +kernel
theorem d_X8_split_70 : decode prog_10_method_4_code 70 = .ok (.iload_n 1, 1) := by decide +kernel
theorem d_X8_split_71 : decode prog_10_method_4_code 71 = .ok (.bipush 19, 2) := by decide +kernel
theorem d_X8_split_73 : decode prog_10_method_4_code 73 = .ok (.iastore, 1) := by decide +kernel
theorem d_X8_split_74 : decode prog_10_method_4_code 74 = .ok (.aload_n 0, 1) := by decide +kernel
theorem d_X8_split_75 : decode prog_10_method_4_code 75 = .ok (.getfield 18, 3) := by decide +kernel
theorem d_X8_split_78 : decode prog_10_method_4_code 78 = .ok (.iload_n 1, 1) := by decide +kernel
theorem d_X8_split_79 : decode prog_10_method_4_code 79 = .ok (.aload_n 0, 1) := by decide +kernel
theorem d_X8_split_80 : decode prog_10_method_4_code 80 = .ok (.getfield 26, 3) := by decide +kernel
theorem d_X8_split_83 : decode prog_10_method_4_code 83 = .ok (.iastore, 1) := by decide +kernel
theorem d_X8_split_84 : decode prog_10_method_4_code 84 = .ok (.return_, 1) := by decide +kernel
theorem d_X8_isInWord_0 : decode prog_10_method_5_code 0 = .ok (.iload_n 1, 1) := by decide +kernel
theorem d_X8_isInWord_1 : decode prog_10_method_5_code 1 = .ok (.iconst 1, 1) := by decide +kernel
theorem d_X8_isInWord_2 : decode prog_10_method_5_code 2 = .ok (.if_icmp .ge 5, 3) := by decide +kernel
theorem d_X8_isInWord_5 : decode prog_10_method_5_code 5 = .ok (.iconst 0, 1) := by decide +kernel
theorem d_X8_isInWord_6 : decode prog_10_method_5_code 6 = .ok (.ireturn, 1) := by decide +kernel
theorem d_X8_isInWord_7 : decode prog_10_method_5_code 7 = .ok (.aload_n 0, 1) := by decide +kernel
theorem d_X8_isInWord_8 : decode prog_10_method_5_code 8 = .ok (.getfield 9, 3) := by decide +kernel
theorem d_X8_isInWord_11 : decode prog_10_method_5_code 11 = .ok (.iload_n 1, 1) := by decide +kernel
theorem d_X8_isInWord_12 : decode prog_10_method_5_code 12 = .ok (.iconst 1, 1) := by decide +kernel
theorem d_X8_isInWord_13 : decode prog_10_method_5_code 13 = .ok (.isub, 1) := by decide +kernel
theorem d_X8_isInWord_14 : decode prog_10_method_5_code 14 = .ok (.iaload, 1) := by decide +kernel
theorem d_X8_isInWord_15 : decode prog_10_method_5_code 15 = .ok (.invokestatic 72, 3) := by decide +kernel
theorem d_X8_isInWord_18 : decode prog_10_method_5_code 18 = .ok (.ifCond .eq 15, 3) := by decide +kernel
theorem d_X8_isInWord_21 : decode prog_10_method_5_code 21 = .ok (.aload_n 0, 1) := by decide +kernel
theorem d_X8_isInWord_22 : decode prog_10_method_5_code 22 = .ok (.getfield 9, 3) := by decide +kernel
theorem d_X8_isInWord_25 : decode prog_10_method_5_code 25 = .ok (.iload_n 1, 1) := by decide +kernel
theorem d_X8_isInWord_26 : decode prog_10_method_5_code 26 = .ok (.iaload, 1) := by decide +kernel
theorem d_X8_isInWord_27 : decode prog_10_method_5_code 27 = .ok (.invokestatic 72, 3) := by decide +kernel
theorem d_X8_isInWord_30 : decode prog_10_method_5_code 30 = .ok (.ifCond .ne 29, 3) := by decide +kernel
theorem d_X8_isInWord_33 : decode prog_10_method_5_code 33 = .ok (.aload_n 0, 1) := by decide +kernel
theorem d_X8_isInWord_34 : decode prog_10_method_5_code 34 = .ok (.getfield 9, 3) := by decide +kernel
theorem d_X8_isInWord_37 : decode prog_10_method_5_code 37 = .ok (.iload_n 1, 1) := by decide +kernel
theorem d_X8_isInWord_38 : decode prog_10_method_5_code 38 = .ok (.iconst 1, 1) := by decide +kernel
theorem d_X8_isInWord_39 : decode prog_10_method_5_code 39 = .ok (.isub, 1) := by decide +kernel
theorem d_X8_isInWord_40 : decode prog_10_method_5_code 40 = .ok (.iaload, 1) := by decide +kernel
theorem d_X8_isInWord_41 : decode prog_10_method_5_code 41 = .ok (.invokestatic 75, 3) := by decide +kernel
theorem d_X8_isInWord_44 : decode prog_10_method_5_code 44 = .ok (.ifCond .eq 19, 3) := by decide +kernel
theorem d_X8_isInWord_47 : decode prog_10_method_5_code 47 = .ok (.aload_n 0, 1) := by decide +kernel
theorem d_X8_isInWord_48 : decode prog_10_method_5_code 48 = .ok (.getfield 9, 3) := by decide +kernel
theorem d_X8_isInWord_51 : decode prog_10_method_5_code 51 = .ok (.iload_n 1, 1) := by decide +kernel
theorem d_X8_isInWord_52 : decode prog_10_method_5_code 52 = .ok (.iaload, 1) := by decide +kernel
theorem d_X8_isInWord_53 : decode prog_10_method_5_code 53 = .ok (.invokestatic 75, 3) := by decide +kernel
theorem d_X8_isInWord_56 : decode prog_10_method_5_code 56 = .ok (.ifCond .eq 7, 3) := by decide +kernel
theorem d_X8_isInWord_59 : decode prog_10_method_5_code 59 = .ok (.iconst 1, 1) := by decide +kernel
theorem d_X8_isInWord_60 : decode prog_10_method_5_code 60 = .ok (.goto 4, 3) := by decide +kernel
theorem d_X8_isInWord_63 : decode prog_10_method_5_code 63 = .ok (.iconst 0, 1) := by decide +kernel
theorem d_X8_isInWord_64 : decode prog_10_method_5_code 64 = .ok (.ireturn, 1) := by decide +kernel
theorem d_X8_endOfWord_0 : decode prog_10_method_6_code 0 = .ok (.iload_n 1, 1) := by decide +kernel
theorem d_X8_endOfWord_1 : decode prog_10_method_6_code 1 = .ok (.iconst 1, 1) := by decide +kernel
theorem d_X8_endOfWord_2 : decode prog_10_method_6_code 2 = .ok (.iadd, 1) := by decide +kernel
theorem d_X8_endOfWord_3 : decode prog_10_method_6_code 3 = .ok (.istore_n 2, 1) := by decide +kernel
theorem d_X8_endOfWord_4 : decode prog_10_method_6_code 4 = .ok (.aload_n 0, 1) := by decide +kernel
theorem d_X8_endOfWord_5 : decode prog_10_method_6_code 5 = .ok (.getfield 9, 3) := by decide +kernel
theorem d_X8_endOfWord_8 : decode prog_10_method_6_code 8 = .ok (.iload_n 1, 1) := by decide +kernel
theorem d_X8_endOfWord_9 : decode prog_10_method_6_code 9 = .ok (.iaload, 1) := by decide +kernel
theorem d_X8_endOfWord_10 : decode prog_10_method_6_code 10 = .ok (.invokestatic 72, 3) := by decide +kernel
theorem d_X8_endOfWord_13 : decode prog_10_method_6_code 13 = .ok (.ifCond .eq 29, 3) := by decide +kernel
theorem d_X8_endOfWord_16 : decode prog_10_method_6_code 16 = .ok (.iload_n 2, 1) := by decide +kernel
theorem d_X8_endOfWord_17 : decode prog_10_method_6_code 17 = .ok (.aload_n 0, 1) := by decide +kernel
theorem d_X8_endOfWord_18 : decode prog_10_method_6_code 18 = .ok (.getfield 26, 3) := by decide +kernel
theorem d_X8_endOfWord_21 : decode prog_10_method_6_code 21 = .ok (.if_icmp .ge 59, 3) := by decide +kernel
theorem d_X8_endOfWord_24 : decode prog_10_method_6_code 24 = .ok (.aload_n 0, 1) := by decide +kernel
theorem d_X8_endOfWord_25 : decode prog_10_method_6_code 25 = .ok (.getfield 9, 3) := by decide +kernel
theorem d_X8_endOfWord_28 : decode prog_10_method_6_code 28 = .ok (.iload_n 2, 1) := by decide +kernel
theorem d_X8_endOfWord_29 : decode prog_10_method_6_code 29 = .ok (.iaload, 1) := by decide +kernel
theorem d_X8_endOfWord_30 : decode prog_10_method_6_code 30 = .ok (.invokestatic 72, 3) := by decide +kernel
theorem d_X8_endOfWord_33 : decode prog_10_method_6_code 33 = .ok (.ifCond .eq 47, 3) := by decide +kernel
theorem d_X8_endOfWord_36 : decode prog_10_method_6_code 36 = .ok (.iinc 2 1, 3) := by decide +kernel
theorem d_X8_endOfWord_39 : decode prog_10_method_6_code 39 = .ok (.goto (-23), 3) := by decide +kernel
theorem d_X8_endOfWord_42 : decode prog_10_method_6_code 42 = .ok (.aload_n 0, 1) := by decide +kernel
theorem d_X8_endOfWord_43 : decode prog_10_method_6_code 43 = .ok (.getfield 9, 3) := by decide +kernel
theorem d_X8_endOfWord_46 : decode prog_10_method_6_code 46 = .ok (.iload_n 1, 1) := by decide +kernel
theorem d_X8_endOfWord_47 : decode prog_10_method_6_code 47 = .ok (.iaload, 1) := by decide +kernel
theorem d_X8_endOfWord_48 : decode prog_10_method_6_code 48 = .ok (.invokestatic 75, 3) := by decide +kernel
theorem d_X8_endOfWord_51 : decode prog_10_method_6_code 51 = .ok (.ifCond .eq 29, 3) := by decide +kernel
theorem d_X8_endOfWord_54 : decode prog_10_method_6_code 54 = .ok (.iload_n 2, 1) := by decide +kernel
theorem d_X8_endOfWord_55 : decode prog_10_method_6_code 55 = .ok (.aload_n 0, 1) := by decide +kernel
theorem d_X8_endOfWord_56 : decode prog_10_method_6_code 56 = .ok (.getfield 26, 3) := by decide +kernel
theorem d_X8_endOfWord_59 : decode prog_10_method_6_code 59 = .ok (.if_icmp .ge 21, 3) := by decide +kernel
theorem d_X8_endOfWord_62 : decode prog_10_method_6_code 62 = .ok (.aload_n 0, 1) := by decide +kernel
theorem d_X8_endOfWord_63 : decode prog_10_method_6_code 63 = .ok (.getfield 9, 3) := by decide +kernel
theorem d_X8_endOfWord_66 : decode prog_10_method_6_code 66 = .ok (.iload_n 2, 1) := by decide +kernel
theorem d_X8_endOfWord_67 : decode prog_10_method_6_code 67 = .ok (.iaload, 1) := by decide +kernel
theorem d_X8_endOfWord_68 : decode prog_10_method_6_code 68 = .ok (.invokestatic 75, 3) := by decide +kernel
theorem d_X8_endOfWord_71 : decode prog_10_method_6_code 71 = .ok (.ifCond .eq 9, 3) := by decide +kernel
theorem d_X8_endOfWord_74 : decode prog_10_method_6_code 74 = .ok (.iinc 2 1, 3) := by decide +kernel
theorem d_X8_endOfWord_77 : decode prog_10_method_6_code 77 = .ok (.goto (-23), 3) := by decide +kernel
theorem d_X8_endOfWord_80 : decode prog_10_method_6_code 80 = .ok (.iload_n 2, 1) := by decide +kernel
theorem d_X8_endOfWord_81 : decode prog_10_method_6_code 81 = .ok (.ireturn, 1) := by decide +kernel
theorem d_X8_wordAt_0 : decode prog_10_method_7_code 0 = .ok (.aload_n 0, 1) := by decide +kernel
theorem d_X8_wordAt_1 : decode prog_10_method_7_code 1 = .ok (.getfield 9, 3) := by decide +kernel
theorem d_X8_wordAt_4 : decode prog_10_method_7_code 4 = .ok (.iload_n 1, 1) := by decide +kernel
theorem d_X8_wordAt_5 : decode prog_10_method_7_code 5 = .ok (.iaload, 1) := by decide +kernel
theorem d_X8_wordAt_6 : decode prog_10_method_7_code 6 = .ok (.invokestatic 72, 3) := by decide +kernel
theorem d_X8_wordAt_9 : decode prog_10_method_7_code 9 = .ok (.ifCond .eq 12, 3) := by decide +kernel
theorem d_X8_wordAt_12 : decode prog_10_method_7_code 12 = .ok (.aload_n 0, 1) := by decide +kernel
theorem d_X8_wordAt_13 : decode prog_10_method_7_code 13 = .ok (.iload_n 1, 1) := by decide +kernel
theorem d_X8_wordAt_14 : decode prog_10_method_7_code 14 = .ok (.iload_n 2, 1) := by decide +kernel
theorem d_X8_wordAt_15 : decode prog_10_method_7_code 15 = .ok (.iload_n 1, 1) := by decide +kernel
theorem d_X8_wordAt_16 : decode prog_10_method_7_code 16 = .ok (.isub, 1) := by decide +kernel
theorem d_X8_wordAt_17 : decode prog_10_method_7_code 17 = .ok (.invokevirtual 78, 3) := by decide +kernel
theorem d_X8_wordAt_20 : decode prog_10_method_7_code 20 = .ok (.ireturn, 1) := by decide +kernel
theorem d_X8_wordAt_21 : decode prog_10_method_7_code 21 = .ok (.aload_n 0, 1) := by decide +kernel
theorem d_X8_wordAt_22 : decode prog_10_method_7_code 22 = .ok (.getfield 9, 3) := by decide +kernel
theorem d_X8_wordAt_25 : decode prog_10_method_7_code 25 = .ok (.iload_n 1, 1) := by decide +kernel
theorem d_X8_wordAt_26 : decode prog_10_method_7_code 26 = .ok (.iaload, 1) := by decide +kernel
theorem d_X8_wordAt_27 : decode prog_10_method_7_code 27 = .ok (.invokestatic 75, 3) := by decide +kernel
theorem d_X8_wordAt_30 : decode prog_10_method_7_code 30 = .ok (.ifCond .eq 12, 3) := by decide +kernel
theorem d_X8_wordAt_33 : decode prog_10_method_7_code 33 = .ok (.aload_n 0, 1) := by decide +kernel
theorem d_X8_wordAt_34 : decode prog_10_method_7_code 34 = .ok (.iload_n 1, 1) := by decide +kernel
theorem d_X8_wordAt_35 : decode prog_10_method_7_code 35 = .ok (.iload_n 2, 1) := by decide +kernel
theorem d_X8_wordAt_36 : decode prog_10_method_7_code 36 = .ok (.iload_n 1, 1) := by decide +kernel
theorem d_X8_wordAt_37 : decode prog_10_method_7_code 37 = .ok (.isub, 1) := by decide +kernel
theorem d_X8_wordAt_38 : decode prog_10_method_7_code 38 = .ok (.invokevirtual 81, 3) := by decide +kernel
theorem d_X8_wordAt_41 : decode prog_10_method_7_code 41 = .ok (.ireturn, 1) := by decide +kernel
theorem d_X8_wordAt_42 : decode prog_10_method_7_code 42 = .ok (.aload_n 0, 1) := by decide +kernel
theorem d_X8_wordAt_43 : decode prog_10_method_7_code 43 = .ok (.getfield 9, 3) := by decide +kernel
theorem d_X8_wordAt_46 : decode prog_10_method_7_code 46 = .ok (.iload_n 1, 1) := by decide +kernel
theorem d_X8_wordAt_47 : decode prog_10_method_7_code 47 = .ok (.iaload, 1) := by decide +kernel
theorem d_X8_wordAt_48 : decode prog_10_method_7_code 48 = .ok (.invokestatic 84, 3) := by decide +kernel
theorem d_X8_wordAt_51 : decode prog_10_method_7_code 51 = .ok (.ifCond .eq 12, 3) := by decide +kernel
theorem d_X8_wordAt_54 : decode prog_10_method_7_code 54 = .ok (.aload_n 0, 1) := by decide +kernel
theorem d_X8_wordAt_55 : decode prog_10_method_7_code 55 = .ok (.getfield 9, 3) := by decide +kernel
theorem d_X8_wordAt_58 : decode prog_10_method_7_code 58 = .ok (.iload_n 1, 1) := by decide +kernel
theorem d_X8_wordAt_59 : decode prog_10_method_7_code 59 = .ok (.iaload, 1) := by decide +kernel
theorem d_X8_wordAt_60 : decode prog_10_method_7_code 60 = .ok (.goto 5, 3) := by decide +kernel
theorem d_X8_wordAt_63 : decode prog_10_method_7_code 63 = .ok (.bipush 18, 2) := by decide +kernel
theorem d_X8_wordAt_65 : decode prog_10_method_7_code 65 = .ok (.ireturn, 1) := by decide +kernel
theorem d_X8_isLetter_0 : decode prog_10_method_8_code 0 = .ok (.iload_n 0, 1) := by decide +kernel
theorem d_X8_isLetter_1 : decode prog_10_method_8_code 1 = .ok (.bipush 97, 2) := by decide +kernel
theorem d_X8_isLetter_3 : decode prog_10_method_8_code 3 = .ok (.if_icmp .lt 13, 3) := by decide +kernel
theorem d_X8_isLetter_6 : decode prog_10_method_8_code 6 = .ok (.iload_n 0, 1) := by decide +kernel
theorem d_X8_isLetter_7 : decode prog_10_method_8_code 7 = .ok (.bipush 122, 2) := by decide +kernel
theorem d_X8_isLetter_9 : decode prog_10_method_8_code 9 = .ok (.if_icmp .gt 7, 3) := by decide +kernel
theorem d_X8_isLetter_12 : decode prog_10_method_8_code 12 = .ok (.iconst 1, 1) := by decide +kernel
theorem d_X8_isLetter_13 : decode prog_10_method_8_code 13 = .ok (.goto 4, 3) := by decide +kernel
theorem d_X8_isLetter_16 : decode prog_10_method_8_code 16 = .ok (.iconst 0, 1) := by decide +kernel
theorem d_X8_isLetter_17 : decode prog_10_method_8_code 17 = .ok (.ireturn, 1) := by decide +kernel
theorem d_X8_isDigit_0 : decode prog_10_method_9_code 0 = .ok (.iload_n 0, 1) := by decide +kernel
theorem d_X8_isDigit_1 : decode prog_10_method_9_code 1 = .ok (.bipush 48, 2) := by decide +kernel
theorem d_X8_isDigit_3 : decode prog_10_method_9_code 3 = .ok (.if_icmp .lt 13, 3) := by decide +kernel
theorem d_X8_isDigit_6 : decode prog_10_method_9_code 6 = .ok (.iload_n 0, 1) := by decide +kernel
theorem d_X8_isDigit_7 : decode prog_10_method_9_code 7 = .ok (.bipush 57, 2) := by decide +kernel
theorem d_X8_isDigit_9 : decode prog_10_method_9_code 9 = .ok (.if_icmp .gt 7, 3) := by decide +kernel
theorem d_X8_isDigit_12 : decode prog_10_method_9_code 12 = .ok (.iconst 1, 1) := by decide +kernel
theorem d_X8_isDigit_13 : decode prog_10_method_9_code 13 = .ok (.goto 4, 3) := by decide +kernel
theorem d_X8_isDigit_16 : decode prog_10_method_9_code 16 = .ok (.iconst 0, 1) := by decide +kernel
theorem d_X8_isDigit_17 : decode prog_10_method_9_code 17 = .ok (.ireturn, 1) := by decide +kernel
theorem d_X8_isSign_0 : decode prog_10_method_10_code 0 = .ok (.iload_n 0, 1) := by decide +kernel
theorem d_X8_isSign_1 : decode prog_10_method_10_code 1 = .ok (.bipush 59, 2) := by decide +kernel
theorem d_X8_isSign_3 : decode prog_10_method_10_code 3 = .ok (.if_icmp .eq 33, 3) := by decide +kernel
theorem d_X8_isSign_6 : decode prog_10_method_10_code 6 = .ok (.iload_n 0, 1) := by decide +kernel
theorem d_X8_isSign_7 : decode prog_10_method_10_code 7 = .ok (.bipush 40, 2) := by decide +kernel
theorem d_X8_isSign_9 : decode prog_10_method_10_code 9 = .ok (.if_icmp .eq 27, 3) := by decide +kernel
theorem d_X8_isSign_12 : decode prog_10_method_10_code 12 = .ok (.iload_n 0, 1) := by decide +kernel
theorem d_X8_isSign_13 : decode prog_10_method_10_code 13 = .ok (.bipush 41, 2) := by decide +kernel
theorem d_X8_isSign_15 : decode prog_10_method_10_code 15 = .ok (.if_icmp .eq 21, 3) := by decide +kernel
theorem d_X8_isSign_18 : decode prog_10_method_10_code 18 = .ok (.iload_n 0, 1) := by decide +kernel
theorem d_X8_isSign_19 : decode prog_10_method_10_code 19 = .ok (.bipush 60, 2) := by decide +kernel
theorem d_X8_isSign_21 : decode prog_10_method_10_code 21 = .ok (.if_icmp .eq 15, 3) := by decide +kernel
theorem d_X8_isSign_24 : decode prog_10_method_10_code 24 = .ok (.iload_n 0, 1) := by decide +kernel
theorem d_X8_isSign_25 : decode prog_10_method_10_code 25 = .ok (.bipush 61, 2) := by decide +kernel
theorem d_X8_isSign_27 : decode prog_10_method_10_code 27 = .ok (.if_icmp .eq 9, 3) := by decide +kernel
theorem d_X8_isSign_30 : decode prog_10_method_10_code 30 = .ok (.iload_n 0, 1) := by decide +kernel
theorem d_X8_isSign_31 : decode prog_10_method_10_code 31 = .ok (.bipush 62, 2) := by decide +kernel
theorem d_X8_isSign_33 : decode prog_10_method_10_code 33 = .ok (.if_icmp .ne 7, 3) := by decide +kernel
theorem d_X8_isSign_36 : decode prog_10_method_10_code 36 = .ok (.iconst 1, 1) := by decide +kernel
theorem d_X8_isSign_37 : decode prog_10_method_10_code 37 = .ok (.goto 4, 3) := by decide +kernel
theorem d_X8_isSign_40 : decode prog_10_method_10_code 40 = .ok (.iconst 0, 1) := by decide +kernel
theorem d_X8_isSign_41 : decode prog_10_method_10_code 41 = .ok (.ireturn, 1) := by decide +kernel
theorem d_X8_numberAt_0 : decode prog_10_method_11_code 0 = .ok (.iload_n 2, 1) := by decide +kernel
theorem d_X8_numberAt_1 : decode prog_10_method_11_code 1 = .ok (.iconst 4, 1) := by decide +kernel
theorem d_X8_numberAt_2 : decode prog_10_method_11_code 2 = .ok (.if_icmp .le 6, 3) := by decide +kernel
theorem d_X8_numberAt_5 : decode prog_10_method_11_code 5 = .ok (.bipush 18, 2) := by decide +kernel
theorem d_X8_numberAt_7 : decode prog_10_method_11_code 7 = .ok (.ireturn, 1) := by decide +kernel
theorem d_X8_numberAt_8 : decode prog_10_method_11_code 8 = .ok (.iconst 0, 1) := by decide +kernel
theorem d_X8_numberAt_9 : decode prog_10_method_11_code 9 = .ok (.istore_n 3, 1) := by decide +kernel
theorem d_X8_numberAt_10 : decode prog_10_method_11_code 10 = .ok (.iconst 0, 1) := by decide +kernel
theorem d_X8_numberAt_11 : decode prog_10_method_11_code 11 = .ok (.istore 4, 2) := by decide +kernel
theorem d_X8_numberAt_13 : decode prog_10_method_11_code 13 = .ok (.iload 4, 2) := by decide +kernel
theorem d_X8_numberAt_15 : decode prog_10_method_11_code 15 = .ok (.iload_n 2, 1) := by decide +kernel
theorem d_X8_numberAt_16 : decode prog_10_method_11_code 16 = .ok (.if_icmp .ge 27, 3) := by decide +kernel
theorem d_X8_numberAt_19 : decode prog_10_method_11_code 19 = .ok (.bipush 10, 2) := by decide +kernel
theorem d_X8_numberAt_21 : decode prog_10_method_11_code 21 = .ok (.iload_n 3, 1) := by decide +kernel
theorem d_X8_numberAt_22 : decode prog_10_method_11_code 22 = .ok (.imul, 1) := by decide +kernel
theorem d_X8_numberAt_23 : decode prog_10_method_11_code 23 = .ok (.aload_n 0, 1) := by decide +kernel
theorem d_X8_numberAt_24 : decode prog_10_method_11_code 24 = .ok (.getfield 9, 3) := by decide +kernel
theorem d_X8_numberAt_27 : decode prog_10_method_11_code 27 = .ok (.iload_n 1, 1) := by decide +kernel
theorem d_X8_numberAt_28 : decode prog_10_method_11_code 28 = .ok (.iload 4, 2) := by decide +kernel
theorem d_X8_numberAt_30 : decode prog_10_method_11_code 30 = .ok (.iadd, 1) := by decide +kernel
theorem d_X8_numberAt_31 : decode prog_10_method_11_code 31 = .ok (.iaload, 1) := by decide +kernel
theorem d_X8_numberAt_32 : decode prog_10_method_11_code 32 = .ok (.iadd, 1) := by decide +kernel
theorem d_X8_numberAt_33 : decode prog_10_method_11_code 33 = .ok (.bipush 48, 2) := by decide +kernel
theorem d_X8_numberAt_35 : decode prog_10_method_11_code 35 = .ok (.isub, 1) := by decide +kernel
theorem d_X8_numberAt_36 : decode prog_10_method_11_code 36 = .ok (.istore_n 3, 1) := by decide +kernel
theorem d_X8_numberAt_37 : decode prog_10_method_11_code 37 = .ok (.iinc 4 1, 3) := by decide +kernel
theorem d_X8_numberAt_40 : decode prog_10_method_11_code 40 = .ok (.goto (-27), 3) := by decide +kernel
theorem d_X8_numberAt_43 : decode prog_10_method_11_code 43 = .ok (.sipush 1000, 3) := by decide +kernel
theorem d_X8_numberAt_46 : decode prog_10_method_11_code 46 = .ok (.iload_n 3, 1) := by decide +kernel
theorem d_X8_numberAt_47 : decode prog_10_method_11_code 47 = .ok (.iadd, 1) := by decide +kernel
theorem d_X8_numberAt_48 : decode prog_10_method_11_code 48 = .ok (.ireturn, 1) := by decide +kernel
theorem d_X8_nameAt_0 : decode prog_10_method_12_code 0 = .ok (.iconst 0, 1) := by decide +kernel
theorem d_X8_nameAt_1 : decode prog_10_method_12_code 1 = .ok (.istore_n 3, 1) := by decide +kernel
theorem d_X8_nameAt_2 : decode prog_10_method_12_code 2 = .ok (.iconst 0, 1) := by decide +kernel
theorem d_X8_nameAt_3 : decode prog_10_method_12_code 3 = .ok (.istore 4, 2) := by decide +kernel
theorem d_X8_nameAt_5 : decode prog_10_method_12_code 5 = .ok (.iconst 1, 1) := by decide +kernel
theorem d_X8_nameAt_6 : decode prog_10_method_12_code 6 = .ok (.istore 5, 2) := by decide +kernel
theorem d_X8_nameAt_8 : decode prog_10_method_12_code 8 = .ok (.iconst 0, 1) := by decide +kernel
theorem d_X8_nameAt_9 : decode prog_10_method_12_code 9 = .ok (.istore 6, 2) := by decide +kernel
theorem d_X8_nameAt_11 : decode prog_10_method_12_code 11 = .ok (.iload 6, 2) := by decide +kernel
theorem d_X8_nameAt_13 : decode prog_10_method_12_code 13 = .ok (.ldc 87, 2) := by decide +kernel
theorem d_X8_nameAt_15 : decode prog_10_method_12_code 15 = .ok (.invokevirtual 89, 3) := by decide +kernel
theorem d_X8_nameAt_18 : decode prog_10_method_12_code 18 = .ok (.if_icmp .ge 85, 3) := by decide +kernel
theorem d_X8_nameAt_21 : decode prog_10_method_12_code 21 = .ok (.ldc 87, 2) := by decide +kernel
theorem d_X8_nameAt_23 : decode prog_10_method_12_code 23 = .ok (.iload 6, 2) := by decide +kernel
theorem d_X8_nameAt_25 : decode prog_10_method_12_code 25 = .ok (.invokevirtual 94, 3) := by decide +kernel
theorem d_X8_nameAt_28 : decode prog_10_method_12_code 28 = .ok (.istore 7, 2) := by decide +kernel
theorem d_X8_nameAt_30 : decode prog_10_method_12_code 30 = .ok (.iload 7, 2) := by decide +kernel
theorem d_X8_nameAt_32 : decode prog_10_method_12_code 32 = .ok (.bipush 32, 2) := by decide +kernel
theorem d_X8_nameAt_34 : decode prog_10_method_12_code 34 = .ok (.if_icmp .eq 41, 3) := by decide +kernel
theorem d_X8_nameAt_37 : decode prog_10_method_12_code 37 = .ok (.iload 5, 2) := by decide +kernel
theorem d_X8_nameAt_39 : decode prog_10_method_12_code 39 = .ok (.ifCond .eq 27, 3) := by decide +kernel
theorem d_X8_nameAt_42 : decode prog_10_method_12_code 42 = .ok (.iload 4, 2) := by decide +kernel
theorem d_X8_nameAt_44 : decode prog_10_method_12_code 44 = .ok (.iload_n 2, 1) := by decide +kernel
theorem d_X8_nameAt_45 : decode prog_10_method_12_code 45 = .ok (.if_icmp .ge 21, 3) := by decide +kernel
theorem d_X8_nameAt_48 : decode prog_10_method_12_code 48 = .ok (.aload_n 0, 1) := by decide +kernel
theorem d_X8_nameAt_49 : decode prog_10_method_12_code 49 = .ok (.getfield 9, 3) := by decide +kernel
theorem d_X8_nameAt_52 : decode prog_10_method_12_code 52 = .ok (.iload_n 1, 1) := by decide +kernel
theorem d_X8_nameAt_53 : decode prog_10_method_12_code 53 = .ok (.iload 4, 2) := by decide +kernel
theorem d_X8_nameAt_55 : decode prog_10_method_12_code 55 = .ok (.iadd, 1) := by decide +kernel
theorem d_X8_nameAt_56 : decode prog_10_method_12_code 56 = .ok (.iaload, 1) := by decide +kernel
theorem d_X8_nameAt_57 : decode prog_10_method_12_code 57 = .ok (.iload 7, 2) := by decide +kernel
theorem d_X8_nameAt_59 : decode prog_10_method_12_code 59 = .ok (.if_icmp .ne 7, 3) := by decide +kernel
theorem d_X8_nameAt_62 : decode prog_10_method_12_code 62 = .ok (.iconst 1, 1) := by decide +kernel
theorem d_X8_nameAt_63 : decode prog_10_method_12_code 63 = .ok (.goto 4, 3) := by decide +kernel
theorem d_X8_nameAt_66 : decode prog_10_method_12_code 66 = .ok (.iconst 0, 1) := by decide +kernel
theorem d_X8_nameAt_67 : decode prog_10_method_12_code 67 = .ok (.istore 5, 2) := by decide +kernel
theorem d_X8_nameAt_69 : decode prog_10_method_12_code 69 = .ok (.iinc 4 1, 3) := by decide +kernel
theorem d_X8_nameAt_72 : decode prog_10_method_12_code 72 = .ok (.goto 25, 3) := by decide +kernel
theorem d_X8_nameAt_75 : decode prog_10_method_12_code 75 = .ok (.iload 5, 2) := by decide +kernel
theorem d_X8_nameAt_77 : decode prog_10_method_12_code 77 = .ok (.ifCond .eq 11, 3) := by decide +kernel
theorem d_X8_nameAt_80 : decode prog_10_method_12_code 80 = .ok (.iload 4, 2) := by decide +kernel
theorem d_X8_nameAt_82 : decode prog_10_method_12_code 82 = .ok (.iload_n 2, 1) := by decide +kernel
theorem d_X8_nameAt_83 : decode prog_10_method_12_code 83 = .ok (.if_icmp .ne 5, 3) := by decide +kernel
theorem d_X8_nameAt_86 : decode prog_10_method_12_code 86 = .ok (.iload_n 3, 1) := by decide +kernel
theorem d_X8_nameAt_87 : decode prog_10_method_12_code 87 = .ok (.ireturn, 1) := by decide +kernel
theorem d_X8_nameAt_88 : decode prog_10_method_12_code 88 = .ok (.iinc 3 1, 3) := by decide +kernel
theorem d_X8_nameAt_91 : decode prog_10_method_12_code 91 = .ok (.iconst 0, 1) := by decide +kernel
theorem d_X8_nameAt_92 : decode prog_10_method_12_code 92 = .ok (.istore 4, 2) := by decide +kernel
theorem d_X8_nameAt_94 : decode prog_10_method_12_code 94 = .ok (.iconst 1, 1) := by decide +kernel
theorem d_X8_nameAt_95 : decode prog_10_method_12_code 95 = .ok (.istore 5, 2) := by decide +kernel
theorem d_X8_nameAt_97 : decode prog_10_method_12_code 97 = .ok (.iinc 6 1, 3) := by decide +kernel
theorem d_X8_nameAt_100 : decode prog_10_method_12_code 100 = .ok (.goto (-89), 3) := by decide +kernel
theorem d_X8_nameAt_103 : decode prog_10_method_12_code 103 = .ok (.bipush 18, 2) := by decide +kernel
theorem d_X8_nameAt_105 : decode prog_10_method_12_code 105 = .ok (.ireturn, 1) := by decide +kernel
theorem d_X8_step_0 : decode prog_10_method_13_code 0 = .ok (.aload_n 0, 1) := by decide +kernel
theorem d_X8_step_1 : decode prog_10_method_13_code 1 = .ok (.getfield 36, 3) := by decide +kernel
theorem d_X8_step_4 : decode prog_10_method_13_code 4 = .ok (.bipush 19, 2) := by decide +kernel
theorem d_X8_step_6 : decode prog_10_method_13_code 6 = .ok (.if_icmp .ne 4, 3) := by decide +kernel
theorem d_X8_step_9 : decode prog_10_method_13_code 9 = .ok (.return_, 1) := by decide +kernel
theorem d_X8_step_10 : decode prog_10_method_13_code 10 = .ok (.aload_n 0, 1) := by decide +kernel
theorem d_X8_step_11 : decode prog_10_method_13_code 11 = .ok (.dup, 1) := by decide +kernel
theorem d_X8_step_12 : decode prog_10_method_13_code 12 = .ok (.getfield 33, 3) := by decide +kernel
theorem d_X8_step_15 : decode prog_10_method_13_code 15 = .ok (.iconst 1, 1) := by decide +kernel
theorem d_X8_step_16 : decode prog_10_method_13_code 16 = .ok (.iadd, 1) := by decide +kernel
theorem d_X8_step_17 : decode prog_10_method_13_code 17 = .ok (.putfield 33, 3) := by decide +kernel
theorem d_X8_step_20 : decode prog_10_method_13_code 20 = .ok (.aload_n 0, 1) := by decide +kernel
theorem d_X8_step_21 : decode prog_10_method_13_code 21 = .ok (.aload_n 0, 1) := by decide +kernel
theorem d_X8_step_22 : decode prog_10_method_13_code 22 = .ok (.getfield 15, 3) := by decide +kernel
theorem d_X8_step_25 : decode prog_10_method_13_code 25 = .ok (.aload_n 0, 1) := by decide +kernel
theorem d_X8_step_26 : decode prog_10_method_13_code 26 = .ok (.getfield 33, 3) := by decide +kernel
theorem d_X8_step_29 : decode prog_10_method_13_code 29 = .ok (.iaload, 1) := by decide +kernel
theorem d_X8_step_30 : decode prog_10_method_13_code 30 = .ok (.putfield 36, 3) := by decide +kernel
theorem d_X8_step_33 : decode prog_10_method_13_code 33 = .ok (.return_, 1) := by decide +kernel
theorem d_X8_fail_0 : decode prog_10_method_14_code 0 = .ok (.aload_n 0, 1) := by decide +kernel
theorem d_X8_fail_1 : decode prog_10_method_14_code 1 = .ok (.getfield 39, 3) := by decide +kernel
theorem d_X8_fail_4 : decode prog_10_method_14_code 4 = .ok (.iconst (-1), 1) := by decide +kernel
theorem d_X8_fail_5 : decode prog_10_method_14_code 5 = .ok (.if_icmp .ne 16, 3) := by decide +kernel
theorem d_X8_fail_8 : decode prog_10_method_14_code 8 = .ok (.aload_n 0, 1) := by decide +kernel
theorem d_X8_fail_9 : decode prog_10_method_14_code 9 = .ok (.aload_n 0, 1) := by decide +kernel
theorem d_X8_fail_10 : decode prog_10_method_14_code 10 = .ok (.getfield 18, 3) := by decide +kernel
theorem d_X8_fail_13 : decode prog_10_method_14_code 13 = .ok (.aload_n 0, 1) := by decide +kernel
theorem d_X8_fail_14 : decode prog_10_method_14_code 14 = .ok (.getfield 33, 3) := by decide +kernel
theorem d_X8_fail_17 : decode prog_10_method_14_code 17 = .ok (.iaload, 1) := by decide +kernel
theorem d_X8_fail_18 : decode prog_10_method_14_code 18 = .ok (.putfield 39, 3) := by decide +kernel
theorem d_X8_fail_21 : decode prog_10_method_14_code 21 = .ok (.return_, 1) := by decide +kernel
theorem d_X8_expect_0 : decode prog_10_method_15_code 0 = .ok (.aload_n 0, 1) := by decide +kernel
theorem d_X8_expect_1 : decode prog_10_method_15_code 1 = .ok (.getfield 36, 3) := by decide +kernel
theorem d_X8_expect_4 : decode prog_10_method_15_code 4 = .ok (.iload_n 1, 1) := by decide +kernel
theorem d_X8_expect_5 : decode prog_10_method_15_code 5 = .ok (.if_icmp .eq 7, 3) := by decide +kernel
theorem d_X8_expect_8 : decode prog_10_method_15_code 8 = .ok (.aload_n 0, 1) := by decide +kernel
theorem d_X8_expect_9 : decode prog_10_method_15_code 9 = .ok (.invokevirtual 48, 3) := by decide +kernel
theorem d_X8_expect_12 : decode prog_10_method_15_code 12 = .ok (.aload_n 0, 1) := by decide +kernel
theorem d_X8_expect_13 : decode prog_10_method_15_code 13 = .ok (.invokevirtual 98, 3) := by decide +kernel
theorem d_X8_expect_16 : decode prog_10_method_15_code 16 = .ok (.return_, 1) := by decide +kernel
theorem d_X8_emit_0 : decode prog_10_method_16_code 0 = .ok (.aload_n 0, 1) := by decide +kernel
theorem d_X8_emit_1 : decode prog_10_method_16_code 1 = .ok (.getfield 42, 3) := by decide +kernel
theorem d_X8_emit_4 : decode prog_10_method_16_code 4 = .ok (.aload_n 0, 1) := by decide +kernel
theorem d_X8_emit_5 : decode prog_10_method_16_code 5 = .ok (.getfield 23, 3) := by decide +kernel
theorem d_X8_emit_8 : decode prog_10_method_16_code 8 = .ok (.arraylength, 1) := by decide +kernel
theorem d_X8_emit_9 : decode prog_10_method_16_code 9 = .ok (.if_icmp .lt 4, 3) := by decide +kernel
theorem d_X8_emit_12 : decode prog_10_method_16_code 12 = .ok (.return_, 1) := by decide +kernel
theorem d_X8_emit_13 : decode prog_10_method_16_code 13 = .ok (.aload_n 0, 1) := by decide +kernel
theorem d_X8_emit_14 : decode prog_10_method_16_code 14 = .ok (.getfield 23, 3) := by decide +kernel
theorem d_X8_emit_17 : decode prog_10_method_16_code 17 = .ok (.aload_n 0, 1) := by decide +kernel
theorem d_X8_emit_18 : decode prog_10_method_16_code 18 = .ok (.getfield 42, 3) := by decide +kernel
theorem d_X8_emit_21 : decode prog_10_method_16_code 21 = .ok (.iload_n 1, 1) := by decide +kernel
theorem d_X8_emit_22 : decode prog_10_method_16_code 22 = .ok (.iastore, 1) := by decide +kernel
theorem d_X8_emit_23 : decode prog_10_method_16_code 23 = .ok (.aload_n 0, 1) := by decide +kernel
theorem d_X8_emit_24 : decode prog_10_method_16_code 24 = .ok (.dup, 1) := by decide +kernel
theorem d_X8_emit_25 : decode prog_10_method_16_code 25 = .ok (.getfield 42, 3) := by decide +kernel
theorem d_X8_emit_28 : decode prog_10_method_16_code 28 = .ok (.iconst 1, 1) := by decide +kernel
theorem d_X8_emit_29 : decode prog_10_method_16_code 29 = .ok (.iadd, 1) := by decide +kernel
theorem d_X8_emit_30 : decode prog_10_method_16_code 30 = .ok (.putfield 42, 3) := by decide +kernel
theorem d_X8_emit_33 : decode prog_10_method_16_code 33 = .ok (.return_, 1) := by decide +kernel
theorem d_X8_readRule_0 : decode prog_10_method_17_code 0 = .ok (.aload_n 0, 1) := by decide +kernel
theorem d_X8_readRule_1 : decode prog_10_method_17_code 1 = .ok (.getfield 42, 3) := by decide +kernel
theorem d_X8_readRule_4 : decode prog_10_method_17_code 4 = .ok (.istore_n 1, 1) := by decide +kernel
theorem d_X8_readRule_5 : decode prog_10_method_17_code 5 = .ok (.iconst 0, 1) := by decide +kernel
theorem d_X8_readRule_6 : decode prog_10_method_17_code 6 = .ok (.istore_n 2, 1) := by decide +kernel
theorem d_X8_readRule_7 : decode prog_10_method_17_code 7 = .ok (.iload_n 2, 1) := by decide +kernel
theorem d_X8_readRule_8 : decode prog_10_method_17_code 8 = .ok (.iconst 4, 1) := by decide +kernel
theorem d_X8_readRule_9 : decode prog_10_method_17_code 9 = .ok (.if_icmp .ge 14, 3) := by decide +kernel
theorem d_X8_readRule_12 : decode prog_10_method_17_code 12 = .ok (.aload_n 0, 1) := by decide +kernel
theorem d_X8_readRule_13 : decode prog_10_method_17_code 13 = .ok (.iconst 0, 1) := by decide +kernel
theorem d_X8_readRule_14 : decode prog_10_method_17_code 14 = .ok (.invokevirtual 101, 3) := by decide +kernel
theorem d_X8_readRule_17 : decode prog_10_method_17_code 17 = .ok (.iinc 2 1, 3) := by decide +kernel
theorem d_X8_readRule_20 : decode prog_10_method_17_code 20 = .ok (.goto (-13), 3) := by decide +kernel
theorem d_X8_readRule_23 : decode prog_10_method_17_code 23 = .ok (.aload_n 0, 1) := by decide +kernel
theorem d_X8_readRule_24 : decode prog_10_method_17_code 24 = .ok (.getfield 36, 3) := by decide +kernel
theorem d_X8_readRule_27 : decode prog_10_method_17_code 27 = .ok (.iconst 0, 1) := by decide +kernel
theorem d_X8_readRule_28 : decode prog_10_method_17_code 28 = .ok (.iconst 5, 1) := by decide +kernel
theorem d_X8_readRule_29 : decode prog_10_method_17_code 29 = .ok (.invokestatic 105, 3) := by decide +kernel
theorem d_X8_readRule_32 : decode prog_10_method_17_code 32 = .ok (.ifCond .ne 7, 3) := by decide +kernel
theorem d_X8_readRule_35 : decode prog_10_method_17_code 35 = .ok (.aload_n 0, 1) := by decide +kernel
theorem d_X8_readRule_36 : decode prog_10_method_17_code 36 = .ok (.invokevirtual 48, 3) := by decide +kernel
theorem d_X8_readRule_39 : decode prog_10_method_17_code 39 = .ok (.aload_n 0, 1) := by decide +kernel
theorem d_X8_readRule_40 : decode prog_10_method_17_code 40 = .ok (.getfield 23, 3) := by decide +kernel
theorem d_X8_readRule_43 : decode prog_10_method_17_code 43 = .ok (.iload_n 1, 1) := by decide +kernel
theorem d_X8_readRule_44 : decode prog_10_method_17_code 44 = .ok (.aload_n 0, 1) := by decide +kernel
theorem d_X8_readRule_45 : decode prog_10_method_17_code 45 = .ok (.getfield 36, 3) := by decide +kernel
theorem d_X8_readRule_48 : decode prog_10_method_17_code 48 = .ok (.iastore, 1) := by decide +kernel
theorem d_X8_readRule_49 : decode prog_10_method_17_code 49 = .ok (.aload_n 0, 1) := by decide +kernel
theorem d_X8_readRule_50 : decode prog_10_method_17_code 50 = .ok (.invokevirtual 98, 3) := by decide +kernel
theorem d_X8_readRule_53 : decode prog_10_method_17_code 53 = .ok (.aload_n 0, 1) := by decide +kernel
theorem d_X8_readRule_54 : decode prog_10_method_17_code 54 = .ok (.getfield 36, 3) := by decide +kernel
theorem d_X8_readRule_57 : decode prog_10_method_17_code 57 = .ok (.bipush 6, 2) := by decide +kernel
theorem d_X8_readRule_59 : decode prog_10_method_17_code 59 = .ok (.if_icmp .ne 12, 3) := by decide +kernel
theorem d_X8_readRule_62 : decode prog_10_method_17_code 62 = .ok (.aload_n 0, 1) := by decide +kernel
theorem d_X8_readRule_63 : decode prog_10_method_17_code 63 = .ok (.invokevirtual 98, 3) := by decide +kernel
theorem d_X8_readRule_66 : decode prog_10_method_17_code 66 = .ok (.aload_n 0, 1) := by decide +kernel
theorem d_X8_readRule_67 : decode prog_10_method_17_code 67 = .ok (.iconst 0, 1) := by decide +kernel
theorem d_X8_readRule_68 : decode prog_10_method_17_code 68 = .ok (.invokevirtual 109, 3) := by decide +kernel
theorem d_X8_readRule_71 : decode prog_10_method_17_code 71 = .ok (.aload_n 0, 1) := by decide +kernel
theorem d_X8_readRule_72 : decode prog_10_method_17_code 72 = .ok (.getfield 23, 3) := by decide +kernel
theorem d_X8_readRule_75 : decode prog_10_method_17_code 75 = .ok (.iload_n 1, 1) := by decide +kernel
theorem d_X8_readRule_76 : decode prog_10_method_17_code 76 = .ok (.iconst 3, 1) := by decide +kernel
theorem d_X8_readRule_77 : decode prog_10_method_17_code 77 = .ok (.iadd, 1) := by decide +kernel
theorem d_X8_readRule_78 : decode prog_10_method_17_code 78 = .ok (.aload_n 0, 1) := by decide +kernel
theorem d_X8_readRule_79 : decode prog_10_method_17_code 79 = .ok (.getfield 42, 3) := by decide +kernel
theorem d_X8_readRule_82 : decode prog_10_method_17_code 82 = .ok (.iload_n 1, 1) := by decide +kernel
theorem d_X8_readRule_83 : decode prog_10_method_17_code 83 = .ok (.isub, 1) := by decide +kernel
theorem d_X8_readRule_84 : decode prog_10_method_17_code 84 = .ok (.iconst 4, 1) := by decide +kernel
theorem d_X8_readRule_85 : decode prog_10_method_17_code 85 = .ok (.isub, 1) := by decide +kernel
theorem d_X8_readRule_86 : decode prog_10_method_17_code 86 = .ok (.iastore, 1) := by decide +kernel
theorem d_X8_readRule_87 : decode prog_10_method_17_code 87 = .ok (.aload_n 0, 1) := by decide +kernel
theorem d_X8_readRule_88 : decode prog_10_method_17_code 88 = .ok (.iload_n 1, 1) := by decide +kernel
theorem d_X8_readRule_89 : decode prog_10_method_17_code 89 = .ok (.invokevirtual 112, 3) := by decide +kernel
theorem d_X8_readRule_92 : decode prog_10_method_17_code 92 = .ok (.aload_n 0, 1) := by decide +kernel
theorem d_X8_readRule_93 : decode prog_10_method_17_code 93 = .ok (.bipush 59, 2) := by decide +kernel
theorem d_X8_readRule_95 : decode prog_10_method_17_code 95 = .ok (.invokevirtual 115, 3) := by decide +kernel
theorem d_X8_readRule_98 : decode prog_10_method_17_code 98 = .ok (.return_, 1) := by decide +kernel
theorem d_X8_readDoing_0 : decode prog_10_method_18_code 0 = .ok (.aload_n 0, 1) := by decide +kernel
theorem d_X8_readDoing_1 : decode prog_10_method_18_code 1 = .ok (.getfield 36, 3) := by decide +kernel
theorem d_X8_readDoing_4 : decode prog_10_method_18_code 4 = .ok (.tableswitch 64 7 9 #[28, 40, 52], 28) := by decide +kernel
theorem d_X8_readDoing_32 : decode prog_10_method_18_code 32 = .ok (.aload_n 0, 1) := by decide +kernel
theorem d_X8_readDoing_33 : decode prog_10_method_18_code 33 = .ok (.getfield 23, 3) := by decide +kernel
theorem d_X8_readDoing_36 : decode prog_10_method_18_code 36 = .ok (.iload_n 1, 1) := by decide +kernel
theorem d_X8_readDoing_37 : decode prog_10_method_18_code 37 = .ok (.iconst 1, 1) := by decide +kernel
theorem d_X8_readDoing_38 : decode prog_10_method_18_code 38 = .ok (.iadd, 1) := by decide +kernel
theorem d_X8_readDoing_39 : decode prog_10_method_18_code 39 = .ok (.iconst 0, 1) := by decide +kernel
theorem d_X8_readDoing_40 : decode prog_10_method_18_code 40 = .ok (.iastore, 1) := by decide +kernel
theorem d_X8_readDoing_41 : decode prog_10_method_18_code 41 = .ok (.goto 31, 3) := by decide +kernel
theorem d_X8_readDoing_44 : decode prog_10_method_18_code 44 = .ok (.aload_n 0, 1) := by decide +kernel
theorem d_X8_readDoing_45 : decode prog_10_method_18_code 45 = .ok (.getfield 23, 3) := by decide +kernel
theorem d_X8_readDoing_48 : decode prog_10_method_18_code 48 = .ok (.iload_n 1, 1) := by decide +kernel
theorem d_X8_readDoing_49 : decode prog_10_method_18_code 49 = .ok (.iconst 1, 1) := by decide +kernel
theorem d_X8_readDoing_50 : decode prog_10_method_18_code 50 = .ok (.iadd, 1) := by decide +kernel
theorem d_X8_readDoing_51 : decode prog_10_method_18_code 51 = .ok (.iconst 1, 1) := by decide +kernel
theorem d_X8_readDoing_52 : decode prog_10_method_18_code 52 = .ok (.iastore, 1) := by decide +kernel
theorem d_X8_readDoing_53 : decode prog_10_method_18_code 53 = .ok (.goto 19, 3) := by decide +kernel
theorem d_X8_readDoing_56 : decode prog_10_method_18_code 56 = .ok (.aload_n 0, 1) := by decide +kernel
theorem d_X8_readDoing_57 : decode prog_10_method_18_code 57 = .ok (.getfield 23, 3) := by decide +kernel
theorem d_X8_readDoing_60 : decode prog_10_method_18_code 60 = .ok (.iload_n 1, 1) := by decide +kernel
theorem d_X8_readDoing_61 : decode prog_10_method_18_code 61 = .ok (.iconst 1, 1) := by decide +kernel
theorem d_X8_readDoing_62 : decode prog_10_method_18_code 62 = .ok (.iadd, 1) := by decide +kernel
theorem d_X8_readDoing_63 : decode prog_10_method_18_code 63 = .ok (.iconst 2, 1) := by decide +kernel
theorem d_X8_readDoing_64 : decode prog_10_method_18_code 64 = .ok (.iastore, 1) := by decide +kernel
theorem d_X8_readDoing_65 : decode prog_10_method_18_code 65 = .ok (.goto 7, 3) := by decide +kernel
theorem d_X8_readDoing_68 : decode prog_10_method_18_code 68 = .ok (.aload_n 0, 1) := by decide +kernel
theorem d_X8_readDoing_69 : decode prog_10_method_18_code 69 = .ok (.invokevirtual 48, 3) := by decide +kernel
theorem d_X8_readDoing_72 : decode prog_10_method_18_code 72 = .ok (.aload_n 0, 1) := by decide +kernel
theorem d_X8_readDoing_73 : decode prog_10_method_18_code 73 = .ok (.getfield 36, 3) := by decide +kernel
theorem d_X8_readDoing_76 : decode prog_10_method_18_code 76 = .ok (.bipush 9, 2) := by decide +kernel
theorem d_X8_readDoing_78 : decode prog_10_method_18_code 78 = .ok (.if_icmp .eq 7, 3) := by decide +kernel
theorem d_X8_readDoing_81 : decode prog_10_method_18_code 81 = .ok (.iconst 1, 1) := by decide +kernel
theorem d_X8_readDoing_82 : decode prog_10_method_18_code 82 = .ok (.goto 4, 3) := by decide +kernel
theorem d_X8_readDoing_85 : decode prog_10_method_18_code 85 = .ok (.iconst 0, 1) := by decide +kernel
theorem d_X8_readDoing_86 : decode prog_10_method_18_code 86 = .ok (.istore_n 2, 1) := by decide +kernel
theorem d_X8_readDoing_87 : decode prog_10_method_18_code 87 = .ok (.aload_n 0, 1) := by decide +kernel
theorem d_X8_readDoing_88 : decode prog_10_method_18_code 88 = .ok (.invokevirtual 98, 3) := by decide +kernel
theorem d_X8_readDoing_91 : decode prog_10_method_18_code 91 = .ok (.iload_n 2, 1) := by decide +kernel
theorem d_X8_readDoing_92 : decode prog_10_method_18_code 92 = .ok (.ifCond .ne 4, 3) := by decide +kernel
theorem d_X8_readDoing_95 : decode prog_10_method_18_code 95 = .ok (.return_, 1) := by decide +kernel
theorem d_X8_readDoing_96 : decode prog_10_method_18_code 96 = .ok (.aload_n 0, 1) := by decide +kernel
theorem d_X8_readDoing_97 : decode prog_10_method_18_code 97 = .ok (.getfield 36, 3) := by decide +kernel
theorem d_X8_readDoing_100 : decode prog_10_method_18_code 100 = .ok (.sipush 1000, 3) := by decide +kernel
theorem d_X8_readDoing_103 : decode prog_10_method_18_code 103 = .ok (.sipush 1099, 3) := by decide +kernel
theorem d_X8_readDoing_106 : decode prog_10_method_18_code 106 = .ok (.invokestatic 105, 3) := by decide +kernel
theorem d_X8_readDoing_109 : decode prog_10_method_18_code 109 = .ok (.ifCond .ne 7, 3) := by decide +kernel
theorem d_X8_readDoing_112 : decode prog_10_method_18_code 112 = .ok (.aload_n 0, 1) := by decide +kernel
theorem d_X8_readDoing_113 : decode prog_10_method_18_code 113 = .ok (.invokevirtual 48, 3) := by decide +kernel
theorem d_X8_readDoing_116 : decode prog_10_method_18_code 116 = .ok (.aload_n 0, 1) := by decide +kernel
theorem d_X8_readDoing_117 : decode prog_10_method_18_code 117 = .ok (.getfield 23, 3) := by decide +kernel
theorem d_X8_readDoing_120 : decode prog_10_method_18_code 120 = .ok (.iload_n 1, 1) := by decide +kernel
theorem d_X8_readDoing_121 : decode prog_10_method_18_code 121 = .ok (.iconst 2, 1) := by decide +kernel
theorem d_X8_readDoing_122 : decode prog_10_method_18_code 122 = .ok (.iadd, 1) := by decide +kernel
theorem d_X8_readDoing_123 : decode prog_10_method_18_code 123 = .ok (.aload_n 0, 1) := by decide +kernel
theorem d_X8_readDoing_124 : decode prog_10_method_18_code 124 = .ok (.getfield 36, 3) := by decide +kernel
theorem d_X8_readDoing_127 : decode prog_10_method_18_code 127 = .ok (.sipush 1000, 3) := by decide +kernel
theorem d_X8_readDoing_130 : decode prog_10_method_18_code 130 = .ok (.isub, 1) := by decide +kernel
theorem d_X8_readDoing_131 : decode prog_10_method_18_code 131 = .ok (.iastore, 1) := by decide +kernel
theorem d_X8_readDoing_132 : decode prog_10_method_18_code 132 = .ok (.aload_n 0, 1) := by decide +kernel
theorem d_X8_readDoing_133 : decode prog_10_method_18_code 133 = .ok (.invokevirtual 98, 3) := by decide +kernel
theorem d_X8_readDoing_136 : decode prog_10_method_18_code 136 = .ok (.return_, 1) := by decide +kernel
theorem d_X8_readCondition_0 : decode prog_10_method_19_code 0 = .ok (.aload_n 0, 1) := by decide +kernel
theorem d_X8_readCondition_1 : decode prog_10_method_19_code 1 = .ok (.iload_n 1, 1) := by decide +kernel
theorem d_X8_readCondition_2 : decode prog_10_method_19_code 2 = .ok (.invokevirtual 118, 3) := by decide +kernel
theorem d_X8_readCondition_5 : decode prog_10_method_19_code 5 = .ok (.iconst 0, 1) := by decide +kernel
theorem d_X8_readCondition_6 : decode prog_10_method_19_code 6 = .ok (.istore_n 2, 1) := by decide +kernel
theorem d_X8_readCondition_7 : decode prog_10_method_19_code 7 = .ok (.iload_n 2, 1) := by decide +kernel
theorem d_X8_readCondition_8 : decode prog_10_method_19_code 8 = .ok (.sipush 200, 3) := by decide +kernel
theorem d_X8_readCondition_11 : decode prog_10_method_19_code 11 = .ok (.if_icmp .ge 41, 3) := by decide +kernel
theorem d_X8_readCondition_14 : decode prog_10_method_19_code 14 = .ok (.aload_n 0, 1) := by decide +kernel
theorem d_X8_readCondition_15 : decode prog_10_method_19_code 15 = .ok (.getfield 36, 3) := by decide +kernel
theorem d_X8_readCondition_18 : decode prog_10_method_19_code 18 = .ok (.bipush 10, 2) := by decide +kernel
theorem d_X8_readCondition_20 : decode prog_10_method_19_code 20 = .ok (.if_icmp .ne 32, 3) := by decide +kernel
theorem d_X8_readCondition_23 : decode prog_10_method_19_code 23 = .ok (.aload_n 0, 1) := by decide +kernel
theorem d_X8_readCondition_24 : decode prog_10_method_19_code 24 = .ok (.getfield 39, 3) := by decide +kernel
theorem d_X8_readCondition_27 : decode prog_10_method_19_code 27 = .ok (.iconst (-1), 1) := by decide +kernel
theorem d_X8_readCondition_28 : decode prog_10_method_19_code 28 = .ok (.if_icmp .ne 24, 3) := by decide +kernel
theorem d_X8_readCondition_31 : decode prog_10_method_19_code 31 = .ok (.aload_n 0, 1) := by decide +kernel
theorem d_X8_readCondition_32 : decode prog_10_method_19_code 32 = .ok (.invokevirtual 98, 3) := by decide +kernel
theorem d_X8_readCondition_35 : decode prog_10_method_19_code 35 = .ok (.aload_n 0, 1) := by decide +kernel
theorem d_X8_readCondition_36 : decode prog_10_method_19_code 36 = .ok (.iload_n 1, 1) := by decide +kernel
theorem d_X8_readCondition_37 : decode prog_10_method_19_code 37 = .ok (.invokevirtual 118, 3) := by decide +kernel
theorem d_X8_readCondition_40 : decode prog_10_method_19_code 40 = .ok (.aload_n 0, 1) := by decide +kernel
theorem d_X8_readCondition_41 : decode prog_10_method_19_code 41 = .ok (.bipush (-3), 2) := by decide +kernel
theorem d_X8_readCondition_43 : decode prog_10_method_19_code 43 = .ok (.invokevirtual 101, 3) := by decide +kernel
theorem d_X8_readCondition_46 : decode prog_10_method_19_code 46 = .ok (.iinc 2 1, 3) := by decide +kernel
theorem d_X8_readCondition_49 : decode prog_10_method_19_code 49 = .ok (.goto (-42), 3) := by decide +kernel
theorem d_X8_readCondition_52 : decode prog_10_method_19_code 52 = .ok (.return_, 1) := by decide +kernel
theorem d_X8_readAll_0 : decode prog_10_method_20_code 0 = .ok (.aload_n 0, 1) := by decide +kernel
theorem d_X8_readAll_1 : decode prog_10_method_20_code 1 = .ok (.iload_n 1, 1) := by decide +kernel
theorem d_X8_readAll_2 : decode prog_10_method_20_code 2 = .ok (.invokevirtual 121, 3) := by decide +kernel
theorem d_X8_readAll_5 : decode prog_10_method_20_code 5 = .ok (.iconst 0, 1) := by decide +kernel
theorem d_X8_readAll_6 : decode prog_10_method_20_code 6 = .ok (.istore_n 2, 1) := by decide +kernel
theorem d_X8_readAll_7 : decode prog_10_method_20_code 7 = .ok (.iload_n 2, 1) := by decide +kernel
theorem d_X8_readAll_8 : decode prog_10_method_20_code 8 = .ok (.sipush 200, 3) := by decide +kernel
theorem d_X8_readAll_11 : decode prog_10_method_20_code 11 = .ok (.if_icmp .ge 41, 3) := by decide +kernel
theorem d_X8_readAll_14 : decode prog_10_method_20_code 14 = .ok (.aload_n 0, 1) := by decide +kernel
theorem d_X8_readAll_15 : decode prog_10_method_20_code 15 = .ok (.getfield 36, 3) := by decide +kernel
theorem d_X8_readAll_18 : decode prog_10_method_20_code 18 = .ok (.bipush 11, 2) := by decide +kernel
theorem d_X8_readAll_20 : decode prog_10_method_20_code 20 = .ok (.if_icmp .ne 32, 3) := by decide +kernel
theorem d_X8_readAll_23 : decode prog_10_method_20_code 23 = .ok (.aload_n 0, 1) := by decide +kernel
theorem d_X8_readAll_24 : decode prog_10_method_20_code 24 = .ok (.getfield 39, 3) := by decide +kernel
theorem d_X8_readAll_27 : decode prog_10_method_20_code 27 = .ok (.iconst (-1), 1) := by decide +kernel
theorem d_X8_readAll_28 : decode prog_10_method_20_code 28 = .ok (.if_icmp .ne 24, 3) := by decide +kernel
theorem d_X8_readAll_31 : decode prog_10_method_20_code 31 = .ok (.aload_n 0, 1) := by decide +kernel
theorem d_X8_readAll_32 : decode prog_10_method_20_code 32 = .ok (.invokevirtual 98, 3) := by decide +kernel
theorem d_X8_readAll_35 : decode prog_10_method_20_code 35 = .ok (.aload_n 0, 1) := by decide +kernel
theorem d_X8_readAll_36 : decode prog_10_method_20_code 36 = .ok (.iload_n 1, 1) := by decide +kernel
theorem d_X8_readAll_37 : decode prog_10_method_20_code 37 = .ok (.invokevirtual 121, 3) := by decide +kernel
theorem d_X8_readAll_40 : decode prog_10_method_20_code 40 = .ok (.aload_n 0, 1) := by decide +kernel
theorem d_X8_readAll_41 : decode prog_10_method_20_code 41 = .ok (.bipush (-2), 2) := by decide +kernel
theorem d_X8_readAll_43 : decode prog_10_method_20_code 43 = .ok (.invokevirtual 101, 3) := by decide +kernel
theorem d_X8_readAll_46 : decode prog_10_method_20_code 46 = .ok (.iinc 2 1, 3) := by decide +kernel
theorem d_X8_readAll_49 : decode prog_10_method_20_code 49 = .ok (.goto (-42), 3) := by decide +kernel
theorem d_X8_readAll_52 : decode prog_10_method_20_code 52 = .ok (.return_, 1) := by decide +kernel
theorem d_X8_readOne_0 : decode prog_10_method_21_code 0 = .ok (.iconst 0, 1) := by decide +kernel
theorem d_X8_readOne_1 : decode prog_10_method_21_code 1 = .ok (.istore_n 2, 1) := by decide +kernel
theorem d_X8_readOne_2 : decode prog_10_method_21_code 2 = .ok (.iconst 0, 1) := by decide +kernel
theorem d_X8_readOne_3 : decode prog_10_method_21_code 3 = .ok (.istore_n 3, 1) := by decide +kernel
theorem d_X8_readOne_4 : decode prog_10_method_21_code 4 = .ok (.iload_n 3, 1) := by decide +kernel
theorem d_X8_readOne_5 : decode prog_10_method_21_code 5 = .ok (.sipush 200, 3) := by decide +kernel
theorem d_X8_readOne_8 : decode prog_10_method_21_code 8 = .ok (.if_icmp .ge 32, 3) := by decide +kernel
theorem d_X8_readOne_11 : decode prog_10_method_21_code 11 = .ok (.aload_n 0, 1) := by decide +kernel
theorem d_X8_readOne_12 : decode prog_10_method_21_code 12 = .ok (.getfield 36, 3) := by decide +kernel
theorem d_X8_readOne_15 : decode prog_10_method_21_code 15 = .ok (.bipush 12, 2) := by decide +kernel
theorem d_X8_readOne_17 : decode prog_10_method_21_code 17 = .ok (.if_icmp .ne 23, 3) := by decide +kernel
theorem d_X8_readOne_20 : decode prog_10_method_21_code 20 = .ok (.iload_n 2, 1) := by decide +kernel
theorem d_X8_readOne_21 : decode prog_10_method_21_code 21 = .ok (.ifCond .ne 7, 3) := by decide +kernel
theorem d_X8_readOne_24 : decode prog_10_method_21_code 24 = .ok (.iconst 1, 1) := by decide +kernel
theorem d_X8_readOne_25 : decode prog_10_method_21_code 25 = .ok (.goto 4, 3) := by decide +kernel
theorem d_X8_readOne_28 : decode prog_10_method_21_code 28 = .ok (.iconst 0, 1) := by decide +kernel
theorem d_X8_readOne_29 : decode prog_10_method_21_code 29 = .ok (.istore_n 2, 1) := by decide +kernel
theorem d_X8_readOne_30 : decode prog_10_method_21_code 30 = .ok (.aload_n 0, 1) := by decide +kernel
theorem d_X8_readOne_31 : decode prog_10_method_21_code 31 = .ok (.invokevirtual 98, 3) := by decide +kernel
theorem d_X8_readOne_34 : decode prog_10_method_21_code 34 = .ok (.iinc 3 1, 3) := by decide +kernel
theorem d_X8_readOne_37 : decode prog_10_method_21_code 37 = .ok (.goto (-33), 3) := by decide +kernel
theorem d_X8_readOne_40 : decode prog_10_method_21_code 40 = .ok (.aload_n 0, 1) := by decide +kernel
theorem d_X8_readOne_41 : decode prog_10_method_21_code 41 = .ok (.getfield 36, 3) := by decide +kernel
theorem d_X8_readOne_44 : decode prog_10_method_21_code 44 = .ok (.bipush 40, 2) := by decide +kernel
theorem d_X8_readOne_46 : decode prog_10_method_21_code 46 = .ok (.if_icmp .eq 31, 3) := by decide +kernel
theorem d_X8_readOne_49 : decode prog_10_method_21_code 49 = .ok (.aload_n 0, 1) := by decide +kernel
theorem d_X8_readOne_50 : decode prog_10_method_21_code 50 = .ok (.invokevirtual 124, 3) := by decide +kernel
theorem d_X8_readOne_53 : decode prog_10_method_21_code 53 = .ok (.istore_n 3, 1) := by decide +kernel
theorem d_X8_readOne_54 : decode prog_10_method_21_code 54 = .ok (.aload_n 0, 1) := by decide +kernel
theorem d_X8_readOne_55 : decode prog_10_method_21_code 55 = .ok (.invokevirtual 127, 3) := by decide +kernel
theorem d_X8_readOne_58 : decode prog_10_method_21_code 58 = .ok (.istore 4, 2) := by decide +kernel
theorem d_X8_readOne_60 : decode prog_10_method_21_code 60 = .ok (.aload_n 0, 1) := by decide +kernel
theorem d_X8_readOne_61 : decode prog_10_method_21_code 61 = .ok (.iload_n 3, 1) := by decide +kernel
theorem d_X8_readOne_62 : decode prog_10_method_21_code 62 = .ok (.iload 4, 2) := by decide +kernel
theorem d_X8_readOne_64 : decode prog_10_method_21_code 64 = .ok (.aload_n 0, 1) := by decide +kernel
theorem d_X8_readOne_65 : decode prog_10_method_21_code 65 = .ok (.invokevirtual 124, 3) := by decide +kernel
theorem d_X8_readOne_68 : decode prog_10_method_21_code 68 = .ok (.invokestatic 130, 3) := by decide +kernel
theorem d_X8_readOne_71 : decode prog_10_method_21_code 71 = .ok (.invokevirtual 101, 3) := by decide +kernel
theorem d_X8_readOne_74 : decode prog_10_method_21_code 74 = .ok (.goto 32, 3) := by decide +kernel
theorem d_X8_readOne_77 : decode prog_10_method_21_code 77 = .ok (.iload_n 1, 1) := by decide +kernel
theorem d_X8_readOne_78 : decode prog_10_method_21_code 78 = .ok (.iconst 3, 1) := by decide +kernel
theorem d_X8_readOne_79 : decode prog_10_method_21_code 79 = .ok (.if_icmp .ge 23, 3) := by decide +kernel
theorem d_X8_readOne_82 : decode prog_10_method_21_code 82 = .ok (.aload_n 0, 1) := by decide +kernel
theorem d_X8_readOne_83 : decode prog_10_method_21_code 83 = .ok (.invokevirtual 98, 3) := by decide +kernel
theorem d_X8_readOne_86 : decode prog_10_method_21_code 86 = .ok (.aload_n 0, 1) := by decide +kernel
theorem d_X8_readOne_87 : decode prog_10_method_21_code 87 = .ok (.iload_n 1, 1) := by decide +kernel
theorem d_X8_readOne_88 : decode prog_10_method_21_code 88 = .ok (.iconst 1, 1) := by decide +kernel
theorem d_X8_readOne_89 : decode prog_10_method_21_code 89 = .ok (.iadd, 1) := by decide +kernel
theorem d_X8_readOne_90 : decode prog_10_method_21_code 90 = .ok (.invokevirtual 109, 3) := by decide +kernel
theorem d_X8_readOne_93 : decode prog_10_method_21_code 93 = .ok (.aload_n 0, 1) := by decide +kernel
theorem d_X8_readOne_94 : decode prog_10_method_21_code 94 = .ok (.bipush 41, 2) := by decide +kernel
theorem d_X8_readOne_96 : decode prog_10_method_21_code 96 = .ok (.invokevirtual 115, 3) := by decide +kernel
theorem d_X8_readOne_99 : decode prog_10_method_21_code 99 = .ok (.goto 7, 3) := by decide +kernel
theorem d_X8_readOne_102 : decode prog_10_method_21_code 102 = .ok (.aload_n 0, 1) := by decide +kernel
theorem d_X8_readOne_103 : decode prog_10_method_21_code 103 = .ok (.invokevirtual 48, 3) := by decide +kernel
theorem d_X8_readOne_106 : decode prog_10_method_21_code 106 = .ok (.iload_n 2, 1) := by decide +kernel
theorem d_X8_readOne_107 : decode prog_10_method_21_code 107 = .ok (.ifCond .eq 8, 3) := by decide +kernel
theorem d_X8_readOne_110 : decode prog_10_method_21_code 110 = .ok (.aload_n 0, 1) := by decide +kernel
theorem d_X8_readOne_111 : decode prog_10_method_21_code 111 = .ok (.iconst (-1), 1) := by decide +kernel
theorem d_X8_readOne_112 : decode prog_10_method_21_code 112 = .ok (.invokevirtual 101, 3) := by decide +kernel
theorem d_X8_readOne_115 : decode prog_10_method_21_code 115 = .ok (.return_, 1) := by decide +kernel
theorem d_X8_readSign_0 : decode prog_10_method_22_code 0 = .ok (.iconst 0, 1) := by decide +kernel
theorem d_X8_readSign_1 : decode prog_10_method_22_code 1 = .ok (.istore_n 1, 1) := by decide +kernel
theorem d_X8_readSign_2 : decode prog_10_method_22_code 2 = .ok (.aload_n 0, 1) := by decide +kernel
theorem d_X8_readSign_3 : decode prog_10_method_22_code 3 = .ok (.getfield 36, 3) := by decide +kernel
theorem d_X8_readSign_6 : decode prog_10_method_22_code 6 = .ok (.bipush 61, 2) := by decide +kernel
theorem d_X8_readSign_8 : decode prog_10_method_22_code 8 = .ok (.if_icmp .ne 8, 3) := by decide +kernel
theorem d_X8_readSign_11 : decode prog_10_method_22_code 11 = .ok (.iconst 1, 1) := by decide +kernel
theorem d_X8_readSign_12 : decode prog_10_method_22_code 12 = .ok (.istore_n 1, 1) := by decide +kernel
theorem d_X8_readSign_13 : decode prog_10_method_22_code 13 = .ok (.goto 30, 3) := by decide +kernel
theorem d_X8_readSign_16 : decode prog_10_method_22_code 16 = .ok (.aload_n 0, 1) := by decide +kernel
theorem d_X8_readSign_17 : decode prog_10_method_22_code 17 = .ok (.getfield 36, 3) := by decide +kernel
theorem d_X8_readSign_20 : decode prog_10_method_22_code 20 = .ok (.bipush 62, 2) := by decide +kernel
theorem d_X8_readSign_22 : decode prog_10_method_22_code 22 = .ok (.if_icmp .ne 8, 3) := by decide +kernel
theorem d_X8_readSign_25 : decode prog_10_method_22_code 25 = .ok (.iconst 2, 1) := by decide +kernel
theorem d_X8_readSign_26 : decode prog_10_method_22_code 26 = .ok (.istore_n 1, 1) := by decide +kernel
theorem d_X8_readSign_27 : decode prog_10_method_22_code 27 = .ok (.goto 16, 3) := by decide +kernel
theorem d_X8_readSign_30 : decode prog_10_method_22_code 30 = .ok (.aload_n 0, 1) := by decide +kernel
theorem d_X8_readSign_31 : decode prog_10_method_22_code 31 = .ok (.getfield 36, 3) := by decide +kernel
theorem d_X8_readSign_34 : decode prog_10_method_22_code 34 = .ok (.bipush 60, 2) := by decide +kernel
theorem d_X8_readSign_36 : decode prog_10_method_22_code 36 = .ok (.if_icmp .eq 7, 3) := by decide +kernel
theorem d_X8_readSign_39 : decode prog_10_method_22_code 39 = .ok (.aload_n 0, 1) := by decide +kernel
theorem d_X8_readSign_40 : decode prog_10_method_22_code 40 = .ok (.invokevirtual 48, 3) := by decide +kernel
theorem d_X8_readSign_43 : decode prog_10_method_22_code 43 = .ok (.aload_n 0, 1) := by decide +kernel
theorem d_X8_readSign_44 : decode prog_10_method_22_code 44 = .ok (.invokevirtual 98, 3) := by decide +kernel
theorem d_X8_readSign_47 : decode prog_10_method_22_code 47 = .ok (.iload_n 1, 1) := by decide +kernel
theorem d_X8_readSign_48 : decode prog_10_method_22_code 48 = .ok (.ireturn, 1) := by decide +kernel
theorem d_X8_readValue_0 : decode prog_10_method_23_code 0 = .ok (.iconst 0, 1) := by decide +kernel
theorem d_X8_readValue_1 : decode prog_10_method_23_code 1 = .ok (.istore_n 1, 1) := by decide +kernel
theorem d_X8_readValue_2 : decode prog_10_method_23_code 2 = .ok (.aload_n 0, 1) := by decide +kernel
theorem d_X8_readValue_3 : decode prog_10_method_23_code 3 = .ok (.getfield 36, 3) := by decide +kernel
theorem d_X8_readValue_6 : decode prog_10_method_23_code 6 = .ok (.sipush 1000, 3) := by decide +kernel
theorem d_X8_readValue_9 : decode prog_10_method_23_code 9 = .ok (.sipush 10999, 3) := by decide +kernel
theorem d_X8_readValue_12 : decode prog_10_method_23_code 12 = .ok (.invokestatic 105, 3) := by decide +kernel
theorem d_X8_readValue_15 : decode prog_10_method_23_code 15 = .ok (.ifCond .eq 15, 3) := by decide +kernel
theorem d_X8_readValue_18 : decode prog_10_method_23_code 18 = .ok (.aload_n 0, 1) := by decide +kernel
theorem d_X8_readValue_19 : decode prog_10_method_23_code 19 = .ok (.getfield 36, 3) := by decide +kernel
theorem d_X8_readValue_22 : decode prog_10_method_23_code 22 = .ok (.sipush 1000, 3) := by decide +kernel
theorem d_X8_readValue_25 : decode prog_10_method_23_code 25 = .ok (.isub, 1) := by decide +kernel
theorem d_X8_readValue_26 : decode prog_10_method_23_code 26 = .ok (.istore_n 1, 1) := by decide +kernel
theorem d_X8_readValue_27 : decode prog_10_method_23_code 27 = .ok (.goto 36, 3) := by decide +kernel
theorem d_X8_readValue_30 : decode prog_10_method_23_code 30 = .ok (.aload_n 0, 1) := by decide +kernel
theorem d_X8_readValue_31 : decode prog_10_method_23_code 31 = .ok (.getfield 36, 3) := by decide +kernel
theorem d_X8_readValue_34 : decode prog_10_method_23_code 34 = .ok (.bipush 13, 2) := by decide +kernel
theorem d_X8_readValue_36 : decode prog_10_method_23_code 36 = .ok (.bipush 17, 2) := by decide +kernel
theorem d_X8_readValue_38 : decode prog_10_method_23_code 38 = .ok (.invokestatic 105, 3) := by decide +kernel
theorem d_X8_readValue_41 : decode prog_10_method_23_code 41 = .ok (.ifCond .eq 18, 3) := by decide +kernel
theorem d_X8_readValue_44 : decode prog_10_method_23_code 44 = .ok (.sipush 10000, 3) := by decide +kernel
theorem d_X8_readValue_47 : decode prog_10_method_23_code 47 = .ok (.aload_n 0, 1) := by decide +kernel
theorem d_X8_readValue_48 : decode prog_10_method_23_code 48 = .ok (.getfield 36, 3) := by decide +kernel
theorem d_X8_readValue_51 : decode prog_10_method_23_code 51 = .ok (.iadd, 1) := by decide +kernel
theorem d_X8_readValue_52 : decode prog_10_method_23_code 52 = .ok (.bipush 13, 2) := by decide +kernel
theorem d_X8_readValue_54 : decode prog_10_method_23_code 54 = .ok (.isub, 1) := by decide +kernel
theorem d_X8_readValue_55 : decode prog_10_method_23_code 55 = .ok (.istore_n 1, 1) := by decide +kernel
theorem d_X8_readValue_56 : decode prog_10_method_23_code 56 = .ok (.goto 7, 3) := by decide +kernel
theorem d_X8_readValue_59 : decode prog_10_method_23_code 59 = .ok (.aload_n 0, 1) := by decide +kernel
theorem d_X8_readValue_60 : decode prog_10_method_23_code 60 = .ok (.invokevirtual 48, 3) := by decide +kernel
theorem d_X8_readValue_63 : decode prog_10_method_23_code 63 = .ok (.aload_n 0, 1) := by decide +kernel
theorem d_X8_readValue_64 : decode prog_10_method_23_code 64 = .ok (.invokevirtual 98, 3) := by decide +kernel
theorem d_X8_readValue_67 : decode prog_10_method_23_code 67 = .ok (.iload_n 1, 1) := by decide +kernel
theorem d_X8_readValue_68 : decode prog_10_method_23_code 68 = .ok (.ireturn, 1) := by decide +kernel
