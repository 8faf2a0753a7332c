theorem dL_cell_0 : decode cL_cell 0 = .ok (.iload_n 1, 1) := by decide +kernel
theorem dL_cell_1 : decode cL_cell 1 = .ok (.aload_n 0, 1) := by decide +kernel
theorem dL_cell_2 : decode cL_cell 2 = .ok (.arraylength, 1) := by decide +kernel
theorem dL_cell_3 : decode cL_cell 3 = .ok (.if_icmp .ge 9, 3) := by decide +kernel
theorem dL_cell_6 : decode cL_cell 6 = .ok (.aload_n 0, 1) := by decide +kernel
theorem dL_cell_7 : decode cL_cell 7 = .ok (.iload_n 1, 1) := by decide +kernel
theorem dL_cell_8 : decode cL_cell 8 = .ok (.iaload, 1) := by decide +kernel
theorem dL_cell_9 : decode cL_cell 9 = .ok (.goto 11, 3) := by decide +kernel
theorem dL_cell_12 : decode cL_cell 12 = .ok (.ldc 7, 2) := by decide +kernel
theorem dL_cell_14 : decode cL_cell 14 = .ok (.iload_n 1, 1) := by decide +kernel
theorem dL_cell_15 : decode cL_cell 15 = .ok (.sipush 239, 3) := by decide +kernel
theorem dL_cell_18 : decode cL_cell 18 = .ok (.iadd, 1) := by decide +kernel
theorem dL_cell_19 : decode cL_cell 19 = .ok (.imul, 1) := by decide +kernel
theorem dL_cell_20 : decode cL_cell 20 = .ok (.ireturn, 1) := by decide +kernel
theorem dL_up_0 : decode cL_up 0 = .ok (.iload_n 0, 1) := by decide +kernel
theorem dL_up_1 : decode cL_up 1 = .ok (.ldc 8, 2) := by decide +kernel
theorem dL_up_3 : decode cL_up 3 = .ok (.iand, 1) := by decide +kernel
theorem dL_up_4 : decode cL_up 4 = .ok (.iload_n 1, 1) := by decide +kernel
theorem dL_up_5 : decode cL_up 5 = .ok (.irem, 1) := by decide +kernel
theorem dL_up_6 : decode cL_up 6 = .ok (.ireturn, 1) := by decide +kernel
theorem dL_bits_0 : decode cL_bits 0 = .ok (.iconst 0, 1) := by decide +kernel
theorem dL_bits_1 : decode cL_bits 1 = .ok (.istore_n 1, 1) := by decide +kernel
theorem dL_bits_2 : decode cL_bits 2 = .ok (.iconst 0, 1) := by decide +kernel
theorem dL_bits_3 : decode cL_bits 3 = .ok (.istore_n 2, 1) := by decide +kernel
theorem dL_bits_4 : decode cL_bits 4 = .ok (.iload_n 2, 1) := by decide +kernel
theorem dL_bits_5 : decode cL_bits 5 = .ok (.bipush 6, 2) := by decide +kernel
theorem dL_bits_7 : decode cL_bits 7 = .ok (.if_icmp .ge 17, 3) := by decide +kernel
theorem dL_bits_10 : decode cL_bits 10 = .ok (.iload_n 1, 1) := by decide +kernel
theorem dL_bits_11 : decode cL_bits 11 = .ok (.iload_n 0, 1) := by decide +kernel
theorem dL_bits_12 : decode cL_bits 12 = .ok (.iload_n 2, 1) := by decide +kernel
theorem dL_bits_13 : decode cL_bits 13 = .ok (.ishr, 1) := by decide +kernel
theorem dL_bits_14 : decode cL_bits 14 = .ok (.iconst 1, 1) := by decide +kernel
theorem dL_bits_15 : decode cL_bits 15 = .ok (.iand, 1) := by decide +kernel
theorem dL_bits_16 : decode cL_bits 16 = .ok (.iadd, 1) := by decide +kernel
theorem dL_bits_17 : decode cL_bits 17 = .ok (.istore_n 1, 1) := by decide +kernel
theorem dL_bits_18 : decode cL_bits 18 = .ok (.iinc 2 1, 3) := by decide +kernel
theorem dL_bits_21 : decode cL_bits 21 = .ok (.goto (-17), 3) := by decide +kernel
theorem dL_bits_24 : decode cL_bits 24 = .ok (.iload_n 1, 1) := by decide +kernel
theorem dL_bits_25 : decode cL_bits 25 = .ok (.ireturn, 1) := by decide +kernel
theorem dL_looks_0 : decode cL_looks 0 = .ok (.ldc2_w 9, 3) := by decide +kernel
theorem dL_looks_3 : decode cL_looks 3 = .ok (.lstore_n 1, 1) := by decide +kernel
theorem dL_looks_4 : decode cL_looks 4 = .ok (.iconst 0, 1) := by decide +kernel
theorem dL_looks_5 : decode cL_looks 5 = .ok (.istore_n 3, 1) := by decide +kernel
theorem dL_looks_6 : decode cL_looks 6 = .ok (.iload_n 3, 1) := by decide +kernel
theorem dL_looks_7 : decode cL_looks 7 = .ok (.bipush 13, 2) := by decide +kernel
theorem dL_looks_9 : decode cL_looks 9 = .ok (.if_icmp .ge 22, 3) := by decide +kernel
theorem dL_looks_12 : decode cL_looks 12 = .ok (.ldc2_w 11, 3) := by decide +kernel
theorem dL_looks_15 : decode cL_looks 15 = .ok (.lload_n 1, 1) := by decide +kernel
theorem dL_looks_16 : decode cL_looks 16 = .ok (.lmul, 1) := by decide +kernel
theorem dL_looks_17 : decode cL_looks 17 = .ok (.aload_n 0, 1) := by decide +kernel
theorem dL_looks_18 : decode cL_looks 18 = .ok (.iload_n 3, 1) := by decide +kernel
theorem dL_looks_19 : decode cL_looks 19 = .ok (.invokevirtual 13, 3) := by decide +kernel
theorem dL_looks_22 : decode cL_looks 22 = .ok (.i2l, 1) := by decide +kernel
theorem dL_looks_23 : decode cL_looks 23 = .ok (.ladd, 1) := by decide +kernel
theorem dL_looks_24 : decode cL_looks 24 = .ok (.lstore_n 1, 1) := by decide +kernel
theorem dL_looks_25 : decode cL_looks 25 = .ok (.iinc 3 1, 3) := by decide +kernel
theorem dL_looks_28 : decode cL_looks 28 = .ok (.goto (-22), 3) := by decide +kernel
theorem dL_looks_31 : decode cL_looks 31 = .ok (.iconst 0, 1) := by decide +kernel
theorem dL_looks_32 : decode cL_looks 32 = .ok (.istore_n 3, 1) := by decide +kernel
theorem dL_looks_33 : decode cL_looks 33 = .ok (.iload_n 3, 1) := by decide +kernel
theorem dL_looks_34 : decode cL_looks 34 = .ok (.bipush 7, 2) := by decide +kernel
theorem dL_looks_36 : decode cL_looks 36 = .ok (.aload_n 0, 1) := by decide +kernel
theorem dL_looks_37 : decode cL_looks 37 = .ok (.iconst 0, 1) := by decide +kernel
theorem dL_looks_38 : decode cL_looks 38 = .ok (.invokevirtual 13, 3) := by decide +kernel
theorem dL_looks_41 : decode cL_looks 41 = .ok (.imul, 1) := by decide +kernel
theorem dL_looks_42 : decode cL_looks 42 = .ok (.if_icmp .ge 29, 3) := by decide +kernel
theorem dL_looks_45 : decode cL_looks 45 = .ok (.ldc2_w 11, 3) := by decide +kernel
theorem dL_looks_48 : decode cL_looks 48 = .ok (.lload_n 1, 1) := by decide +kernel
theorem dL_looks_49 : decode cL_looks 49 = .ok (.lmul, 1) := by decide +kernel
theorem dL_looks_50 : decode cL_looks 50 = .ok (.aload_n 0, 1) := by decide +kernel
theorem dL_looks_51 : decode cL_looks 51 = .ok (.iload_n 3, 1) := by decide +kernel
theorem dL_looks_52 : decode cL_looks 52 = .ok (.bipush 7, 2) := by decide +kernel
theorem dL_looks_54 : decode cL_looks 54 = .ok (.idiv, 1) := by decide +kernel
theorem dL_looks_55 : decode cL_looks 55 = .ok (.iload_n 3, 1) := by decide +kernel
theorem dL_looks_56 : decode cL_looks 56 = .ok (.bipush 7, 2) := by decide +kernel
theorem dL_looks_58 : decode cL_looks 58 = .ok (.irem, 1) := by decide +kernel
theorem dL_looks_59 : decode cL_looks 59 = .ok (.invokevirtual 19, 3) := by decide +kernel
theorem dL_looks_62 : decode cL_looks 62 = .ok (.i2l, 1) := by decide +kernel
theorem dL_looks_63 : decode cL_looks 63 = .ok (.ladd, 1) := by decide +kernel
theorem dL_looks_64 : decode cL_looks 64 = .ok (.lstore_n 1, 1) := by decide +kernel
theorem dL_looks_65 : decode cL_looks 65 = .ok (.iinc 3 1, 3) := by decide +kernel
theorem dL_looks_68 : decode cL_looks 68 = .ok (.goto (-35), 3) := by decide +kernel
theorem dL_looks_71 : decode cL_looks 71 = .ok (.iconst 0, 1) := by decide +kernel
theorem dL_looks_72 : decode cL_looks 72 = .ok (.istore_n 3, 1) := by decide +kernel
theorem dL_looks_73 : decode cL_looks 73 = .ok (.iload_n 3, 1) := by decide +kernel
theorem dL_looks_74 : decode cL_looks 74 = .ok (.iconst 5, 1) := by decide +kernel
theorem dL_looks_75 : decode cL_looks 75 = .ok (.aload_n 0, 1) := by decide +kernel
theorem dL_looks_76 : decode cL_looks 76 = .ok (.iconst 1, 1) := by decide +kernel
theorem dL_looks_77 : decode cL_looks 77 = .ok (.invokevirtual 13, 3) := by decide +kernel
theorem dL_looks_80 : decode cL_looks 80 = .ok (.imul, 1) := by decide +kernel
theorem dL_looks_81 : decode cL_looks 81 = .ok (.if_icmp .ge 27, 3) := by decide +kernel
theorem dL_looks_84 : decode cL_looks 84 = .ok (.ldc2_w 11, 3) := by decide +kernel
theorem dL_looks_87 : decode cL_looks 87 = .ok (.lload_n 1, 1) := by decide +kernel
theorem dL_looks_88 : decode cL_looks 88 = .ok (.lmul, 1) := by decide +kernel
theorem dL_looks_89 : decode cL_looks 89 = .ok (.aload_n 0, 1) := by decide +kernel
theorem dL_looks_90 : decode cL_looks 90 = .ok (.iload_n 3, 1) := by decide +kernel
theorem dL_looks_91 : decode cL_looks 91 = .ok (.iconst 5, 1) := by decide +kernel
theorem dL_looks_92 : decode cL_looks 92 = .ok (.idiv, 1) := by decide +kernel
theorem dL_looks_93 : decode cL_looks 93 = .ok (.iload_n 3, 1) := by decide +kernel
theorem dL_looks_94 : decode cL_looks 94 = .ok (.iconst 5, 1) := by decide +kernel
theorem dL_looks_95 : decode cL_looks 95 = .ok (.irem, 1) := by decide +kernel
theorem dL_looks_96 : decode cL_looks 96 = .ok (.invokevirtual 23, 3) := by decide +kernel
theorem dL_looks_99 : decode cL_looks 99 = .ok (.i2l, 1) := by decide +kernel
theorem dL_looks_100 : decode cL_looks 100 = .ok (.ladd, 1) := by decide +kernel
theorem dL_looks_101 : decode cL_looks 101 = .ok (.lstore_n 1, 1) := by decide +kernel
theorem dL_looks_102 : decode cL_looks 102 = .ok (.iinc 3 1, 3) := by decide +kernel
theorem dL_looks_105 : decode cL_looks 105 = .ok (.goto (-32), 3) := by decide +kernel
theorem dL_looks_108 : decode cL_looks 108 = .ok (.iconst 0, 1) := by decide +kernel
theorem dL_looks_109 : decode cL_looks 109 = .ok (.istore_n 3, 1) := by decide +kernel
theorem dL_looks_110 : decode cL_looks 110 = .ok (.iload_n 3, 1) := by decide +kernel
theorem dL_looks_111 : decode cL_looks 111 = .ok (.bipush 17, 2) := by decide +kernel
theorem dL_looks_113 : decode cL_looks 113 = .ok (.if_icmp .ge 36, 3) := by decide +kernel
theorem dL_looks_116 : decode cL_looks 116 = .ok (.ldc2_w 11, 3) := by decide +kernel
theorem dL_looks_119 : decode cL_looks 119 = .ok (.ldc2_w 11, 3) := by decide +kernel
theorem dL_looks_122 : decode cL_looks 122 = .ok (.lload_n 1, 1) := by decide +kernel
theorem dL_looks_123 : decode cL_looks 123 = .ok (.lmul, 1) := by decide +kernel
theorem dL_looks_124 : decode cL_looks 124 = .ok (.aload_n 0, 1) := by decide +kernel
theorem dL_looks_125 : decode cL_looks 125 = .ok (.iload_n 3, 1) := by decide +kernel
theorem dL_looks_126 : decode cL_looks 126 = .ok (.invokevirtual 26, 3) := by decide +kernel
theorem dL_looks_129 : decode cL_looks 129 = .ok (.i2l, 1) := by decide +kernel
theorem dL_looks_130 : decode cL_looks 130 = .ok (.ladd, 1) := by decide +kernel
theorem dL_looks_131 : decode cL_looks 131 = .ok (.lmul, 1) := by decide +kernel
theorem dL_looks_132 : decode cL_looks 132 = .ok (.aload_n 0, 1) := by decide +kernel
theorem dL_looks_133 : decode cL_looks 133 = .ok (.iload_n 3, 1) := by decide +kernel
theorem dL_looks_134 : decode cL_looks 134 = .ok (.bipush 9, 2) := by decide +kernel
theorem dL_looks_136 : decode cL_looks 136 = .ok (.irem, 1) := by decide +kernel
theorem dL_looks_137 : decode cL_looks 137 = .ok (.invokevirtual 29, 3) := by decide +kernel
theorem dL_looks_140 : decode cL_looks 140 = .ok (.i2l, 1) := by decide +kernel
theorem dL_looks_141 : decode cL_looks 141 = .ok (.ladd, 1) := by decide +kernel
theorem dL_looks_142 : decode cL_looks 142 = .ok (.lstore_n 1, 1) := by decide +kernel
theorem dL_looks_143 : decode cL_looks 143 = .ok (.iinc 3 1, 3) := by decide +kernel
theorem dL_looks_146 : decode cL_looks 146 = .ok (.goto (-36), 3) := by decide +kernel
theorem dL_looks_149 : decode cL_looks 149 = .ok (.lload_n 1, 1) := by decide +kernel
theorem dL_looks_150 : decode cL_looks 150 = .ok (.lreturn, 1) := by decide +kernel
theorem dL_isFeud_0 : decode cL_isFeud 0 = .ok (.iconst 0, 1) := by decide +kernel
theorem dL_isFeud_1 : decode cL_isFeud 1 = .ok (.istore_n 3, 1) := by decide +kernel
theorem dL_isFeud_2 : decode cL_isFeud 2 = .ok (.iconst 0, 1) := by decide +kernel
theorem dL_isFeud_3 : decode cL_isFeud 3 = .ok (.istore 4, 2) := by decide +kernel
theorem dL_isFeud_5 : decode cL_isFeud 5 = .ok (.iload 4, 2) := by decide +kernel
theorem dL_isFeud_7 : decode cL_isFeud 7 = .ok (.aload_n 0, 1) := by decide +kernel
theorem dL_isFeud_8 : decode cL_isFeud 8 = .ok (.iconst 2, 1) := by decide +kernel
theorem dL_isFeud_9 : decode cL_isFeud 9 = .ok (.invokevirtual 13, 3) := by decide +kernel
theorem dL_isFeud_12 : decode cL_isFeud 12 = .ok (.if_icmp .ge 48, 3) := by decide +kernel
theorem dL_isFeud_15 : decode cL_isFeud 15 = .ok (.iload_n 3, 1) := by decide +kernel
theorem dL_isFeud_16 : decode cL_isFeud 16 = .ok (.ifCond .ne 32, 3) := by decide +kernel
theorem dL_isFeud_19 : decode cL_isFeud 19 = .ok (.aload_n 0, 1) := by decide +kernel
theorem dL_isFeud_20 : decode cL_isFeud 20 = .ok (.iload 4, 2) := by decide +kernel
theorem dL_isFeud_22 : decode cL_isFeud 22 = .ok (.invokevirtual 29, 3) := by decide +kernel
theorem dL_isFeud_25 : decode cL_isFeud 25 = .ok (.iload_n 1, 1) := by decide +kernel
theorem dL_isFeud_26 : decode cL_isFeud 26 = .ok (.iload_n 2, 1) := by decide +kernel
theorem dL_isFeud_27 : decode cL_isFeud 27 = .ok (.if_icmp .ge 12, 3) := by decide +kernel
theorem dL_isFeud_30 : decode cL_isFeud 30 = .ok (.bipush 6, 2) := by decide +kernel
theorem dL_isFeud_32 : decode cL_isFeud 32 = .ok (.iload_n 1, 1) := by decide +kernel
theorem dL_isFeud_33 : decode cL_isFeud 33 = .ok (.imul, 1) := by decide +kernel
theorem dL_isFeud_34 : decode cL_isFeud 34 = .ok (.iload_n 2, 1) := by decide +kernel
theorem dL_isFeud_35 : decode cL_isFeud 35 = .ok (.iadd, 1) := by decide +kernel
theorem dL_isFeud_36 : decode cL_isFeud 36 = .ok (.goto 9, 3) := by decide +kernel
theorem dL_isFeud_39 : decode cL_isFeud 39 = .ok (.bipush 6, 2) := by decide +kernel
theorem dL_isFeud_41 : decode cL_isFeud 41 = .ok (.iload_n 2, 1) := by decide +kernel
theorem dL_isFeud_42 : decode cL_isFeud 42 = .ok (.imul, 1) := by decide +kernel
theorem dL_isFeud_43 : decode cL_isFeud 43 = .ok (.iload_n 1, 1) := by decide +kernel
theorem dL_isFeud_44 : decode cL_isFeud 44 = .ok (.iadd, 1) := by decide +kernel
theorem dL_isFeud_45 : decode cL_isFeud 45 = .ok (.if_icmp .ne 7, 3) := by decide +kernel
theorem dL_isFeud_48 : decode cL_isFeud 48 = .ok (.iconst 1, 1) := by decide +kernel
theorem dL_isFeud_49 : decode cL_isFeud 49 = .ok (.goto 4, 3) := by decide +kernel
theorem dL_isFeud_52 : decode cL_isFeud 52 = .ok (.iconst 0, 1) := by decide +kernel
theorem dL_isFeud_53 : decode cL_isFeud 53 = .ok (.istore_n 3, 1) := by decide +kernel
theorem dL_isFeud_54 : decode cL_isFeud 54 = .ok (.iinc 4 1, 3) := by decide +kernel
theorem dL_isFeud_57 : decode cL_isFeud 57 = .ok (.goto (-52), 3) := by decide +kernel
theorem dL_isFeud_60 : decode cL_isFeud 60 = .ok (.iload_n 3, 1) := by decide +kernel
theorem dL_isFeud_61 : decode cL_isFeud 61 = .ok (.ireturn, 1) := by decide +kernel
theorem dL_act_0 : decode cL_act 0 = .ok (.aload_n 0, 1) := by decide +kernel
theorem dL_act_1 : decode cL_act 1 = .ok (.iconst 0, 1) := by decide +kernel
theorem dL_act_2 : decode cL_act 2 = .ok (.invokevirtual 13, 3) := by decide +kernel
theorem dL_act_5 : decode cL_act 5 = .ok (.ifCond .ne 7, 3) := by decide +kernel
theorem dL_act_8 : decode cL_act 8 = .ok (.iconst 0, 1) := by decide +kernel
theorem dL_act_9 : decode cL_act 9 = .ok (.goto 12, 3) := by decide +kernel
theorem dL_act_12 : decode cL_act 12 = .ok (.iload_n 2, 1) := by decide +kernel
theorem dL_act_13 : decode cL_act 13 = .ok (.aload_n 0, 1) := by decide +kernel
theorem dL_act_14 : decode cL_act 14 = .ok (.iconst 0, 1) := by decide +kernel
theorem dL_act_15 : decode cL_act 15 = .ok (.invokevirtual 13, 3) := by decide +kernel
theorem dL_act_18 : decode cL_act 18 = .ok (.invokestatic 32, 3) := by decide +kernel
theorem dL_act_21 : decode cL_act 21 = .ok (.istore_n 3, 1) := by decide +kernel
theorem dL_act_22 : decode cL_act 22 = .ok (.aload_n 0, 1) := by decide +kernel
theorem dL_act_23 : decode cL_act 23 = .ok (.iconst 1, 1) := by decide +kernel
theorem dL_act_24 : decode cL_act 24 = .ok (.invokevirtual 13, 3) := by decide +kernel
theorem dL_act_27 : decode cL_act 27 = .ok (.ifCond .ne 7, 3) := by decide +kernel
theorem dL_act_30 : decode cL_act 30 = .ok (.iconst 0, 1) := by decide +kernel
theorem dL_act_31 : decode cL_act 31 = .ok (.goto 14, 3) := by decide +kernel
theorem dL_act_34 : decode cL_act 34 = .ok (.iload_n 2, 1) := by decide +kernel
theorem dL_act_35 : decode cL_act 35 = .ok (.iconst 4, 1) := by decide +kernel
theorem dL_act_36 : decode cL_act 36 = .ok (.ishr, 1) := by decide +kernel
theorem dL_act_37 : decode cL_act 37 = .ok (.aload_n 0, 1) := by decide +kernel
theorem dL_act_38 : decode cL_act 38 = .ok (.iconst 1, 1) := by decide +kernel
theorem dL_act_39 : decode cL_act 39 = .ok (.invokevirtual 13, 3) := by decide +kernel
theorem dL_act_42 : decode cL_act 42 = .ok (.invokestatic 32, 3) := by decide +kernel
theorem dL_act_45 : decode cL_act 45 = .ok (.istore 4, 2) := by decide +kernel
theorem dL_act_47 : decode cL_act 47 = .ok (.aload_n 0, 1) := by decide +kernel
theorem dL_act_48 : decode cL_act 48 = .ok (.iconst 0, 1) := by decide +kernel
theorem dL_act_49 : decode cL_act 49 = .ok (.invokevirtual 13, 3) := by decide +kernel
theorem dL_act_52 : decode cL_act 52 = .ok (.ifCond .eq 11, 3) := by decide +kernel
theorem dL_act_55 : decode cL_act 55 = .ok (.aload_n 0, 1) := by decide +kernel
theorem dL_act_56 : decode cL_act 56 = .ok (.iconst 1, 1) := by decide +kernel
theorem dL_act_57 : decode cL_act 57 = .ok (.invokevirtual 13, 3) := by decide +kernel
theorem dL_act_60 : decode cL_act 60 = .ok (.ifCond .ne 50, 3) := by decide +kernel
theorem dL_act_63 : decode cL_act 63 = .ok (.sipush 1000, 3) := by decide +kernel
theorem dL_act_66 : decode cL_act 66 = .ok (.aload_n 0, 1) := by decide +kernel
theorem dL_act_67 : decode cL_act 67 = .ok (.iconst 1, 1) := by decide +kernel
theorem dL_act_68 : decode cL_act 68 = .ok (.invokevirtual 13, 3) := by decide +kernel
theorem dL_act_71 : decode cL_act 71 = .ok (.ifCond .ne 18, 3) := by decide +kernel
theorem dL_act_74 : decode cL_act 74 = .ok (.aload_n 0, 1) := by decide +kernel
theorem dL_act_75 : decode cL_act 75 = .ok (.iconst 3, 1) := by decide +kernel
theorem dL_act_76 : decode cL_act 76 = .ok (.iload_n 2, 1) := by decide +kernel
theorem dL_act_77 : decode cL_act 77 = .ok (.bipush 6, 2) := by decide +kernel
theorem dL_act_79 : decode cL_act 79 = .ok (.invokestatic 32, 3) := by decide +kernel
theorem dL_act_82 : decode cL_act 82 = .ok (.iadd, 1) := by decide +kernel
theorem dL_act_83 : decode cL_act 83 = .ok (.invokevirtual 37, 3) := by decide +kernel
theorem dL_act_86 : decode cL_act 86 = .ok (.goto 22, 3) := by decide +kernel
theorem dL_act_89 : decode cL_act 89 = .ok (.aload_n 0, 1) := by decide +kernel
theorem dL_act_90 : decode cL_act 90 = .ok (.iload_n 2, 1) := by decide +kernel
theorem dL_act_91 : decode cL_act 91 = .ok (.bipush 6, 2) := by decide +kernel
theorem dL_act_93 : decode cL_act 93 = .ok (.invokestatic 32, 3) := by decide +kernel
theorem dL_act_96 : decode cL_act 96 = .ok (.iconst 1, 1) := by decide +kernel
theorem dL_act_97 : decode cL_act 97 = .ok (.iload_n 2, 1) := by decide +kernel
theorem dL_act_98 : decode cL_act 98 = .ok (.iconst 3, 1) := by decide +kernel
theorem dL_act_99 : decode cL_act 99 = .ok (.ishr, 1) := by decide +kernel
theorem dL_act_100 : decode cL_act 100 = .ok (.iconst 3, 1) := by decide +kernel
theorem dL_act_101 : decode cL_act 101 = .ok (.invokestatic 32, 3) := by decide +kernel
theorem dL_act_104 : decode cL_act 104 = .ok (.iadd, 1) := by decide +kernel
theorem dL_act_105 : decode cL_act 105 = .ok (.invokevirtual 40, 3) := by decide +kernel
theorem dL_act_108 : decode cL_act 108 = .ok (.iadd, 1) := by decide +kernel
theorem dL_act_109 : decode cL_act 109 = .ok (.ireturn, 1) := by decide +kernel
theorem dL_act_110 : decode cL_act 110 = .ok (.iload_n 2, 1) := by decide +kernel
theorem dL_act_111 : decode cL_act 111 = .ok (.bipush 6, 2) := by decide +kernel
theorem dL_act_113 : decode cL_act 113 = .ok (.ishr, 1) := by decide +kernel
theorem dL_act_114 : decode cL_act 114 = .ok (.aload_n 0, 1) := by decide +kernel
theorem dL_act_115 : decode cL_act 115 = .ok (.iload 4, 2) := by decide +kernel
theorem dL_act_117 : decode cL_act 117 = .ok (.iconst 0, 1) := by decide +kernel
theorem dL_act_118 : decode cL_act 118 = .ok (.invokevirtual 23, 3) := by decide +kernel
theorem dL_act_121 : decode cL_act 121 = .ok (.invokestatic 32, 3) := by decide +kernel
theorem dL_act_124 : decode cL_act 124 = .ok (.istore 5, 2) := by decide +kernel
theorem dL_act_126 : decode cL_act 126 = .ok (.iload_n 2, 1) := by decide +kernel
theorem dL_act_127 : decode cL_act 127 = .ok (.bipush 6, 2) := by decide +kernel
theorem dL_act_129 : decode cL_act 129 = .ok (.invokestatic 32, 3) := by decide +kernel
theorem dL_act_132 : decode cL_act 132 = .ok (.istore 6, 2) := by decide +kernel
theorem dL_act_134 : decode cL_act 134 = .ok (.iload 6, 2) := by decide +kernel
theorem dL_act_136 : decode cL_act 136 = .ok (.iconst 1, 1) := by decide +kernel
theorem dL_act_137 : decode cL_act 137 = .ok (.iadd, 1) := by decide +kernel
theorem dL_act_138 : decode cL_act 138 = .ok (.iload_n 2, 1) := by decide +kernel
theorem dL_act_139 : decode cL_act 139 = .ok (.iconst 3, 1) := by decide +kernel
theorem dL_act_140 : decode cL_act 140 = .ok (.ishr, 1) := by decide +kernel
theorem dL_act_141 : decode cL_act 141 = .ok (.iconst 5, 1) := by decide +kernel
theorem dL_act_142 : decode cL_act 142 = .ok (.invokestatic 32, 3) := by decide +kernel
theorem dL_act_145 : decode cL_act 145 = .ok (.iadd, 1) := by decide +kernel
theorem dL_act_146 : decode cL_act 146 = .ok (.bipush 6, 2) := by decide +kernel
theorem dL_act_148 : decode cL_act 148 = .ok (.irem, 1) := by decide +kernel
theorem dL_act_149 : decode cL_act 149 = .ok (.istore 7, 2) := by decide +kernel
theorem dL_act_151 : decode cL_act 151 = .ok (.iload_n 2, 1) := by decide +kernel
theorem dL_act_152 : decode cL_act 152 = .ok (.bipush 8, 2) := by decide +kernel
theorem dL_act_154 : decode cL_act 154 = .ok (.ishr, 1) := by decide +kernel
theorem dL_act_155 : decode cL_act 155 = .ok (.aload_n 0, 1) := by decide +kernel
theorem dL_act_156 : decode cL_act 156 = .ok (.iconst 0, 1) := by decide +kernel
theorem dL_act_157 : decode cL_act 157 = .ok (.invokevirtual 13, 3) := by decide +kernel
theorem dL_act_160 : decode cL_act 160 = .ok (.invokestatic 32, 3) := by decide +kernel
theorem dL_act_163 : decode cL_act 163 = .ok (.istore 8, 2) := by decide +kernel
theorem dL_act_165 : decode cL_act 165 = .ok (.iload_n 1, 1) := by decide +kernel
theorem dL_act_166 : decode cL_act 166 = .ok (.bipush 16, 2) := by decide +kernel
theorem dL_act_168 : decode cL_act 168 = .ok (.invokestatic 32, 3) := by decide +kernel
theorem dL_act_171 : decode cL_act 171 = .ok (.tableswitch 315 0 9 #[53, 53, 53, 94, 136, 188, 188, 210, 265, 292], 53) := by decide +kernel
theorem dL_act_224 : decode cL_act 224 = .ok (.sipush 1000, 3) := by decide +kernel
theorem dL_act_227 : decode cL_act 227 = .ok (.aload_n 0, 1) := by decide +kernel
theorem dL_act_228 : decode cL_act 228 = .ok (.iconst 0, 1) := by decide +kernel
theorem dL_act_229 : decode cL_act 229 = .ok (.invokevirtual 13, 3) := by decide +kernel
theorem dL_act_232 : decode cL_act 232 = .ok (.bipush 16, 2) := by decide +kernel
theorem dL_act_234 : decode cL_act 234 = .ok (.if_icmp .ge 25, 3) := by decide +kernel
theorem dL_act_237 : decode cL_act 237 = .ok (.aload_n 0, 1) := by decide +kernel
theorem dL_act_238 : decode cL_act 238 = .ok (.iload_n 2, 1) := by decide +kernel
theorem dL_act_239 : decode cL_act 239 = .ok (.bipush 6, 2) := by decide +kernel
theorem dL_act_241 : decode cL_act 241 = .ok (.invokestatic 32, 3) := by decide +kernel
theorem dL_act_244 : decode cL_act 244 = .ok (.iconst 1, 1) := by decide +kernel
theorem dL_act_245 : decode cL_act 245 = .ok (.iload_n 2, 1) := by decide +kernel
theorem dL_act_246 : decode cL_act 246 = .ok (.iconst 3, 1) := by decide +kernel
theorem dL_act_247 : decode cL_act 247 = .ok (.ishr, 1) := by decide +kernel
theorem dL_act_248 : decode cL_act 248 = .ok (.iconst 3, 1) := by decide +kernel
theorem dL_act_249 : decode cL_act 249 = .ok (.invokestatic 32, 3) := by decide +kernel
theorem dL_act_252 : decode cL_act 252 = .ok (.iadd, 1) := by decide +kernel
theorem dL_act_253 : decode cL_act 253 = .ok (.invokevirtual 40, 3) := by decide +kernel
theorem dL_act_256 : decode cL_act 256 = .ok (.goto 7, 3) := by decide +kernel
theorem dL_act_259 : decode cL_act 259 = .ok (.aload_n 0, 1) := by decide +kernel
theorem dL_act_260 : decode cL_act 260 = .ok (.invokevirtual 43, 3) := by decide +kernel
theorem dL_act_263 : decode cL_act 263 = .ok (.iadd, 1) := by decide +kernel
theorem dL_act_264 : decode cL_act 264 = .ok (.ireturn, 1) := by decide +kernel
theorem dL_act_265 : decode cL_act 265 = .ok (.sipush 1000, 3) := by decide +kernel
theorem dL_act_268 : decode cL_act 268 = .ok (.aload_n 0, 1) := by decide +kernel
theorem dL_act_269 : decode cL_act 269 = .ok (.iconst 1, 1) := by decide +kernel
theorem dL_act_270 : decode cL_act 270 = .ok (.invokevirtual 13, 3) := by decide +kernel
theorem dL_act_273 : decode cL_act 273 = .ok (.iconst 4, 1) := by decide +kernel
theorem dL_act_274 : decode cL_act 274 = .ok (.if_icmp .ge 18, 3) := by decide +kernel
theorem dL_act_277 : decode cL_act 277 = .ok (.aload_n 0, 1) := by decide +kernel
theorem dL_act_278 : decode cL_act 278 = .ok (.iconst 3, 1) := by decide +kernel
theorem dL_act_279 : decode cL_act 279 = .ok (.iload_n 2, 1) := by decide +kernel
theorem dL_act_280 : decode cL_act 280 = .ok (.bipush 6, 2) := by decide +kernel
theorem dL_act_282 : decode cL_act 282 = .ok (.invokestatic 32, 3) := by decide +kernel
theorem dL_act_285 : decode cL_act 285 = .ok (.iadd, 1) := by decide +kernel
theorem dL_act_286 : decode cL_act 286 = .ok (.invokevirtual 37, 3) := by decide +kernel
theorem dL_act_289 : decode cL_act 289 = .ok (.goto 16, 3) := by decide +kernel
theorem dL_act_292 : decode cL_act 292 = .ok (.aload_n 0, 1) := by decide +kernel
theorem dL_act_293 : decode cL_act 293 = .ok (.iconst 0, 1) := by decide +kernel
theorem dL_act_294 : decode cL_act 294 = .ok (.iconst 1, 1) := by decide +kernel
theorem dL_act_295 : decode cL_act 295 = .ok (.iload_n 2, 1) := by decide +kernel
theorem dL_act_296 : decode cL_act 296 = .ok (.bipush 8, 2) := by decide +kernel
theorem dL_act_298 : decode cL_act 298 = .ok (.invokestatic 32, 3) := by decide +kernel
theorem dL_act_301 : decode cL_act 301 = .ok (.iadd, 1) := by decide +kernel
theorem dL_act_302 : decode cL_act 302 = .ok (.invokevirtual 47, 3) := by decide +kernel
theorem dL_act_305 : decode cL_act 305 = .ok (.iadd, 1) := by decide +kernel
theorem dL_act_306 : decode cL_act 306 = .ok (.ireturn, 1) := by decide +kernel
theorem dL_act_307 : decode cL_act 307 = .ok (.sipush 1000, 3) := by decide +kernel
theorem dL_act_310 : decode cL_act 310 = .ok (.aload_n 0, 1) := by decide +kernel
theorem dL_act_311 : decode cL_act 311 = .ok (.iload 6, 2) := by decide +kernel
theorem dL_act_313 : decode cL_act 313 = .ok (.iload 7, 2) := by decide +kernel
theorem dL_act_315 : decode cL_act 315 = .ok (.invokestatic 50, 3) := by decide +kernel
theorem dL_act_318 : decode cL_act 318 = .ok (.ifCond .eq 14, 3) := by decide +kernel
theorem dL_act_321 : decode cL_act 321 = .ok (.aload_n 0, 1) := by decide +kernel
theorem dL_act_322 : decode cL_act 322 = .ok (.iload 6, 2) := by decide +kernel
theorem dL_act_324 : decode cL_act 324 = .ok (.iload 7, 2) := by decide +kernel
theorem dL_act_326 : decode cL_act 326 = .ok (.invokevirtual 54, 3) := by decide +kernel
theorem dL_act_329 : decode cL_act 329 = .ok (.goto 28, 3) := by decide +kernel
theorem dL_act_332 : decode cL_act 332 = .ok (.aload_n 0, 1) := by decide +kernel
theorem dL_act_333 : decode cL_act 333 = .ok (.iconst 2, 1) := by decide +kernel
theorem dL_act_334 : decode cL_act 334 = .ok (.invokevirtual 13, 3) := by decide +kernel
theorem dL_act_337 : decode cL_act 337 = .ok (.bipush 8, 2) := by decide +kernel
theorem dL_act_339 : decode cL_act 339 = .ok (.if_icmp .ge 14, 3) := by decide +kernel
theorem dL_act_342 : decode cL_act 342 = .ok (.aload_n 0, 1) := by decide +kernel
theorem dL_act_343 : decode cL_act 343 = .ok (.iload 6, 2) := by decide +kernel
theorem dL_act_345 : decode cL_act 345 = .ok (.iload 7, 2) := by decide +kernel
theorem dL_act_347 : decode cL_act 347 = .ok (.invokevirtual 57, 3) := by decide +kernel
theorem dL_act_350 : decode cL_act 350 = .ok (.goto 7, 3) := by decide +kernel
theorem dL_act_353 : decode cL_act 353 = .ok (.aload_n 0, 1) := by decide +kernel
theorem dL_act_354 : decode cL_act 354 = .ok (.invokevirtual 43, 3) := by decide +kernel
theorem dL_act_357 : decode cL_act 357 = .ok (.iadd, 1) := by decide +kernel
theorem dL_act_358 : decode cL_act 358 = .ok (.ireturn, 1) := by decide +kernel
theorem dL_act_359 : decode cL_act 359 = .ok (.sipush 1001, 3) := by decide +kernel
theorem dL_act_362 : decode cL_act 362 = .ok (.aload_n 0, 1) := by decide +kernel
theorem dL_act_363 : decode cL_act 363 = .ok (.iload_n 3, 1) := by decide +kernel
theorem dL_act_364 : decode cL_act 364 = .ok (.iload 8, 2) := by decide +kernel
theorem dL_act_366 : decode cL_act 366 = .ok (.iload_n 3, 1) := by decide +kernel
theorem dL_act_367 : decode cL_act 367 = .ok (.if_icmp .ne 7, 3) := by decide +kernel
theorem dL_act_370 : decode cL_act 370 = .ok (.iconst (-1), 1) := by decide +kernel
theorem dL_act_371 : decode cL_act 371 = .ok (.goto 5, 3) := by decide +kernel
theorem dL_act_374 : decode cL_act 374 = .ok (.iload 8, 2) := by decide +kernel
theorem dL_act_376 : decode cL_act 376 = .ok (.invokevirtual 60, 3) := by decide +kernel
theorem dL_act_379 : decode cL_act 379 = .ok (.iadd, 1) := by decide +kernel
theorem dL_act_380 : decode cL_act 380 = .ok (.ireturn, 1) := by decide +kernel
theorem dL_act_381 : decode cL_act 381 = .ok (.iload_n 2, 1) := by decide +kernel
theorem dL_act_382 : decode cL_act 382 = .ok (.iconst 4, 1) := by decide +kernel
theorem dL_act_383 : decode cL_act 383 = .ok (.invokestatic 32, 3) := by decide +kernel
theorem dL_act_386 : decode cL_act 386 = .ok (.istore 9, 2) := by decide +kernel
theorem dL_act_388 : decode cL_act 388 = .ok (.sipush 1000, 3) := by decide +kernel
theorem dL_act_391 : decode cL_act 391 = .ok (.aload_n 0, 1) := by decide +kernel
theorem dL_act_392 : decode cL_act 392 = .ok (.iload 9, 2) := by decide +kernel
theorem dL_act_394 : decode cL_act 394 = .ok (.iload 9, 2) := by decide +kernel
theorem dL_act_396 : decode cL_act 396 = .ok (.ifCond .ne 16, 3) := by decide +kernel
theorem dL_act_399 : decode cL_act 399 = .ok (.iconst 1, 1) := by decide +kernel
theorem dL_act_400 : decode cL_act 400 = .ok (.iload_n 2, 1) := by decide +kernel
theorem dL_act_401 : decode cL_act 401 = .ok (.iconst 2, 1) := by decide +kernel
theorem dL_act_402 : decode cL_act 402 = .ok (.ishr, 1) := by decide +kernel
theorem dL_act_403 : decode cL_act 403 = .ok (.bipush 8, 2) := by decide +kernel
theorem dL_act_405 : decode cL_act 405 = .ok (.invokestatic 32, 3) := by decide +kernel
theorem dL_act_408 : decode cL_act 408 = .ok (.iadd, 1) := by decide +kernel
theorem dL_act_409 : decode cL_act 409 = .ok (.goto 22, 3) := by decide +kernel
theorem dL_act_412 : decode cL_act 412 = .ok (.iload_n 2, 1) := by decide +kernel
theorem dL_act_413 : decode cL_act 413 = .ok (.iconst 2, 1) := by decide +kernel
theorem dL_act_414 : decode cL_act 414 = .ok (.ishr, 1) := by decide +kernel
theorem dL_act_415 : decode cL_act 415 = .ok (.iload 9, 2) := by decide +kernel
theorem dL_act_417 : decode cL_act 417 = .ok (.iconst 3, 1) := by decide +kernel
theorem dL_act_418 : decode cL_act 418 = .ok (.if_icmp .ne 8, 3) := by decide +kernel
theorem dL_act_421 : decode cL_act 421 = .ok (.bipush 10, 2) := by decide +kernel
theorem dL_act_423 : decode cL_act 423 = .ok (.goto 5, 3) := by decide +kernel
theorem dL_act_426 : decode cL_act 426 = .ok (.bipush 21, 2) := by decide +kernel
theorem dL_act_428 : decode cL_act 428 = .ok (.invokestatic 32, 3) := by decide +kernel
theorem dL_act_431 : decode cL_act 431 = .ok (.invokevirtual 47, 3) := by decide +kernel
theorem dL_act_434 : decode cL_act 434 = .ok (.iadd, 1) := by decide +kernel
theorem dL_act_435 : decode cL_act 435 = .ok (.ireturn, 1) := by decide +kernel
theorem dL_act_436 : decode cL_act 436 = .ok (.sipush 1000, 3) := by decide +kernel
theorem dL_act_439 : decode cL_act 439 = .ok (.aload_n 0, 1) := by decide +kernel
theorem dL_act_440 : decode cL_act 440 = .ok (.iload_n 3, 1) := by decide +kernel
theorem dL_act_441 : decode cL_act 441 = .ok (.iconst 3, 1) := by decide +kernel
theorem dL_act_442 : decode cL_act 442 = .ok (.invokevirtual 19, 3) := by decide +kernel
theorem dL_act_445 : decode cL_act 445 = .ok (.iconst (-1), 1) := by decide +kernel
theorem dL_act_446 : decode cL_act 446 = .ok (.if_icmp .ne 10, 3) := by decide +kernel
theorem dL_act_449 : decode cL_act 449 = .ok (.aload_n 0, 1) := by decide +kernel
theorem dL_act_450 : decode cL_act 450 = .ok (.invokevirtual 43, 3) := by decide +kernel
theorem dL_act_453 : decode cL_act 453 = .ok (.goto 8, 3) := by decide +kernel
theorem dL_act_456 : decode cL_act 456 = .ok (.aload_n 0, 1) := by decide +kernel
theorem dL_act_457 : decode cL_act 457 = .ok (.iload_n 3, 1) := by decide +kernel
theorem dL_act_458 : decode cL_act 458 = .ok (.invokevirtual 63, 3) := by decide +kernel
theorem dL_act_461 : decode cL_act 461 = .ok (.iadd, 1) := by decide +kernel
theorem dL_act_462 : decode cL_act 462 = .ok (.ireturn, 1) := by decide +kernel
theorem dL_act_463 : decode cL_act 463 = .ok (.sipush 1000, 3) := by decide +kernel
theorem dL_act_466 : decode cL_act 466 = .ok (.iload_n 2, 1) := by decide +kernel
theorem dL_act_467 : decode cL_act 467 = .ok (.bipush 7, 2) := by decide +kernel
theorem dL_act_469 : decode cL_act 469 = .ok (.iand, 1) := by decide +kernel
theorem dL_act_470 : decode cL_act 470 = .ok (.ifCond .ne 10, 3) := by decide +kernel
theorem dL_act_473 : decode cL_act 473 = .ok (.aload_n 0, 1) := by decide +kernel
theorem dL_act_474 : decode cL_act 474 = .ok (.invokevirtual 66, 3) := by decide +kernel
theorem dL_act_477 : decode cL_act 477 = .ok (.goto 7, 3) := by decide +kernel
theorem dL_act_480 : decode cL_act 480 = .ok (.aload_n 0, 1) := by decide +kernel
theorem dL_act_481 : decode cL_act 481 = .ok (.invokevirtual 43, 3) := by decide +kernel
theorem dL_act_484 : decode cL_act 484 = .ok (.iadd, 1) := by decide +kernel
theorem dL_act_485 : decode cL_act 485 = .ok (.ireturn, 1) := by decide +kernel
theorem dL_act_486 : decode cL_act 486 = .ok (.sipush 1000, 3) := by decide +kernel
theorem dL_act_489 : decode cL_act 489 = .ok (.aload_n 0, 1) := by decide +kernel
theorem dL_act_490 : decode cL_act 490 = .ok (.iload_n 3, 1) := by decide +kernel
theorem dL_act_491 : decode cL_act 491 = .ok (.iload 4, 2) := by decide +kernel
theorem dL_act_493 : decode cL_act 493 = .ok (.iload 5, 2) := by decide +kernel
theorem dL_act_495 : decode cL_act 495 = .ok (.invokevirtual 69, 3) := by decide +kernel
theorem dL_act_498 : decode cL_act 498 = .ok (.ifCond .ne 15, 3) := by decide +kernel
theorem dL_act_501 : decode cL_act 501 = .ok (.aload_n 0, 1) := by decide +kernel
theorem dL_act_502 : decode cL_act 502 = .ok (.iload_n 3, 1) := by decide +kernel
theorem dL_act_503 : decode cL_act 503 = .ok (.iload 4, 2) := by decide +kernel
theorem dL_act_505 : decode cL_act 505 = .ok (.iload 5, 2) := by decide +kernel
theorem dL_act_507 : decode cL_act 507 = .ok (.invokevirtual 73, 3) := by decide +kernel
theorem dL_act_510 : decode cL_act 510 = .ok (.goto 14, 3) := by decide +kernel
theorem dL_act_513 : decode cL_act 513 = .ok (.aload_n 0, 1) := by decide +kernel
theorem dL_act_514 : decode cL_act 514 = .ok (.iconst 1, 1) := by decide +kernel
theorem dL_act_515 : decode cL_act 515 = .ok (.iload_n 2, 1) := by decide +kernel
theorem dL_act_516 : decode cL_act 516 = .ok (.bipush 21, 2) := by decide +kernel
theorem dL_act_518 : decode cL_act 518 = .ok (.invokestatic 32, 3) := by decide +kernel
theorem dL_act_521 : decode cL_act 521 = .ok (.invokevirtual 47, 3) := by decide +kernel
theorem dL_act_524 : decode cL_act 524 = .ok (.iadd, 1) := by decide +kernel
theorem dL_act_525 : decode cL_act 525 = .ok (.ireturn, 1) := by decide +kernel
theorem dL_holds_0 : decode cL_holds 0 = .ok (.iconst 0, 1) := by decide +kernel
theorem dL_holds_1 : decode cL_holds 1 = .ok (.istore_n 1, 1) := by decide +kernel
theorem dL_holds_2 : decode cL_holds 2 = .ok (.iconst 0, 1) := by decide +kernel
theorem dL_holds_3 : decode cL_holds 3 = .ok (.istore_n 2, 1) := by decide +kernel
theorem dL_holds_4 : decode cL_holds 4 = .ok (.iconst 0, 1) := by decide +kernel
theorem dL_holds_5 : decode cL_holds 5 = .ok (.istore_n 3, 1) := by decide +kernel
theorem dL_holds_6 : decode cL_holds 6 = .ok (.iconst 0, 1) := by decide +kernel
theorem dL_holds_7 : decode cL_holds 7 = .ok (.istore 4, 2) := by decide +kernel
theorem dL_holds_9 : decode cL_holds 9 = .ok (.aload_n 0, 1) := by decide +kernel
theorem dL_holds_10 : decode cL_holds 10 = .ok (.iconst 4, 1) := by decide +kernel
theorem dL_holds_11 : decode cL_holds 11 = .ok (.invokevirtual 13, 3) := by decide +kernel
theorem dL_holds_14 : decode cL_holds 14 = .ok (.aload_n 0, 1) := by decide +kernel
theorem dL_holds_15 : decode cL_holds 15 = .ok (.iconst 5, 1) := by decide +kernel
theorem dL_holds_16 : decode cL_holds 16 = .ok (.invokevirtual 13, 3) := by decide +kernel
theorem dL_holds_19 : decode cL_holds 19 = .ok (.if_icmp .ne 28, 3) := by decide +kernel
theorem dL_holds_22 : decode cL_holds 22 = .ok (.aload_n 0, 1) := by decide +kernel
theorem dL_holds_23 : decode cL_holds 23 = .ok (.iconst 3, 1) := by decide +kernel
theorem dL_holds_24 : decode cL_holds 24 = .ok (.invokevirtual 13, 3) := by decide +kernel
theorem dL_holds_27 : decode cL_holds 27 = .ok (.aload_n 0, 1) := by decide +kernel
theorem dL_holds_28 : decode cL_holds 28 = .ok (.bipush 7, 2) := by decide +kernel
theorem dL_holds_30 : decode cL_holds 30 = .ok (.invokevirtual 13, 3) := by decide +kernel
theorem dL_holds_33 : decode cL_holds 33 = .ok (.aload_n 0, 1) := by decide +kernel
theorem dL_holds_34 : decode cL_holds 34 = .ok (.bipush 8, 2) := by decide +kernel
theorem dL_holds_36 : decode cL_holds 36 = .ok (.invokevirtual 13, 3) := by decide +kernel
theorem dL_holds_39 : decode cL_holds 39 = .ok (.isub, 1) := by decide +kernel
theorem dL_holds_40 : decode cL_holds 40 = .ok (.if_icmp .ne 7, 3) := by decide +kernel
theorem dL_holds_43 : decode cL_holds 43 = .ok (.iconst 1, 1) := by decide +kernel
theorem dL_holds_44 : decode cL_holds 44 = .ok (.goto 4, 3) := by decide +kernel
theorem dL_holds_47 : decode cL_holds 47 = .ok (.iconst 0, 1) := by decide +kernel
theorem dL_holds_48 : decode cL_holds 48 = .ok (.istore 5, 2) := by decide +kernel
theorem dL_holds_50 : decode cL_holds 50 = .ok (.iconst 0, 1) := by decide +kernel
theorem dL_holds_51 : decode cL_holds 51 = .ok (.istore 6, 2) := by decide +kernel
theorem dL_holds_53 : decode cL_holds 53 = .ok (.iload 6, 2) := by decide +kernel
theorem dL_holds_55 : decode cL_holds 55 = .ok (.aload_n 0, 1) := by decide +kernel
theorem dL_holds_56 : decode cL_holds 56 = .ok (.iconst 0, 1) := by decide +kernel
theorem dL_holds_57 : decode cL_holds 57 = .ok (.invokevirtual 13, 3) := by decide +kernel
theorem dL_holds_60 : decode cL_holds 60 = .ok (.if_icmp .ge 205, 3) := by decide +kernel
theorem dL_holds_63 : decode cL_holds 63 = .ok (.aload_n 0, 1) := by decide +kernel
theorem dL_holds_64 : decode cL_holds 64 = .ok (.iload 6, 2) := by decide +kernel
theorem dL_holds_66 : decode cL_holds 66 = .ok (.iconst 3, 1) := by decide +kernel
theorem dL_holds_67 : decode cL_holds 67 = .ok (.invokevirtual 19, 3) := by decide +kernel
theorem dL_holds_70 : decode cL_holds 70 = .ok (.istore 7, 2) := by decide +kernel
theorem dL_holds_72 : decode cL_holds 72 = .ok (.aload_n 0, 1) := by decide +kernel
theorem dL_holds_73 : decode cL_holds 73 = .ok (.iload 6, 2) := by decide +kernel
theorem dL_holds_75 : decode cL_holds 75 = .ok (.iconst 4, 1) := by decide +kernel
theorem dL_holds_76 : decode cL_holds 76 = .ok (.invokevirtual 19, 3) := by decide +kernel
theorem dL_holds_79 : decode cL_holds 79 = .ok (.istore 8, 2) := by decide +kernel
theorem dL_holds_81 : decode cL_holds 81 = .ok (.aload_n 0, 1) := by decide +kernel
theorem dL_holds_82 : decode cL_holds 82 = .ok (.iload 6, 2) := by decide +kernel
theorem dL_holds_84 : decode cL_holds 84 = .ok (.iconst 2, 1) := by decide +kernel
theorem dL_holds_85 : decode cL_holds 85 = .ok (.invokevirtual 19, 3) := by decide +kernel
theorem dL_holds_88 : decode cL_holds 88 = .ok (.istore 9, 2) := by decide +kernel
theorem dL_holds_90 : decode cL_holds 90 = .ok (.aload_n 0, 1) := by decide +kernel
theorem dL_holds_91 : decode cL_holds 91 = .ok (.iload 6, 2) := by decide +kernel
theorem dL_holds_93 : decode cL_holds 93 = .ok (.iconst 5, 1) := by decide +kernel
theorem dL_holds_94 : decode cL_holds 94 = .ok (.invokevirtual 19, 3) := by decide +kernel
theorem dL_holds_97 : decode cL_holds 97 = .ok (.istore 10, 2) := by decide +kernel
theorem dL_holds_99 : decode cL_holds 99 = .ok (.iload_n 1, 1) := by decide +kernel
theorem dL_holds_100 : decode cL_holds 100 = .ok (.aload_n 0, 1) := by decide +kernel
theorem dL_holds_101 : decode cL_holds 101 = .ok (.iload 6, 2) := by decide +kernel
theorem dL_holds_103 : decode cL_holds 103 = .ok (.bipush 6, 2) := by decide +kernel
theorem dL_holds_105 : decode cL_holds 105 = .ok (.invokevirtual 19, 3) := by decide +kernel
theorem dL_holds_108 : decode cL_holds 108 = .ok (.iadd, 1) := by decide +kernel
theorem dL_holds_109 : decode cL_holds 109 = .ok (.istore_n 1, 1) := by decide +kernel
theorem dL_holds_110 : decode cL_holds 110 = .ok (.iload_n 2, 1) := by decide +kernel
theorem dL_holds_111 : decode cL_holds 111 = .ok (.iload 10, 2) := by decide +kernel
theorem dL_holds_113 : decode cL_holds 113 = .ok (.ifCond .le 7, 3) := by decide +kernel
theorem dL_holds_116 : decode cL_holds 116 = .ok (.iconst 1, 1) := by decide +kernel
theorem dL_holds_117 : decode cL_holds 117 = .ok (.goto 4, 3) := by decide +kernel
theorem dL_holds_120 : decode cL_holds 120 = .ok (.iconst 0, 1) := by decide +kernel
theorem dL_holds_121 : decode cL_holds 121 = .ok (.iadd, 1) := by decide +kernel
theorem dL_holds_122 : decode cL_holds 122 = .ok (.istore_n 2, 1) := by decide +kernel
theorem dL_holds_123 : decode cL_holds 123 = .ok (.iload_n 3, 1) := by decide +kernel
theorem dL_holds_124 : decode cL_holds 124 = .ok (.iload 7, 2) := by decide +kernel
theorem dL_holds_126 : decode cL_holds 126 = .ok (.iconst (-1), 1) := by decide +kernel
theorem dL_holds_127 : decode cL_holds 127 = .ok (.if_icmp .ne 7, 3) := by decide +kernel
theorem dL_holds_130 : decode cL_holds 130 = .ok (.iconst 0, 1) := by decide +kernel
theorem dL_holds_131 : decode cL_holds 131 = .ok (.goto 4, 3) := by decide +kernel
theorem dL_holds_134 : decode cL_holds 134 = .ok (.iconst 1, 1) := by decide +kernel
theorem dL_holds_135 : decode cL_holds 135 = .ok (.iadd, 1) := by decide +kernel
theorem dL_holds_136 : decode cL_holds 136 = .ok (.istore_n 3, 1) := by decide +kernel
theorem dL_holds_137 : decode cL_holds 137 = .ok (.iload 5, 2) := by decide +kernel
theorem dL_holds_139 : decode cL_holds 139 = .ok (.ifCond .eq 117, 3) := by decide +kernel
theorem dL_holds_142 : decode cL_holds 142 = .ok (.iload 7, 2) := by decide +kernel
theorem dL_holds_144 : decode cL_holds 144 = .ok (.iconst (-1), 1) := by decide +kernel
theorem dL_holds_145 : decode cL_holds 145 = .ok (.if_icmp .ne 7, 3) := by decide +kernel
theorem dL_holds_148 : decode cL_holds 148 = .ok (.iconst 1, 1) := by decide +kernel
theorem dL_holds_149 : decode cL_holds 149 = .ok (.goto 4, 3) := by decide +kernel
theorem dL_holds_152 : decode cL_holds 152 = .ok (.iconst 0, 1) := by decide +kernel
theorem dL_holds_153 : decode cL_holds 153 = .ok (.iload 8, 2) := by decide +kernel
theorem dL_holds_155 : decode cL_holds 155 = .ok (.iconst (-1), 1) := by decide +kernel
theorem dL_holds_156 : decode cL_holds 156 = .ok (.if_icmp .ne 7, 3) := by decide +kernel
theorem dL_holds_159 : decode cL_holds 159 = .ok (.iconst 1, 1) := by decide +kernel
theorem dL_holds_160 : decode cL_holds 160 = .ok (.goto 4, 3) := by decide +kernel
theorem dL_holds_163 : decode cL_holds 163 = .ok (.iconst 0, 1) := by decide +kernel
theorem dL_holds_164 : decode cL_holds 164 = .ok (.if_icmp .ne 92, 3) := by decide +kernel
theorem dL_holds_167 : decode cL_holds 167 = .ok (.iload 7, 2) := by decide +kernel
theorem dL_holds_169 : decode cL_holds 169 = .ok (.iconst (-1), 1) := by decide +kernel
theorem dL_holds_170 : decode cL_holds 170 = .ok (.if_icmp .ne 22, 3) := by decide +kernel
theorem dL_holds_173 : decode cL_holds 173 = .ok (.aload_n 0, 1) := by decide +kernel
theorem dL_holds_174 : decode cL_holds 174 = .ok (.iload 6, 2) := by decide +kernel
theorem dL_holds_176 : decode cL_holds 176 = .ok (.bipush 6, 2) := by decide +kernel
theorem dL_holds_178 : decode cL_holds 178 = .ok (.invokevirtual 19, 3) := by decide +kernel
theorem dL_holds_181 : decode cL_holds 181 = .ok (.ifCond .ne 75, 3) := by decide +kernel
theorem dL_holds_184 : decode cL_holds 184 = .ok (.iload 10, 2) := by decide +kernel
theorem dL_holds_186 : decode cL_holds 186 = .ok (.ifCond .ne 70, 3) := by decide +kernel
theorem dL_holds_189 : decode cL_holds 189 = .ok (.goto 16, 3) := by decide +kernel
theorem dL_holds_192 : decode cL_holds 192 = .ok (.aload_n 0, 1) := by decide +kernel
theorem dL_holds_193 : decode cL_holds 193 = .ok (.iload 7, 2) := by decide +kernel
theorem dL_holds_195 : decode cL_holds 195 = .ok (.iload 8, 2) := by decide +kernel
theorem dL_holds_197 : decode cL_holds 197 = .ok (.invokevirtual 76, 3) := by decide +kernel
theorem dL_holds_200 : decode cL_holds 200 = .ok (.iload 6, 2) := by decide +kernel
theorem dL_holds_202 : decode cL_holds 202 = .ok (.if_icmp .ne 54, 3) := by decide +kernel
theorem dL_holds_205 : decode cL_holds 205 = .ok (.aload_n 0, 1) := by decide +kernel
theorem dL_holds_206 : decode cL_holds 206 = .ok (.iload 6, 2) := by decide +kernel
theorem dL_holds_208 : decode cL_holds 208 = .ok (.iconst 1, 1) := by decide +kernel
theorem dL_holds_209 : decode cL_holds 209 = .ok (.invokevirtual 19, 3) := by decide +kernel
theorem dL_holds_212 : decode cL_holds 212 = .ok (.iconst 3, 1) := by decide +kernel
theorem dL_holds_213 : decode cL_holds 213 = .ok (.if_icmp .lt 16, 3) := by decide +kernel
theorem dL_holds_216 : decode cL_holds 216 = .ok (.iload 8, 2) := by decide +kernel
theorem dL_holds_218 : decode cL_holds 218 = .ok (.iconst (-1), 1) := by decide +kernel
theorem dL_holds_219 : decode cL_holds 219 = .ok (.if_icmp .eq 10, 3) := by decide +kernel
theorem dL_holds_222 : decode cL_holds 222 = .ok (.iload 8, 2) := by decide +kernel
theorem dL_holds_224 : decode cL_holds 224 = .ok (.iconst 3, 1) := by decide +kernel
theorem dL_holds_225 : decode cL_holds 225 = .ok (.irem, 1) := by decide +kernel
theorem dL_holds_226 : decode cL_holds 226 = .ok (.ifCond .le 30, 3) := by decide +kernel
theorem dL_holds_229 : decode cL_holds 229 = .ok (.iload 10, 2) := by decide +kernel
theorem dL_holds_231 : decode cL_holds 231 = .ok (.ifCond .eq 21, 3) := by decide +kernel
theorem dL_holds_234 : decode cL_holds 234 = .ok (.iload 9, 2) := by decide +kernel
theorem dL_holds_236 : decode cL_holds 236 = .ok (.iconst (-1), 1) := by decide +kernel
theorem dL_holds_237 : decode cL_holds 237 = .ok (.if_icmp .eq 19, 3) := by decide +kernel
theorem dL_holds_240 : decode cL_holds 240 = .ok (.iload 7, 2) := by decide +kernel
theorem dL_holds_242 : decode cL_holds 242 = .ok (.aload_n 0, 1) := by decide +kernel
theorem dL_holds_243 : decode cL_holds 243 = .ok (.iload 9, 2) := by decide +kernel
theorem dL_holds_245 : decode cL_holds 245 = .ok (.iconst 3, 1) := by decide +kernel
theorem dL_holds_246 : decode cL_holds 246 = .ok (.invokevirtual 19, 3) := by decide +kernel
theorem dL_holds_249 : decode cL_holds 249 = .ok (.if_icmp .ne 7, 3) := by decide +kernel
theorem dL_holds_252 : decode cL_holds 252 = .ok (.iconst 1, 1) := by decide +kernel
theorem dL_holds_253 : decode cL_holds 253 = .ok (.goto 4, 3) := by decide +kernel
theorem dL_holds_256 : decode cL_holds 256 = .ok (.iconst 0, 1) := by decide +kernel
theorem dL_holds_257 : decode cL_holds 257 = .ok (.istore 5, 2) := by decide +kernel
theorem dL_holds_259 : decode cL_holds 259 = .ok (.iinc 6 1, 3) := by decide +kernel
theorem dL_holds_262 : decode cL_holds 262 = .ok (.goto (-209), 3) := by decide +kernel
theorem dL_holds_265 : decode cL_holds 265 = .ok (.iconst 0, 1) := by decide +kernel
theorem dL_holds_266 : decode cL_holds 266 = .ok (.istore 6, 2) := by decide +kernel
theorem dL_holds_268 : decode cL_holds 268 = .ok (.iload 6, 2) := by decide +kernel
theorem dL_holds_270 : decode cL_holds 270 = .ok (.aload_n 0, 1) := by decide +kernel
theorem dL_holds_271 : decode cL_holds 271 = .ok (.iconst 1, 1) := by decide +kernel
theorem dL_holds_272 : decode cL_holds 272 = .ok (.invokevirtual 13, 3) := by decide +kernel
theorem dL_holds_275 : decode cL_holds 275 = .ok (.if_icmp .ge 135, 3) := by decide +kernel
theorem dL_holds_278 : decode cL_holds 278 = .ok (.iload 4, 2) := by decide +kernel
theorem dL_holds_280 : decode cL_holds 280 = .ok (.aload_n 0, 1) := by decide +kernel
theorem dL_holds_281 : decode cL_holds 281 = .ok (.iload 6, 2) := by decide +kernel
theorem dL_holds_283 : decode cL_holds 283 = .ok (.iconst 3, 1) := by decide +kernel
theorem dL_holds_284 : decode cL_holds 284 = .ok (.invokevirtual 23, 3) := by decide +kernel
theorem dL_holds_287 : decode cL_holds 287 = .ok (.iadd, 1) := by decide +kernel
theorem dL_holds_288 : decode cL_holds 288 = .ok (.istore 4, 2) := by decide +kernel
theorem dL_holds_290 : decode cL_holds 290 = .ok (.iconst 0, 1) := by decide +kernel
theorem dL_holds_291 : decode cL_holds 291 = .ok (.istore 7, 2) := by decide +kernel
theorem dL_holds_293 : decode cL_holds 293 = .ok (.iload 7, 2) := by decide +kernel
theorem dL_holds_295 : decode cL_holds 295 = .ok (.aload_n 0, 1) := by decide +kernel
theorem dL_holds_296 : decode cL_holds 296 = .ok (.iconst 2, 1) := by decide +kernel
theorem dL_holds_297 : decode cL_holds 297 = .ok (.invokevirtual 13, 3) := by decide +kernel
theorem dL_holds_300 : decode cL_holds 300 = .ok (.if_icmp .ge 59, 3) := by decide +kernel
theorem dL_holds_303 : decode cL_holds 303 = .ok (.aload_n 0, 1) := by decide +kernel
theorem dL_holds_304 : decode cL_holds 304 = .ok (.iload 7, 2) := by decide +kernel
theorem dL_holds_306 : decode cL_holds 306 = .ok (.invokevirtual 29, 3) := by decide +kernel
theorem dL_holds_309 : decode cL_holds 309 = .ok (.istore 8, 2) := by decide +kernel
theorem dL_holds_311 : decode cL_holds 311 = .ok (.iload 5, 2) := by decide +kernel
theorem dL_holds_313 : decode cL_holds 313 = .ok (.ifCond .eq 37, 3) := by decide +kernel
theorem dL_holds_316 : decode cL_holds 316 = .ok (.aload_n 0, 1) := by decide +kernel
theorem dL_holds_317 : decode cL_holds 317 = .ok (.iload 6, 2) := by decide +kernel
theorem dL_holds_319 : decode cL_holds 319 = .ok (.iconst 2, 1) := by decide +kernel
theorem dL_holds_320 : decode cL_holds 320 = .ok (.invokevirtual 23, 3) := by decide +kernel
theorem dL_holds_323 : decode cL_holds 323 = .ok (.iconst 1, 1) := by decide +kernel
theorem dL_holds_324 : decode cL_holds 324 = .ok (.iload 8, 2) := by decide +kernel
theorem dL_holds_326 : decode cL_holds 326 = .ok (.bipush 6, 2) := by decide +kernel
theorem dL_holds_328 : decode cL_holds 328 = .ok (.idiv, 1) := by decide +kernel
theorem dL_holds_329 : decode cL_holds 329 = .ok (.ishl, 1) := by decide +kernel
theorem dL_holds_330 : decode cL_holds 330 = .ok (.iconst 1, 1) := by decide +kernel
theorem dL_holds_331 : decode cL_holds 331 = .ok (.iload 8, 2) := by decide +kernel
theorem dL_holds_333 : decode cL_holds 333 = .ok (.bipush 6, 2) := by decide +kernel
theorem dL_holds_335 : decode cL_holds 335 = .ok (.irem, 1) := by decide +kernel
theorem dL_holds_336 : decode cL_holds 336 = .ok (.ishl, 1) := by decide +kernel
theorem dL_holds_337 : decode cL_holds 337 = .ok (.ior, 1) := by decide +kernel
theorem dL_holds_338 : decode cL_holds 338 = .ok (.iand, 1) := by decide +kernel
theorem dL_holds_339 : decode cL_holds 339 = .ok (.invokestatic 79, 3) := by decide +kernel
theorem dL_holds_342 : decode cL_holds 342 = .ok (.iconst 2, 1) := by decide +kernel
theorem dL_holds_343 : decode cL_holds 343 = .ok (.if_icmp .ge 7, 3) := by decide +kernel
theorem dL_holds_346 : decode cL_holds 346 = .ok (.iconst 1, 1) := by decide +kernel
theorem dL_holds_347 : decode cL_holds 347 = .ok (.goto 4, 3) := by decide +kernel
theorem dL_holds_350 : decode cL_holds 350 = .ok (.iconst 0, 1) := by decide +kernel
theorem dL_holds_351 : decode cL_holds 351 = .ok (.istore 5, 2) := by decide +kernel
theorem dL_holds_353 : decode cL_holds 353 = .ok (.iinc 7 1, 3) := by decide +kernel
theorem dL_holds_356 : decode cL_holds 356 = .ok (.goto (-63), 3) := by decide +kernel
theorem dL_holds_359 : decode cL_holds 359 = .ok (.iconst 0, 1) := by decide +kernel
theorem dL_holds_360 : decode cL_holds 360 = .ok (.istore 7, 2) := by decide +kernel
theorem dL_holds_362 : decode cL_holds 362 = .ok (.iload 7, 2) := by decide +kernel
theorem dL_holds_364 : decode cL_holds 364 = .ok (.aload_n 0, 1) := by decide +kernel
theorem dL_holds_365 : decode cL_holds 365 = .ok (.iload 6, 2) := by decide +kernel
theorem dL_holds_367 : decode cL_holds 367 = .ok (.iconst 0, 1) := by decide +kernel
theorem dL_holds_368 : decode cL_holds 368 = .ok (.invokevirtual 23, 3) := by decide +kernel
theorem dL_holds_371 : decode cL_holds 371 = .ok (.if_icmp .ge 33, 3) := by decide +kernel
theorem dL_holds_374 : decode cL_holds 374 = .ok (.iload 5, 2) := by decide +kernel
theorem dL_holds_376 : decode cL_holds 376 = .ok (.ifCond .eq 19, 3) := by decide +kernel
theorem dL_holds_379 : decode cL_holds 379 = .ok (.aload_n 0, 1) := by decide +kernel
theorem dL_holds_380 : decode cL_holds 380 = .ok (.iload 6, 2) := by decide +kernel
theorem dL_holds_382 : decode cL_holds 382 = .ok (.iload 7, 2) := by decide +kernel
theorem dL_holds_384 : decode cL_holds 384 = .ok (.invokevirtual 82, 3) := by decide +kernel
theorem dL_holds_387 : decode cL_holds 387 = .ok (.iconst (-1), 1) := by decide +kernel
theorem dL_holds_388 : decode cL_holds 388 = .ok (.if_icmp .eq 7, 3) := by decide +kernel
theorem dL_holds_391 : decode cL_holds 391 = .ok (.iconst 1, 1) := by decide +kernel
theorem dL_holds_392 : decode cL_holds 392 = .ok (.goto 4, 3) := by decide +kernel
theorem dL_holds_395 : decode cL_holds 395 = .ok (.iconst 0, 1) := by decide +kernel
theorem dL_holds_396 : decode cL_holds 396 = .ok (.istore 5, 2) := by decide +kernel
theorem dL_holds_398 : decode cL_holds 398 = .ok (.iinc 7 1, 3) := by decide +kernel
theorem dL_holds_401 : decode cL_holds 401 = .ok (.goto (-39), 3) := by decide +kernel
theorem dL_holds_404 : decode cL_holds 404 = .ok (.iinc 6 1, 3) := by decide +kernel
theorem dL_holds_407 : decode cL_holds 407 = .ok (.goto (-139), 3) := by decide +kernel
theorem dL_holds_410 : decode cL_holds 410 = .ok (.iconst 0, 1) := by decide +kernel
theorem dL_holds_411 : decode cL_holds 411 = .ok (.istore 6, 2) := by decide +kernel
theorem dL_holds_413 : decode cL_holds 413 = .ok (.iload 6, 2) := by decide +kernel
theorem dL_holds_415 : decode cL_holds 415 = .ok (.bipush 16, 2) := by decide +kernel
theorem dL_holds_417 : decode cL_holds 417 = .ok (.if_icmp .ge 147, 3) := by decide +kernel
theorem dL_holds_420 : decode cL_holds 420 = .ok (.iload 5, 2) := by decide +kernel
theorem dL_holds_422 : decode cL_holds 422 = .ok (.ifCond .eq 80, 3) := by decide +kernel
theorem dL_holds_425 : decode cL_holds 425 = .ok (.aload_n 0, 1) := by decide +kernel
theorem dL_holds_426 : decode cL_holds 426 = .ok (.iload 6, 2) := by decide +kernel
theorem dL_holds_428 : decode cL_holds 428 = .ok (.invokevirtual 26, 3) := by decide +kernel
theorem dL_holds_431 : decode cL_holds 431 = .ok (.iconst (-1), 1) := by decide +kernel
theorem dL_holds_432 : decode cL_holds 432 = .ok (.if_icmp .ne 7, 3) := by decide +kernel
theorem dL_holds_435 : decode cL_holds 435 = .ok (.iconst 1, 1) := by decide +kernel
theorem dL_holds_436 : decode cL_holds 436 = .ok (.goto 4, 3) := by decide +kernel
theorem dL_holds_439 : decode cL_holds 439 = .ok (.iconst 0, 1) := by decide +kernel
theorem dL_holds_440 : decode cL_holds 440 = .ok (.iload 6, 2) := by decide +kernel
theorem dL_holds_442 : decode cL_holds 442 = .ok (.aload_n 0, 1) := by decide +kernel
theorem dL_holds_443 : decode cL_holds 443 = .ok (.iconst 3, 1) := by decide +kernel
theorem dL_holds_444 : decode cL_holds 444 = .ok (.invokevirtual 13, 3) := by decide +kernel
theorem dL_holds_447 : decode cL_holds 447 = .ok (.if_icmp .lt 7, 3) := by decide +kernel
theorem dL_holds_450 : decode cL_holds 450 = .ok (.iconst 1, 1) := by decide +kernel
theorem dL_holds_451 : decode cL_holds 451 = .ok (.goto 4, 3) := by decide +kernel
theorem dL_holds_454 : decode cL_holds 454 = .ok (.iconst 0, 1) := by decide +kernel
theorem dL_holds_455 : decode cL_holds 455 = .ok (.if_icmp .ne 47, 3) := by decide +kernel
theorem dL_holds_458 : decode cL_holds 458 = .ok (.iload 6, 2) := by decide +kernel
theorem dL_holds_460 : decode cL_holds 460 = .ok (.bipush 8, 2) := by decide +kernel
theorem dL_holds_462 : decode cL_holds 462 = .ok (.if_icmp .gt 36, 3) := by decide +kernel
theorem dL_holds_465 : decode cL_holds 465 = .ok (.aload_n 0, 1) := by decide +kernel
theorem dL_holds_466 : decode cL_holds 466 = .ok (.iload 6, 2) := by decide +kernel
theorem dL_holds_468 : decode cL_holds 468 = .ok (.invokevirtual 29, 3) := by decide +kernel
theorem dL_holds_471 : decode cL_holds 471 = .ok (.iconst (-1), 1) := by decide +kernel
theorem dL_holds_472 : decode cL_holds 472 = .ok (.if_icmp .ne 7, 3) := by decide +kernel
theorem dL_holds_475 : decode cL_holds 475 = .ok (.iconst 1, 1) := by decide +kernel
theorem dL_holds_476 : decode cL_holds 476 = .ok (.goto 4, 3) := by decide +kernel
theorem dL_holds_479 : decode cL_holds 479 = .ok (.iconst 0, 1) := by decide +kernel
theorem dL_holds_480 : decode cL_holds 480 = .ok (.iload 6, 2) := by decide +kernel
theorem dL_holds_482 : decode cL_holds 482 = .ok (.aload_n 0, 1) := by decide +kernel
theorem dL_holds_483 : decode cL_holds 483 = .ok (.iconst 2, 1) := by decide +kernel
theorem dL_holds_484 : decode cL_holds 484 = .ok (.invokevirtual 13, 3) := by decide +kernel
theorem dL_holds_487 : decode cL_holds 487 = .ok (.if_icmp .lt 7, 3) := by decide +kernel
theorem dL_holds_490 : decode cL_holds 490 = .ok (.iconst 1, 1) := by decide +kernel
theorem dL_holds_491 : decode cL_holds 491 = .ok (.goto 4, 3) := by decide +kernel
theorem dL_holds_494 : decode cL_holds 494 = .ok (.iconst 0, 1) := by decide +kernel
theorem dL_holds_495 : decode cL_holds 495 = .ok (.if_icmp .ne 7, 3) := by decide +kernel
theorem dL_holds_498 : decode cL_holds 498 = .ok (.iconst 1, 1) := by decide +kernel
theorem dL_holds_499 : decode cL_holds 499 = .ok (.goto 4, 3) := by decide +kernel
theorem dL_holds_502 : decode cL_holds 502 = .ok (.iconst 0, 1) := by decide +kernel
theorem dL_holds_503 : decode cL_holds 503 = .ok (.istore 5, 2) := by decide +kernel
theorem dL_holds_505 : decode cL_holds 505 = .ok (.iconst 0, 1) := by decide +kernel
theorem dL_holds_506 : decode cL_holds 506 = .ok (.istore 7, 2) := by decide +kernel
theorem dL_holds_508 : decode cL_holds 508 = .ok (.iload 7, 2) := by decide +kernel
theorem dL_holds_510 : decode cL_holds 510 = .ok (.iload 6, 2) := by decide +kernel
theorem dL_holds_512 : decode cL_holds 512 = .ok (.if_icmp .ge 46, 3) := by decide +kernel
theorem dL_holds_515 : decode cL_holds 515 = .ok (.iload 5, 2) := by decide +kernel
theorem dL_holds_517 : decode cL_holds 517 = .ok (.ifCond .eq 32, 3) := by decide +kernel
theorem dL_holds_520 : decode cL_holds 520 = .ok (.aload_n 0, 1) := by decide +kernel
theorem dL_holds_521 : decode cL_holds 521 = .ok (.iload 6, 2) := by decide +kernel
theorem dL_holds_523 : decode cL_holds 523 = .ok (.invokevirtual 26, 3) := by decide +kernel
theorem dL_holds_526 : decode cL_holds 526 = .ok (.iconst (-1), 1) := by decide +kernel
theorem dL_holds_527 : decode cL_holds 527 = .ok (.if_icmp .eq 18, 3) := by decide +kernel
theorem dL_holds_530 : decode cL_holds 530 = .ok (.aload_n 0, 1) := by decide +kernel
theorem dL_holds_531 : decode cL_holds 531 = .ok (.iload 6, 2) := by decide +kernel
theorem dL_holds_533 : decode cL_holds 533 = .ok (.invokevirtual 26, 3) := by decide +kernel
theorem dL_holds_536 : decode cL_holds 536 = .ok (.aload_n 0, 1) := by decide +kernel
theorem dL_holds_537 : decode cL_holds 537 = .ok (.iload 7, 2) := by decide +kernel
theorem dL_holds_539 : decode cL_holds 539 = .ok (.invokevirtual 26, 3) := by decide +kernel
theorem dL_holds_542 : decode cL_holds 542 = .ok (.if_icmp .eq 7, 3) := by decide +kernel
theorem dL_holds_545 : decode cL_holds 545 = .ok (.iconst 1, 1) := by decide +kernel
theorem dL_holds_546 : decode cL_holds 546 = .ok (.goto 4, 3) := by decide +kernel
theorem dL_holds_549 : decode cL_holds 549 = .ok (.iconst 0, 1) := by decide +kernel
theorem dL_holds_550 : decode cL_holds 550 = .ok (.istore 5, 2) := by decide +kernel
theorem dL_holds_552 : decode cL_holds 552 = .ok (.iinc 7 1, 3) := by decide +kernel
theorem dL_holds_555 : decode cL_holds 555 = .ok (.goto (-47), 3) := by decide +kernel
theorem dL_holds_558 : decode cL_holds 558 = .ok (.iinc 6 1, 3) := by decide +kernel
theorem dL_holds_561 : decode cL_holds 561 = .ok (.goto (-148), 3) := by decide +kernel
theorem dL_holds_564 : decode cL_holds 564 = .ok (.iload 5, 2) := by decide +kernel
theorem dL_holds_566 : decode cL_holds 566 = .ok (.ifCond .eq 59, 3) := by decide +kernel
theorem dL_holds_569 : decode cL_holds 569 = .ok (.iload_n 1, 1) := by decide +kernel
theorem dL_holds_570 : decode cL_holds 570 = .ok (.aload_n 0, 1) := by decide +kernel
theorem dL_holds_571 : decode cL_holds 571 = .ok (.iconst 4, 1) := by decide +kernel
theorem dL_holds_572 : decode cL_holds 572 = .ok (.invokevirtual 13, 3) := by decide +kernel
theorem dL_holds_575 : decode cL_holds 575 = .ok (.if_icmp .ne 50, 3) := by decide +kernel
theorem dL_holds_578 : decode cL_holds 578 = .ok (.iload 4, 2) := by decide +kernel
theorem dL_holds_580 : decode cL_holds 580 = .ok (.iload_n 1, 1) := by decide +kernel
theorem dL_holds_581 : decode cL_holds 581 = .ok (.if_icmp .ne 44, 3) := by decide +kernel
theorem dL_holds_584 : decode cL_holds 584 = .ok (.iload_n 2, 1) := by decide +kernel
theorem dL_holds_585 : decode cL_holds 585 = .ok (.aload_n 0, 1) := by decide +kernel
theorem dL_holds_586 : decode cL_holds 586 = .ok (.bipush 6, 2) := by decide +kernel
theorem dL_holds_588 : decode cL_holds 588 = .ok (.invokevirtual 13, 3) := by decide +kernel
theorem dL_holds_591 : decode cL_holds 591 = .ok (.if_icmp .ne 34, 3) := by decide +kernel
theorem dL_holds_594 : decode cL_holds 594 = .ok (.iload_n 3, 1) := by decide +kernel
theorem dL_holds_595 : decode cL_holds 595 = .ok (.aload_n 0, 1) := by decide +kernel
theorem dL_holds_596 : decode cL_holds 596 = .ok (.iconst 3, 1) := by decide +kernel
theorem dL_holds_597 : decode cL_holds 597 = .ok (.invokevirtual 13, 3) := by decide +kernel
theorem dL_holds_600 : decode cL_holds 600 = .ok (.if_icmp .ne 25, 3) := by decide +kernel
theorem dL_holds_603 : decode cL_holds 603 = .ok (.aload_n 0, 1) := by decide +kernel
theorem dL_holds_604 : decode cL_holds 604 = .ok (.invokevirtual 85, 3) := by decide +kernel
theorem dL_holds_607 : decode cL_holds 607 = .ok (.dconst 0, 1) := by decide +kernel
theorem dL_holds_608 : decode cL_holds 608 = .ok (.dcmp .l, 1) := by decide +kernel
theorem dL_holds_609 : decode cL_holds 609 = .ok (.ifCond .lt 16, 3) := by decide +kernel
theorem dL_holds_612 : decode cL_holds 612 = .ok (.aload_n 0, 1) := by decide +kernel
theorem dL_holds_613 : decode cL_holds 613 = .ok (.invokevirtual 85, 3) := by decide +kernel
theorem dL_holds_616 : decode cL_holds 616 = .ok (.dconst 1, 1) := by decide +kernel
theorem dL_holds_617 : decode cL_holds 617 = .ok (.dcmp .g, 1) := by decide +kernel
theorem dL_holds_618 : decode cL_holds 618 = .ok (.ifCond .gt 7, 3) := by decide +kernel
theorem dL_holds_621 : decode cL_holds 621 = .ok (.iconst 1, 1) := by decide +kernel
theorem dL_holds_622 : decode cL_holds 622 = .ok (.goto 4, 3) := by decide +kernel
theorem dL_holds_625 : decode cL_holds 625 = .ok (.iconst 0, 1) := by decide +kernel
theorem dL_holds_626 : decode cL_holds 626 = .ok (.ireturn, 1) := by decide +kernel
theorem dL_isAhead_0 : decode cL_isAhead 0 = .ok (.aload_n 0, 1) := by decide +kernel
theorem dL_isAhead_1 : decode cL_isAhead 1 = .ok (.invokestatic 89, 3) := by decide +kernel
theorem dL_isAhead_4 : decode cL_isAhead 4 = .ok (.lstore_n 3, 1) := by decide +kernel
theorem dL_isAhead_5 : decode cL_isAhead 5 = .ok (.aload_n 0, 1) := by decide +kernel
theorem dL_isAhead_6 : decode cL_isAhead 6 = .ok (.iload_n 1, 1) := by decide +kernel
theorem dL_isAhead_7 : decode cL_isAhead 7 = .ok (.invokevirtual 93, 3) := by decide +kernel
theorem dL_isAhead_10 : decode cL_isAhead 10 = .ok (.istore 5, 2) := by decide +kernel
theorem dL_isAhead_12 : decode cL_isAhead 12 = .ok (.iload 5, 2) := by decide +kernel
theorem dL_isAhead_14 : decode cL_isAhead 14 = .ok (.ifCond .ge 7, 3) := by decide +kernel
theorem dL_isAhead_17 : decode cL_isAhead 17 = .ok (.iconst 0, 1) := by decide +kernel
theorem dL_isAhead_18 : decode cL_isAhead 18 = .ok (.goto 18, 3) := by decide +kernel
theorem dL_isAhead_21 : decode cL_isAhead 21 = .ok (.aload_n 0, 1) := by decide +kernel
theorem dL_isAhead_22 : decode cL_isAhead 22 = .ok (.iload_n 1, 1) := by decide +kernel
theorem dL_isAhead_23 : decode cL_isAhead 23 = .ok (.iload 5, 2) := by decide +kernel
theorem dL_isAhead_25 : decode cL_isAhead 25 = .ok (.bipush 8, 2) := by decide +kernel
theorem dL_isAhead_27 : decode cL_isAhead 27 = .ok (.idiv, 1) := by decide +kernel
theorem dL_isAhead_28 : decode cL_isAhead 28 = .ok (.iload 5, 2) := by decide +kernel
theorem dL_isAhead_30 : decode cL_isAhead 30 = .ok (.bipush 8, 2) := by decide +kernel
theorem dL_isAhead_32 : decode cL_isAhead 32 = .ok (.irem, 1) := by decide +kernel
theorem dL_isAhead_33 : decode cL_isAhead 33 = .ok (.invokevirtual 96, 3) := by decide +kernel
theorem dL_isAhead_36 : decode cL_isAhead 36 = .ok (.istore 6, 2) := by decide +kernel
theorem dL_isAhead_38 : decode cL_isAhead 38 = .ok (.iload 5, 2) := by decide +kernel
theorem dL_isAhead_40 : decode cL_isAhead 40 = .ok (.ifCond .lt 21, 3) := by decide +kernel
theorem dL_isAhead_43 : decode cL_isAhead 43 = .ok (.aload_n 0, 1) := by decide +kernel
theorem dL_isAhead_44 : decode cL_isAhead 44 = .ok (.iload_n 1, 1) := by decide +kernel
theorem dL_isAhead_45 : decode cL_isAhead 45 = .ok (.iload 5, 2) := by decide +kernel
theorem dL_isAhead_47 : decode cL_isAhead 47 = .ok (.bipush 8, 2) := by decide +kernel
theorem dL_isAhead_49 : decode cL_isAhead 49 = .ok (.idiv, 1) := by decide +kernel
theorem dL_isAhead_50 : decode cL_isAhead 50 = .ok (.iload 5, 2) := by decide +kernel
theorem dL_isAhead_52 : decode cL_isAhead 52 = .ok (.bipush 8, 2) := by decide +kernel
theorem dL_isAhead_54 : decode cL_isAhead 54 = .ok (.irem, 1) := by decide +kernel
theorem dL_isAhead_55 : decode cL_isAhead 55 = .ok (.invokevirtual 69, 3) := by decide +kernel
theorem dL_isAhead_58 : decode cL_isAhead 58 = .ok (.ifCond .ne 7, 3) := by decide +kernel
theorem dL_isAhead_61 : decode cL_isAhead 61 = .ok (.iconst 1, 1) := by decide +kernel
theorem dL_isAhead_62 : decode cL_isAhead 62 = .ok (.goto 4, 3) := by decide +kernel
theorem dL_isAhead_65 : decode cL_isAhead 65 = .ok (.iconst 0, 1) := by decide +kernel
theorem dL_isAhead_66 : decode cL_isAhead 66 = .ok (.istore 7, 2) := by decide +kernel
theorem dL_isAhead_68 : decode cL_isAhead 68 = .ok (.iconst 0, 1) := by decide +kernel
theorem dL_isAhead_69 : decode cL_isAhead 69 = .ok (.istore 8, 2) := by decide +kernel
theorem dL_isAhead_71 : decode cL_isAhead 71 = .ok (.iload 8, 2) := by decide +kernel
theorem dL_isAhead_73 : decode cL_isAhead 73 = .ok (.bipush 8, 2) := by decide +kernel
theorem dL_isAhead_75 : decode cL_isAhead 75 = .ok (.aload_n 0, 1) := by decide +kernel
theorem dL_isAhead_76 : decode cL_isAhead 76 = .ok (.iconst 1, 1) := by decide +kernel
theorem dL_isAhead_77 : decode cL_isAhead 77 = .ok (.invokevirtual 13, 3) := by decide +kernel
theorem dL_isAhead_80 : decode cL_isAhead 80 = .ok (.imul, 1) := by decide +kernel
theorem dL_isAhead_81 : decode cL_isAhead 81 = .ok (.if_icmp .ge 165, 3) := by decide +kernel
theorem dL_isAhead_84 : decode cL_isAhead 84 = .ok (.iload 7, 2) := by decide +kernel
theorem dL_isAhead_86 : decode cL_isAhead 86 = .ok (.ifCond .eq 160, 3) := by decide +kernel
theorem dL_isAhead_89 : decode cL_isAhead 89 = .ok (.iload 8, 2) := by decide +kernel
theorem dL_isAhead_91 : decode cL_isAhead 91 = .ok (.bipush 8, 2) := by decide +kernel
theorem dL_isAhead_93 : decode cL_isAhead 93 = .ok (.irem, 1) := by decide +kernel
theorem dL_isAhead_94 : decode cL_isAhead 94 = .ok (.aload_n 0, 1) := by decide +kernel
theorem dL_isAhead_95 : decode cL_isAhead 95 = .ok (.iload 8, 2) := by decide +kernel
theorem dL_isAhead_97 : decode cL_isAhead 97 = .ok (.bipush 8, 2) := by decide +kernel
theorem dL_isAhead_99 : decode cL_isAhead 99 = .ok (.idiv, 1) := by decide +kernel
theorem dL_isAhead_100 : decode cL_isAhead 100 = .ok (.iconst 0, 1) := by decide +kernel
theorem dL_isAhead_101 : decode cL_isAhead 101 = .ok (.invokevirtual 23, 3) := by decide +kernel
theorem dL_isAhead_104 : decode cL_isAhead 104 = .ok (.if_icmp .ge 136, 3) := by decide +kernel
theorem dL_isAhead_107 : decode cL_isAhead 107 = .ok (.aload_n 0, 1) := by decide +kernel
theorem dL_isAhead_108 : decode cL_isAhead 108 = .ok (.iload_n 1, 1) := by decide +kernel
theorem dL_isAhead_109 : decode cL_isAhead 109 = .ok (.iload 8, 2) := by decide +kernel
theorem dL_isAhead_111 : decode cL_isAhead 111 = .ok (.bipush 8, 2) := by decide +kernel
theorem dL_isAhead_113 : decode cL_isAhead 113 = .ok (.idiv, 1) := by decide +kernel
theorem dL_isAhead_114 : decode cL_isAhead 114 = .ok (.iload 8, 2) := by decide +kernel
theorem dL_isAhead_116 : decode cL_isAhead 116 = .ok (.bipush 8, 2) := by decide +kernel
theorem dL_isAhead_118 : decode cL_isAhead 118 = .ok (.irem, 1) := by decide +kernel
theorem dL_isAhead_119 : decode cL_isAhead 119 = .ok (.invokevirtual 69, 3) := by decide +kernel
theorem dL_isAhead_122 : decode cL_isAhead 122 = .ok (.istore 9, 2) := by decide +kernel
theorem dL_isAhead_124 : decode cL_isAhead 124 = .ok (.aload_n 0, 1) := by decide +kernel
theorem dL_isAhead_125 : decode cL_isAhead 125 = .ok (.iload_n 1, 1) := by decide +kernel
theorem dL_isAhead_126 : decode cL_isAhead 126 = .ok (.iload 8, 2) := by decide +kernel
theorem dL_isAhead_128 : decode cL_isAhead 128 = .ok (.bipush 8, 2) := by decide +kernel
theorem dL_isAhead_130 : decode cL_isAhead 130 = .ok (.idiv, 1) := by decide +kernel
theorem dL_isAhead_131 : decode cL_isAhead 131 = .ok (.iload 8, 2) := by decide +kernel
theorem dL_isAhead_133 : decode cL_isAhead 133 = .ok (.bipush 8, 2) := by decide +kernel
theorem dL_isAhead_135 : decode cL_isAhead 135 = .ok (.irem, 1) := by decide +kernel
theorem dL_isAhead_136 : decode cL_isAhead 136 = .ok (.invokevirtual 96, 3) := by decide +kernel
theorem dL_isAhead_139 : decode cL_isAhead 139 = .ok (.istore 10, 2) := by decide +kernel
theorem dL_isAhead_141 : decode cL_isAhead 141 = .ok (.iload 10, 2) := by decide +kernel
theorem dL_isAhead_143 : decode cL_isAhead 143 = .ok (.iconst (-1), 1) := by decide +kernel
theorem dL_isAhead_144 : decode cL_isAhead 144 = .ok (.if_icmp .ne 7, 3) := by decide +kernel
theorem dL_isAhead_147 : decode cL_isAhead 147 = .ok (.iconst 1, 1) := by decide +kernel
theorem dL_isAhead_148 : decode cL_isAhead 148 = .ok (.goto 4, 3) := by decide +kernel
theorem dL_isAhead_151 : decode cL_isAhead 151 = .ok (.iconst 0, 1) := by decide +kernel
theorem dL_isAhead_152 : decode cL_isAhead 152 = .ok (.iload 9, 2) := by decide +kernel
theorem dL_isAhead_154 : decode cL_isAhead 154 = .ok (.ifCond .le 7, 3) := by decide +kernel
theorem dL_isAhead_157 : decode cL_isAhead 157 = .ok (.iconst 1, 1) := by decide +kernel
theorem dL_isAhead_158 : decode cL_isAhead 158 = .ok (.goto 4, 3) := by decide +kernel
theorem dL_isAhead_161 : decode cL_isAhead 161 = .ok (.iconst 0, 1) := by decide +kernel
theorem dL_isAhead_162 : decode cL_isAhead 162 = .ok (.if_icmp .ne 75, 3) := by decide +kernel
theorem dL_isAhead_165 : decode cL_isAhead 165 = .ok (.iload 9, 2) := by decide +kernel
theorem dL_isAhead_167 : decode cL_isAhead 167 = .ok (.iconst 1, 1) := by decide +kernel
theorem dL_isAhead_168 : decode cL_isAhead 168 = .ok (.if_icmp .ne 7, 3) := by decide +kernel
theorem dL_isAhead_171 : decode cL_isAhead 171 = .ok (.iconst 1, 1) := by decide +kernel
theorem dL_isAhead_172 : decode cL_isAhead 172 = .ok (.goto 4, 3) := by decide +kernel
theorem dL_isAhead_175 : decode cL_isAhead 175 = .ok (.iconst 0, 1) := by decide +kernel
theorem dL_isAhead_176 : decode cL_isAhead 176 = .ok (.aload_n 0, 1) := by decide +kernel
theorem dL_isAhead_177 : decode cL_isAhead 177 = .ok (.iload 8, 2) := by decide +kernel
theorem dL_isAhead_179 : decode cL_isAhead 179 = .ok (.bipush 8, 2) := by decide +kernel
theorem dL_isAhead_181 : decode cL_isAhead 181 = .ok (.idiv, 1) := by decide +kernel
theorem dL_isAhead_182 : decode cL_isAhead 182 = .ok (.iload 8, 2) := by decide +kernel
theorem dL_isAhead_184 : decode cL_isAhead 184 = .ok (.bipush 8, 2) := by decide +kernel
theorem dL_isAhead_186 : decode cL_isAhead 186 = .ok (.irem, 1) := by decide +kernel
theorem dL_isAhead_187 : decode cL_isAhead 187 = .ok (.invokevirtual 76, 3) := by decide +kernel
theorem dL_isAhead_190 : decode cL_isAhead 190 = .ok (.iload_n 1, 1) := by decide +kernel
theorem dL_isAhead_191 : decode cL_isAhead 191 = .ok (.if_icmp .ne 7, 3) := by decide +kernel
theorem dL_isAhead_194 : decode cL_isAhead 194 = .ok (.iconst 1, 1) := by decide +kernel
theorem dL_isAhead_195 : decode cL_isAhead 195 = .ok (.goto 4, 3) := by decide +kernel
theorem dL_isAhead_198 : decode cL_isAhead 198 = .ok (.iconst 0, 1) := by decide +kernel
theorem dL_isAhead_199 : decode cL_isAhead 199 = .ok (.if_icmp .ne 38, 3) := by decide +kernel
theorem dL_isAhead_202 : decode cL_isAhead 202 = .ok (.iload 9, 2) := by decide +kernel
theorem dL_isAhead_204 : decode cL_isAhead 204 = .ok (.ifCond .gt 29, 3) := by decide +kernel
theorem dL_isAhead_207 : decode cL_isAhead 207 = .ok (.iload 5, 2) := by decide +kernel
theorem dL_isAhead_209 : decode cL_isAhead 209 = .ok (.ifCond .lt 28, 3) := by decide +kernel
theorem dL_isAhead_212 : decode cL_isAhead 212 = .ok (.iload 10, 2) := by decide +kernel
theorem dL_isAhead_214 : decode cL_isAhead 214 = .ok (.iload 6, 2) := by decide +kernel
theorem dL_isAhead_216 : decode cL_isAhead 216 = .ok (.if_icmp .gt 21, 3) := by decide +kernel
theorem dL_isAhead_219 : decode cL_isAhead 219 = .ok (.iload 10, 2) := by decide +kernel
theorem dL_isAhead_221 : decode cL_isAhead 221 = .ok (.iload 6, 2) := by decide +kernel
theorem dL_isAhead_223 : decode cL_isAhead 223 = .ok (.if_icmp .lt 10, 3) := by decide +kernel
theorem dL_isAhead_226 : decode cL_isAhead 226 = .ok (.iload 8, 2) := by decide +kernel
theorem dL_isAhead_228 : decode cL_isAhead 228 = .ok (.iload 5, 2) := by decide +kernel
theorem dL_isAhead_230 : decode cL_isAhead 230 = .ok (.if_icmp .lt 7, 3) := by decide +kernel
theorem dL_isAhead_233 : decode cL_isAhead 233 = .ok (.iconst 1, 1) := by decide +kernel
theorem dL_isAhead_234 : decode cL_isAhead 234 = .ok (.goto 4, 3) := by decide +kernel
theorem dL_isAhead_237 : decode cL_isAhead 237 = .ok (.iconst 0, 1) := by decide +kernel
theorem dL_isAhead_238 : decode cL_isAhead 238 = .ok (.istore 7, 2) := by decide +kernel
theorem dL_isAhead_240 : decode cL_isAhead 240 = .ok (.iinc 8 1, 3) := by decide +kernel
theorem dL_isAhead_243 : decode cL_isAhead 243 = .ok (.goto (-172), 3) := by decide +kernel
theorem dL_isAhead_246 : decode cL_isAhead 246 = .ok (.iload 7, 2) := by decide +kernel
theorem dL_isAhead_248 : decode cL_isAhead 248 = .ok (.ifCond .eq 61, 3) := by decide +kernel
theorem dL_isAhead_251 : decode cL_isAhead 251 = .ok (.iload 5, 2) := by decide +kernel
theorem dL_isAhead_253 : decode cL_isAhead 253 = .ok (.ifCond .lt 56, 3) := by decide +kernel
theorem dL_isAhead_256 : decode cL_isAhead 256 = .ok (.aload_n 0, 1) := by decide +kernel
theorem dL_isAhead_257 : decode cL_isAhead 257 = .ok (.iload_n 1, 1) := by decide +kernel
theorem dL_isAhead_258 : decode cL_isAhead 258 = .ok (.iload 5, 2) := by decide +kernel
theorem dL_isAhead_260 : decode cL_isAhead 260 = .ok (.bipush 8, 2) := by decide +kernel
theorem dL_isAhead_262 : decode cL_isAhead 262 = .ok (.idiv, 1) := by decide +kernel
theorem dL_isAhead_263 : decode cL_isAhead 263 = .ok (.iload 5, 2) := by decide +kernel
theorem dL_isAhead_265 : decode cL_isAhead 265 = .ok (.bipush 8, 2) := by decide +kernel
theorem dL_isAhead_267 : decode cL_isAhead 267 = .ok (.irem, 1) := by decide +kernel
theorem dL_isAhead_268 : decode cL_isAhead 268 = .ok (.invokevirtual 73, 3) := by decide +kernel
theorem dL_isAhead_271 : decode cL_isAhead 271 = .ok (.iload 6, 2) := by decide +kernel
theorem dL_isAhead_273 : decode cL_isAhead 273 = .ok (.sipush 1000, 3) := by decide +kernel
theorem dL_isAhead_276 : decode cL_isAhead 276 = .ok (.isub, 1) := by decide +kernel
theorem dL_isAhead_277 : decode cL_isAhead 277 = .ok (.if_icmp .ne 29, 3) := by decide +kernel
theorem dL_isAhead_280 : decode cL_isAhead 280 = .ok (.aload_n 0, 1) := by decide +kernel
theorem dL_isAhead_281 : decode cL_isAhead 281 = .ok (.aload_n 0, 1) := by decide +kernel
theorem dL_isAhead_282 : decode cL_isAhead 282 = .ok (.iconst 3, 1) := by decide +kernel
theorem dL_isAhead_283 : decode cL_isAhead 283 = .ok (.invokevirtual 13, 3) := by decide +kernel
theorem dL_isAhead_286 : decode cL_isAhead 286 = .ok (.iconst 1, 1) := by decide +kernel
theorem dL_isAhead_287 : decode cL_isAhead 287 = .ok (.isub, 1) := by decide +kernel
theorem dL_isAhead_288 : decode cL_isAhead 288 = .ok (.invokevirtual 26, 3) := by decide +kernel
theorem dL_isAhead_291 : decode cL_isAhead 291 = .ok (.iload_n 1, 1) := by decide +kernel
theorem dL_isAhead_292 : decode cL_isAhead 292 = .ok (.if_icmp .ne 14, 3) := by decide +kernel
theorem dL_isAhead_295 : decode cL_isAhead 295 = .ok (.aload_n 0, 1) := by decide +kernel
theorem dL_isAhead_296 : decode cL_isAhead 296 = .ok (.invokevirtual 99, 3) := by decide +kernel
theorem dL_isAhead_299 : decode cL_isAhead 299 = .ok (.ifCond .lt 7, 3) := by decide +kernel
theorem dL_isAhead_302 : decode cL_isAhead 302 = .ok (.iconst 1, 1) := by decide +kernel
theorem dL_isAhead_303 : decode cL_isAhead 303 = .ok (.goto 4, 3) := by decide +kernel
theorem dL_isAhead_306 : decode cL_isAhead 306 = .ok (.iconst 0, 1) := by decide +kernel
theorem dL_isAhead_307 : decode cL_isAhead 307 = .ok (.istore 7, 2) := by decide +kernel
theorem dL_isAhead_309 : decode cL_isAhead 309 = .ok (.aload_n 0, 1) := by decide +kernel
theorem dL_isAhead_310 : decode cL_isAhead 310 = .ok (.bipush 8, 2) := by decide +kernel
theorem dL_isAhead_312 : decode cL_isAhead 312 = .ok (.invokevirtual 13, 3) := by decide +kernel
theorem dL_isAhead_315 : decode cL_isAhead 315 = .ok (.istore 8, 2) := by decide +kernel
theorem dL_isAhead_317 : decode cL_isAhead 317 = .ok (.iload 7, 2) := by decide +kernel
theorem dL_isAhead_319 : decode cL_isAhead 319 = .ok (.ifCond .eq 52, 3) := by decide +kernel
theorem dL_isAhead_322 : decode cL_isAhead 322 = .ok (.aload_n 0, 1) := by decide +kernel
theorem dL_isAhead_323 : decode cL_isAhead 323 = .ok (.iload_n 1, 1) := by decide +kernel
theorem dL_isAhead_324 : decode cL_isAhead 324 = .ok (.iconst 3, 1) := by decide +kernel
theorem dL_isAhead_325 : decode cL_isAhead 325 = .ok (.invokevirtual 19, 3) := by decide +kernel
theorem dL_isAhead_328 : decode cL_isAhead 328 = .ok (.ifCond .lt 43, 3) := by decide +kernel
theorem dL_isAhead_331 : decode cL_isAhead 331 = .ok (.aload_n 0, 1) := by decide +kernel
theorem dL_isAhead_332 : decode cL_isAhead 332 = .ok (.iload_n 1, 1) := by decide +kernel
theorem dL_isAhead_333 : decode cL_isAhead 333 = .ok (.invokevirtual 63, 3) := by decide +kernel
theorem dL_isAhead_336 : decode cL_isAhead 336 = .ok (.aload_n 0, 1) := by decide +kernel
theorem dL_isAhead_337 : decode cL_isAhead 337 = .ok (.iconst 4, 1) := by decide +kernel
theorem dL_isAhead_338 : decode cL_isAhead 338 = .ok (.invokevirtual 13, 3) := by decide +kernel
theorem dL_isAhead_341 : decode cL_isAhead 341 = .ok (.if_icmp .ne 27, 3) := by decide +kernel
theorem dL_isAhead_344 : decode cL_isAhead 344 = .ok (.aload_n 0, 1) := by decide +kernel
theorem dL_isAhead_345 : decode cL_isAhead 345 = .ok (.bipush 8, 2) := by decide +kernel
theorem dL_isAhead_347 : decode cL_isAhead 347 = .ok (.invokevirtual 13, 3) := by decide +kernel
theorem dL_isAhead_350 : decode cL_isAhead 350 = .ok (.iload 8, 2) := by decide +kernel
theorem dL_isAhead_352 : decode cL_isAhead 352 = .ok (.iconst 1, 1) := by decide +kernel
theorem dL_isAhead_353 : decode cL_isAhead 353 = .ok (.iadd, 1) := by decide +kernel
theorem dL_isAhead_354 : decode cL_isAhead 354 = .ok (.if_icmp .ne 14, 3) := by decide +kernel
theorem dL_isAhead_357 : decode cL_isAhead 357 = .ok (.aload_n 0, 1) := by decide +kernel
theorem dL_isAhead_358 : decode cL_isAhead 358 = .ok (.invokevirtual 99, 3) := by decide +kernel
theorem dL_isAhead_361 : decode cL_isAhead 361 = .ok (.ifCond .lt 7, 3) := by decide +kernel
theorem dL_isAhead_364 : decode cL_isAhead 364 = .ok (.iconst 1, 1) := by decide +kernel
theorem dL_isAhead_365 : decode cL_isAhead 365 = .ok (.goto 4, 3) := by decide +kernel
theorem dL_isAhead_368 : decode cL_isAhead 368 = .ok (.iconst 0, 1) := by decide +kernel
theorem dL_isAhead_369 : decode cL_isAhead 369 = .ok (.istore 7, 2) := by decide +kernel
theorem dL_isAhead_371 : decode cL_isAhead 371 = .ok (.iload_n 2, 1) := by decide +kernel
theorem dL_isAhead_372 : decode cL_isAhead 372 = .ok (.bipush 6, 2) := by decide +kernel
theorem dL_isAhead_374 : decode cL_isAhead 374 = .ok (.invokestatic 32, 3) := by decide +kernel
theorem dL_isAhead_377 : decode cL_isAhead 377 = .ok (.istore 9, 2) := by decide +kernel
theorem dL_isAhead_379 : decode cL_isAhead 379 = .ok (.iload 9, 2) := by decide +kernel
theorem dL_isAhead_381 : decode cL_isAhead 381 = .ok (.iconst 1, 1) := by decide +kernel
theorem dL_isAhead_382 : decode cL_isAhead 382 = .ok (.iadd, 1) := by decide +kernel
theorem dL_isAhead_383 : decode cL_isAhead 383 = .ok (.iload_n 2, 1) := by decide +kernel
theorem dL_isAhead_384 : decode cL_isAhead 384 = .ok (.iconst 3, 1) := by decide +kernel
theorem dL_isAhead_385 : decode cL_isAhead 385 = .ok (.ishr, 1) := by decide +kernel
theorem dL_isAhead_386 : decode cL_isAhead 386 = .ok (.iconst 5, 1) := by decide +kernel
theorem dL_isAhead_387 : decode cL_isAhead 387 = .ok (.invokestatic 32, 3) := by decide +kernel
theorem dL_isAhead_390 : decode cL_isAhead 390 = .ok (.iadd, 1) := by decide +kernel
theorem dL_isAhead_391 : decode cL_isAhead 391 = .ok (.bipush 6, 2) := by decide +kernel
theorem dL_isAhead_393 : decode cL_isAhead 393 = .ok (.irem, 1) := by decide +kernel
theorem dL_isAhead_394 : decode cL_isAhead 394 = .ok (.istore 10, 2) := by decide +kernel
theorem dL_isAhead_396 : decode cL_isAhead 396 = .ok (.aload_n 0, 1) := by decide +kernel
theorem dL_isAhead_397 : decode cL_isAhead 397 = .ok (.iload 9, 2) := by decide +kernel
theorem dL_isAhead_399 : decode cL_isAhead 399 = .ok (.iload 10, 2) := by decide +kernel
theorem dL_isAhead_401 : decode cL_isAhead 401 = .ok (.invokevirtual 102, 3) := by decide +kernel
theorem dL_isAhead_404 : decode cL_isAhead 404 = .ok (.istore 11, 2) := by decide +kernel
theorem dL_isAhead_406 : decode cL_isAhead 406 = .ok (.iload 7, 2) := by decide +kernel
theorem dL_isAhead_408 : decode cL_isAhead 408 = .ok (.ifCond .eq 29, 3) := by decide +kernel
theorem dL_isAhead_411 : decode cL_isAhead 411 = .ok (.iload 11, 2) := by decide +kernel
theorem dL_isAhead_413 : decode cL_isAhead 413 = .ok (.aload_n 0, 1) := by decide +kernel
theorem dL_isAhead_414 : decode cL_isAhead 414 = .ok (.iload 10, 2) := by decide +kernel
theorem dL_isAhead_416 : decode cL_isAhead 416 = .ok (.iload 9, 2) := by decide +kernel
theorem dL_isAhead_418 : decode cL_isAhead 418 = .ok (.invokevirtual 102, 3) := by decide +kernel
theorem dL_isAhead_421 : decode cL_isAhead 421 = .ok (.if_icmp .ne 16, 3) := by decide +kernel
theorem dL_isAhead_424 : decode cL_isAhead 424 = .ok (.aload_n 0, 1) := by decide +kernel
theorem dL_isAhead_425 : decode cL_isAhead 425 = .ok (.invokestatic 89, 3) := by decide +kernel
theorem dL_isAhead_428 : decode cL_isAhead 428 = .ok (.lload_n 3, 1) := by decide +kernel
theorem dL_isAhead_429 : decode cL_isAhead 429 = .ok (.lcmp, 1) := by decide +kernel
theorem dL_isAhead_430 : decode cL_isAhead 430 = .ok (.ifCond .ne 7, 3) := by decide +kernel
theorem dL_isAhead_433 : decode cL_isAhead 433 = .ok (.iconst 1, 1) := by decide +kernel
theorem dL_isAhead_434 : decode cL_isAhead 434 = .ok (.goto 4, 3) := by decide +kernel
theorem dL_isAhead_437 : decode cL_isAhead 437 = .ok (.iconst 0, 1) := by decide +kernel
theorem dL_isAhead_438 : decode cL_isAhead 438 = .ok (.istore 7, 2) := by decide +kernel
theorem dL_isAhead_440 : decode cL_isAhead 440 = .ok (.iload 7, 2) := by decide +kernel
theorem dL_isAhead_442 : decode cL_isAhead 442 = .ok (.ifCond .eq 127, 3) := by decide +kernel
theorem dL_isAhead_445 : decode cL_isAhead 445 = .ok (.aload_n 0, 1) := by decide +kernel
theorem dL_isAhead_446 : decode cL_isAhead 446 = .ok (.iload 9, 2) := by decide +kernel
theorem dL_isAhead_448 : decode cL_isAhead 448 = .ok (.iload 10, 2) := by decide +kernel
theorem dL_isAhead_450 : decode cL_isAhead 450 = .ok (.invokestatic 50, 3) := by decide +kernel
theorem dL_isAhead_453 : decode cL_isAhead 453 = .ok (.ifCond .ne 116, 3) := by decide +kernel
theorem dL_isAhead_456 : decode cL_isAhead 456 = .ok (.aload_n 0, 1) := by decide +kernel
theorem dL_isAhead_457 : decode cL_isAhead 457 = .ok (.iconst 2, 1) := by decide +kernel
theorem dL_isAhead_458 : decode cL_isAhead 458 = .ok (.invokevirtual 13, 3) := by decide +kernel
theorem dL_isAhead_461 : decode cL_isAhead 461 = .ok (.bipush 8, 2) := by decide +kernel
theorem dL_isAhead_463 : decode cL_isAhead 463 = .ok (.if_icmp .ge 106, 3) := by decide +kernel
theorem dL_isAhead_466 : decode cL_isAhead 466 = .ok (.aload_n 0, 1) := by decide +kernel
theorem dL_isAhead_467 : decode cL_isAhead 467 = .ok (.iconst 3, 1) := by decide +kernel
theorem dL_isAhead_468 : decode cL_isAhead 468 = .ok (.invokevirtual 13, 3) := by decide +kernel
theorem dL_isAhead_471 : decode cL_isAhead 471 = .ok (.istore 12, 2) := by decide +kernel
theorem dL_isAhead_473 : decode cL_isAhead 473 = .ok (.aload_n 0, 1) := by decide +kernel
theorem dL_isAhead_474 : decode cL_isAhead 474 = .ok (.iload 9, 2) := by decide +kernel
theorem dL_isAhead_476 : decode cL_isAhead 476 = .ok (.iload 10, 2) := by decide +kernel
theorem dL_isAhead_478 : decode cL_isAhead 478 = .ok (.invokevirtual 57, 3) := by decide +kernel
theorem dL_isAhead_481 : decode cL_isAhead 481 = .ok (.iload 11, 2) := by decide +kernel
theorem dL_isAhead_483 : decode cL_isAhead 483 = .ok (.if_icmp .ne 83, 3) := by decide +kernel
theorem dL_isAhead_486 : decode cL_isAhead 486 = .ok (.aload_n 0, 1) := by decide +kernel
theorem dL_isAhead_487 : decode cL_isAhead 487 = .ok (.bipush 8, 2) := by decide +kernel
theorem dL_isAhead_489 : decode cL_isAhead 489 = .ok (.invokevirtual 13, 3) := by decide +kernel
theorem dL_isAhead_492 : decode cL_isAhead 492 = .ok (.iload 8, 2) := by decide +kernel
theorem dL_isAhead_494 : decode cL_isAhead 494 = .ok (.iload 11, 2) := by decide +kernel
theorem dL_isAhead_496 : decode cL_isAhead 496 = .ok (.iadd, 1) := by decide +kernel
theorem dL_isAhead_497 : decode cL_isAhead 497 = .ok (.if_icmp .ne 69, 3) := by decide +kernel
theorem dL_isAhead_500 : decode cL_isAhead 500 = .ok (.aload_n 0, 1) := by decide +kernel
theorem dL_isAhead_501 : decode cL_isAhead 501 = .ok (.iconst 3, 1) := by decide +kernel
theorem dL_isAhead_502 : decode cL_isAhead 502 = .ok (.invokevirtual 13, 3) := by decide +kernel
theorem dL_isAhead_505 : decode cL_isAhead 505 = .ok (.iload 12, 2) := by decide +kernel
theorem dL_isAhead_507 : decode cL_isAhead 507 = .ok (.iload 11, 2) := by decide +kernel
theorem dL_isAhead_509 : decode cL_isAhead 509 = .ok (.isub, 1) := by decide +kernel
theorem dL_isAhead_510 : decode cL_isAhead 510 = .ok (.if_icmp .ne 56, 3) := by decide +kernel
theorem dL_isAhead_513 : decode cL_isAhead 513 = .ok (.aload_n 0, 1) := by decide +kernel
theorem dL_isAhead_514 : decode cL_isAhead 514 = .ok (.iload 9, 2) := by decide +kernel
theorem dL_isAhead_516 : decode cL_isAhead 516 = .ok (.iload 10, 2) := by decide +kernel
theorem dL_isAhead_518 : decode cL_isAhead 518 = .ok (.invokevirtual 102, 3) := by decide +kernel
theorem dL_isAhead_521 : decode cL_isAhead 521 = .ok (.ifCond .ne 45, 3) := by decide +kernel
theorem dL_isAhead_524 : decode cL_isAhead 524 = .ok (.aload_n 0, 1) := by decide +kernel
theorem dL_isAhead_525 : decode cL_isAhead 525 = .ok (.iload 10, 2) := by decide +kernel
theorem dL_isAhead_527 : decode cL_isAhead 527 = .ok (.iload 9, 2) := by decide +kernel
theorem dL_isAhead_529 : decode cL_isAhead 529 = .ok (.invokevirtual 54, 3) := by decide +kernel
theorem dL_isAhead_532 : decode cL_isAhead 532 = .ok (.ifCond .lt 34, 3) := by decide +kernel
theorem dL_isAhead_535 : decode cL_isAhead 535 = .ok (.aload_n 0, 1) := by decide +kernel
theorem dL_isAhead_536 : decode cL_isAhead 536 = .ok (.iconst 3, 1) := by decide +kernel
theorem dL_isAhead_537 : decode cL_isAhead 537 = .ok (.invokevirtual 13, 3) := by decide +kernel
theorem dL_isAhead_540 : decode cL_isAhead 540 = .ok (.iload 12, 2) := by decide +kernel
theorem dL_isAhead_542 : decode cL_isAhead 542 = .ok (.iload 11, 2) := by decide +kernel
theorem dL_isAhead_544 : decode cL_isAhead 544 = .ok (.isub, 1) := by decide +kernel
theorem dL_isAhead_545 : decode cL_isAhead 545 = .ok (.if_icmp .ne 21, 3) := by decide +kernel
theorem dL_isAhead_548 : decode cL_isAhead 548 = .ok (.aload_n 0, 1) := by decide +kernel
theorem dL_isAhead_549 : decode cL_isAhead 549 = .ok (.invokevirtual 99, 3) := by decide +kernel
theorem dL_isAhead_552 : decode cL_isAhead 552 = .ok (.ifCond .lt 14, 3) := by decide +kernel
theorem dL_isAhead_555 : decode cL_isAhead 555 = .ok (.aload_n 0, 1) := by decide +kernel
theorem dL_isAhead_556 : decode cL_isAhead 556 = .ok (.invokevirtual 99, 3) := by decide +kernel
theorem dL_isAhead_559 : decode cL_isAhead 559 = .ok (.ifCond .lt 7, 3) := by decide +kernel
theorem dL_isAhead_562 : decode cL_isAhead 562 = .ok (.iconst 1, 1) := by decide +kernel
theorem dL_isAhead_563 : decode cL_isAhead 563 = .ok (.goto 4, 3) := by decide +kernel
theorem dL_isAhead_566 : decode cL_isAhead 566 = .ok (.iconst 0, 1) := by decide +kernel
theorem dL_isAhead_567 : decode cL_isAhead 567 = .ok (.istore 7, 2) := by decide +kernel
theorem dL_isAhead_569 : decode cL_isAhead 569 = .ok (.aload_n 0, 1) := by decide +kernel
theorem dL_isAhead_570 : decode cL_isAhead 570 = .ok (.iconst 0, 1) := by decide +kernel
theorem dL_isAhead_571 : decode cL_isAhead 571 = .ok (.invokevirtual 105, 3) := by decide +kernel
theorem dL_isAhead_574 : decode cL_isAhead 574 = .ok (.istore 12, 2) := by decide +kernel
theorem dL_isAhead_576 : decode cL_isAhead 576 = .ok (.aload_n 0, 1) := by decide +kernel
theorem dL_isAhead_577 : decode cL_isAhead 577 = .ok (.iconst 1, 1) := by decide +kernel
theorem dL_isAhead_578 : decode cL_isAhead 578 = .ok (.invokevirtual 105, 3) := by decide +kernel
theorem dL_isAhead_581 : decode cL_isAhead 581 = .ok (.istore 13, 2) := by decide +kernel
theorem dL_isAhead_583 : decode cL_isAhead 583 = .ok (.iload 7, 2) := by decide +kernel
theorem dL_isAhead_585 : decode cL_isAhead 585 = .ok (.ifCond .eq 62, 3) := by decide +kernel
theorem dL_isAhead_588 : decode cL_isAhead 588 = .ok (.aload_n 0, 1) := by decide +kernel
theorem dL_isAhead_589 : decode cL_isAhead 589 = .ok (.invokevirtual 43, 3) := by decide +kernel
theorem dL_isAhead_592 : decode cL_isAhead 592 = .ok (.iload 12, 2) := by decide +kernel
theorem dL_isAhead_594 : decode cL_isAhead 594 = .ok (.if_icmp .ne 53, 3) := by decide +kernel
theorem dL_isAhead_597 : decode cL_isAhead 597 = .ok (.aload_n 0, 1) := by decide +kernel
theorem dL_isAhead_598 : decode cL_isAhead 598 = .ok (.iconst 4, 1) := by decide +kernel
theorem dL_isAhead_599 : decode cL_isAhead 599 = .ok (.invokevirtual 13, 3) := by decide +kernel
theorem dL_isAhead_602 : decode cL_isAhead 602 = .ok (.iload 13, 2) := by decide +kernel
theorem dL_isAhead_604 : decode cL_isAhead 604 = .ok (.sipush 1000, 3) := by decide +kernel
theorem dL_isAhead_607 : decode cL_isAhead 607 = .ok (.isub, 1) := by decide +kernel
theorem dL_isAhead_608 : decode cL_isAhead 608 = .ok (.if_icmp .ne 39, 3) := by decide +kernel
theorem dL_isAhead_611 : decode cL_isAhead 611 = .ok (.aload_n 0, 1) := by decide +kernel
theorem dL_isAhead_612 : decode cL_isAhead 612 = .ok (.iconst 0, 1) := by decide +kernel
theorem dL_isAhead_613 : decode cL_isAhead 613 = .ok (.invokevirtual 13, 3) := by decide +kernel
theorem dL_isAhead_616 : decode cL_isAhead 616 = .ok (.aload_n 0, 1) := by decide +kernel
theorem dL_isAhead_617 : decode cL_isAhead 617 = .ok (.iconst 3, 1) := by decide +kernel
theorem dL_isAhead_618 : decode cL_isAhead 618 = .ok (.invokevirtual 13, 3) := by decide +kernel
theorem dL_isAhead_621 : decode cL_isAhead 621 = .ok (.isub, 1) := by decide +kernel
theorem dL_isAhead_622 : decode cL_isAhead 622 = .ok (.iload 12, 2) := by decide +kernel
theorem dL_isAhead_624 : decode cL_isAhead 624 = .ok (.if_icmp .ne 23, 3) := by decide +kernel
theorem dL_isAhead_627 : decode cL_isAhead 627 = .ok (.aload_n 0, 1) := by decide +kernel
theorem dL_isAhead_628 : decode cL_isAhead 628 = .ok (.invokevirtual 99, 3) := by decide +kernel
theorem dL_isAhead_631 : decode cL_isAhead 631 = .ok (.ifCond .lt 16, 3) := by decide +kernel
theorem dL_isAhead_634 : decode cL_isAhead 634 = .ok (.aload_n 0, 1) := by decide +kernel
theorem dL_isAhead_635 : decode cL_isAhead 635 = .ok (.invokestatic 89, 3) := by decide +kernel
theorem dL_isAhead_638 : decode cL_isAhead 638 = .ok (.lload_n 3, 1) := by decide +kernel
theorem dL_isAhead_639 : decode cL_isAhead 639 = .ok (.lcmp, 1) := by decide +kernel
theorem dL_isAhead_640 : decode cL_isAhead 640 = .ok (.ifCond .ne 7, 3) := by decide +kernel
theorem dL_isAhead_643 : decode cL_isAhead 643 = .ok (.iconst 1, 1) := by decide +kernel
theorem dL_isAhead_644 : decode cL_isAhead 644 = .ok (.goto 4, 3) := by decide +kernel
theorem dL_isAhead_647 : decode cL_isAhead 647 = .ok (.iconst 0, 1) := by decide +kernel
theorem dL_isAhead_648 : decode cL_isAhead 648 = .ok (.ireturn, 1) := by decide +kernel
theorem dL_law_0 : decode cL_law 0 = .ok (.new 14, 3) := by decide +kernel
theorem dL_law_3 : decode cL_law 3 = .ok (.dup, 1) := by decide +kernel
theorem dL_law_4 : decode cL_law 4 = .ok (.invokespecial 108, 3) := by decide +kernel
theorem dL_law_7 : decode cL_law 7 = .ok (.astore_n 1, 1) := by decide +kernel
theorem dL_law_8 : decode cL_law 8 = .ok (.aload_n 1, 1) := by decide +kernel
theorem dL_law_9 : decode cL_law 9 = .ok (.invokevirtual 109, 3) := by decide +kernel
theorem dL_law_12 : decode cL_law 12 = .ok (.ifCond .ne 14, 3) := by decide +kernel
theorem dL_law_15 : decode cL_law 15 = .ok (.aload_n 1, 1) := by decide +kernel
theorem dL_law_16 : decode cL_law 16 = .ok (.invokestatic 112, 3) := by decide +kernel
theorem dL_law_19 : decode cL_law 19 = .ok (.ifCond .eq 7, 3) := by decide +kernel
theorem dL_law_22 : decode cL_law 22 = .ok (.iconst 1, 1) := by decide +kernel
theorem dL_law_23 : decode cL_law 23 = .ok (.goto 4, 3) := by decide +kernel
theorem dL_law_26 : decode cL_law 26 = .ok (.iconst 0, 1) := by decide +kernel
theorem dL_law_27 : decode cL_law 27 = .ok (.istore_n 2, 1) := by decide +kernel
theorem dL_law_28 : decode cL_law 28 = .ok (.iconst 0, 1) := by decide +kernel
theorem dL_law_29 : decode cL_law 29 = .ok (.istore_n 3, 1) := by decide +kernel
theorem dL_law_30 : decode cL_law 30 = .ok (.iload_n 3, 1) := by decide +kernel
theorem dL_law_31 : decode cL_law 31 = .ok (.bipush 40, 2) := by decide +kernel
theorem dL_law_33 : decode cL_law 33 = .ok (.if_icmp .ge 247, 3) := by decide +kernel
theorem dL_law_36 : decode cL_law 36 = .ok (.iload_n 2, 1) := by decide +kernel
theorem dL_law_37 : decode cL_law 37 = .ok (.ifCond .eq 243, 3) := by decide +kernel
theorem dL_law_40 : decode cL_law 40 = .ok (.aload_n 0, 1) := by decide +kernel
theorem dL_law_41 : decode cL_law 41 = .ok (.iconst 2, 1) := by decide +kernel
theorem dL_law_42 : decode cL_law 42 = .ok (.iload_n 3, 1) := by decide +kernel
theorem dL_law_43 : decode cL_law 43 = .ok (.imul, 1) := by decide +kernel
theorem dL_law_44 : decode cL_law 44 = .ok (.invokestatic 116, 3) := by decide +kernel
theorem dL_law_47 : decode cL_law 47 = .ok (.istore 4, 2) := by decide +kernel
theorem dL_law_49 : decode cL_law 49 = .ok (.aload_n 0, 1) := by decide +kernel
theorem dL_law_50 : decode cL_law 50 = .ok (.iconst 2, 1) := by decide +kernel
theorem dL_law_51 : decode cL_law 51 = .ok (.iload_n 3, 1) := by decide +kernel
theorem dL_law_52 : decode cL_law 52 = .ok (.imul, 1) := by decide +kernel
theorem dL_law_53 : decode cL_law 53 = .ok (.iconst 1, 1) := by decide +kernel
theorem dL_law_54 : decode cL_law 54 = .ok (.iadd, 1) := by decide +kernel
theorem dL_law_55 : decode cL_law 55 = .ok (.invokestatic 116, 3) := by decide +kernel
theorem dL_law_58 : decode cL_law 58 = .ok (.istore 5, 2) := by decide +kernel
theorem dL_law_60 : decode cL_law 60 = .ok (.aload_n 1, 1) := by decide +kernel
theorem dL_law_61 : decode cL_law 61 = .ok (.invokestatic 89, 3) := by decide +kernel
theorem dL_law_64 : decode cL_law 64 = .ok (.lstore 6, 2) := by decide +kernel
theorem dL_law_66 : decode cL_law 66 = .ok (.aload_n 1, 1) := by decide +kernel
theorem dL_law_67 : decode cL_law 67 = .ok (.bipush 13, 2) := by decide +kernel
theorem dL_law_69 : decode cL_law 69 = .ok (.invokevirtual 13, 3) := by decide +kernel
theorem dL_law_72 : decode cL_law 72 = .ok (.istore 8, 2) := by decide +kernel
theorem dL_law_74 : decode cL_law 74 = .ok (.aload_n 1, 1) := by decide +kernel
theorem dL_law_75 : decode cL_law 75 = .ok (.iload 4, 2) := by decide +kernel
theorem dL_law_77 : decode cL_law 77 = .ok (.iload 5, 2) := by decide +kernel
theorem dL_law_79 : decode cL_law 79 = .ok (.invokestatic 120, 3) := by decide +kernel
theorem dL_law_82 : decode cL_law 82 = .ok (.istore 9, 2) := by decide +kernel
theorem dL_law_84 : decode cL_law 84 = .ok (.iload 9, 2) := by decide +kernel
theorem dL_law_86 : decode cL_law 86 = .ok (.ifCond .lt 32, 3) := by decide +kernel
theorem dL_law_89 : decode cL_law 89 = .ok (.aload_n 1, 1) := by decide +kernel
theorem dL_law_90 : decode cL_law 90 = .ok (.bipush 13, 2) := by decide +kernel
theorem dL_law_92 : decode cL_law 92 = .ok (.invokevirtual 13, 3) := by decide +kernel
theorem dL_law_95 : decode cL_law 95 = .ok (.iload 8, 2) := by decide +kernel
theorem dL_law_97 : decode cL_law 97 = .ok (.bipush 6, 2) := by decide +kernel
theorem dL_law_99 : decode cL_law 99 = .ok (.if_icmp .ge 10, 3) := by decide +kernel
theorem dL_law_102 : decode cL_law 102 = .ok (.iload 8, 2) := by decide +kernel
theorem dL_law_104 : decode cL_law 104 = .ok (.iconst 1, 1) := by decide +kernel
theorem dL_law_105 : decode cL_law 105 = .ok (.iadd, 1) := by decide +kernel
theorem dL_law_106 : decode cL_law 106 = .ok (.goto 5, 3) := by decide +kernel
theorem dL_law_109 : decode cL_law 109 = .ok (.bipush 6, 2) := by decide +kernel
theorem dL_law_111 : decode cL_law 111 = .ok (.if_icmp .ne 7, 3) := by decide +kernel
theorem dL_law_114 : decode cL_law 114 = .ok (.iconst 1, 1) := by decide +kernel
theorem dL_law_115 : decode cL_law 115 = .ok (.goto 4, 3) := by decide +kernel
theorem dL_law_118 : decode cL_law 118 = .ok (.iconst 0, 1) := by decide +kernel
theorem dL_law_119 : decode cL_law 119 = .ok (.istore_n 2, 1) := by decide +kernel
theorem dL_law_120 : decode cL_law 120 = .ok (.iload_n 2, 1) := by decide +kernel
theorem dL_law_121 : decode cL_law 121 = .ok (.ifCond .eq 77, 3) := by decide +kernel
theorem dL_law_124 : decode cL_law 124 = .ok (.iload 4, 2) := by decide +kernel
theorem dL_law_126 : decode cL_law 126 = .ok (.bipush 8, 2) := by decide +kernel
theorem dL_law_128 : decode cL_law 128 = .ok (.ishr, 1) := by decide +kernel
theorem dL_law_129 : decode cL_law 129 = .ok (.iconst 3, 1) := by decide +kernel
theorem dL_law_130 : decode cL_law 130 = .ok (.iand, 1) := by decide +kernel
theorem dL_law_131 : decode cL_law 131 = .ok (.ifCond .ne 67, 3) := by decide +kernel
theorem dL_law_134 : decode cL_law 134 = .ok (.aload_n 1, 1) := by decide +kernel
theorem dL_law_135 : decode cL_law 135 = .ok (.invokestatic 89, 3) := by decide +kernel
theorem dL_law_138 : decode cL_law 138 = .ok (.lstore 10, 2) := by decide +kernel
theorem dL_law_140 : decode cL_law 140 = .ok (.aload_n 1, 1) := by decide +kernel
theorem dL_law_141 : decode cL_law 141 = .ok (.bipush 13, 2) := by decide +kernel
theorem dL_law_143 : decode cL_law 143 = .ok (.invokevirtual 13, 3) := by decide +kernel
theorem dL_law_146 : decode cL_law 146 = .ok (.iconst 1, 1) := by decide +kernel
theorem dL_law_147 : decode cL_law 147 = .ok (.isub, 1) := by decide +kernel
theorem dL_law_148 : decode cL_law 148 = .ok (.istore 12, 2) := by decide +kernel
theorem dL_law_150 : decode cL_law 150 = .ok (.aload_n 1, 1) := by decide +kernel
theorem dL_law_151 : decode cL_law 151 = .ok (.invokevirtual 99, 3) := by decide +kernel
theorem dL_law_154 : decode cL_law 154 = .ok (.iload 12, 2) := by decide +kernel
theorem dL_law_156 : decode cL_law 156 = .ok (.if_icmp .ne 40, 3) := by decide +kernel
theorem dL_law_159 : decode cL_law 159 = .ok (.aload_n 1, 1) := by decide +kernel
theorem dL_law_160 : decode cL_law 160 = .ok (.invokestatic 89, 3) := by decide +kernel
theorem dL_law_163 : decode cL_law 163 = .ok (.lload 6, 2) := by decide +kernel
theorem dL_law_165 : decode cL_law 165 = .ok (.lcmp, 1) := by decide +kernel
theorem dL_law_166 : decode cL_law 166 = .ok (.ifCond .ne 30, 3) := by decide +kernel
theorem dL_law_169 : decode cL_law 169 = .ok (.aload_n 1, 1) := by decide +kernel
theorem dL_law_170 : decode cL_law 170 = .ok (.iload 4, 2) := by decide +kernel
theorem dL_law_172 : decode cL_law 172 = .ok (.iload 5, 2) := by decide +kernel
theorem dL_law_174 : decode cL_law 174 = .ok (.invokestatic 120, 3) := by decide +kernel
theorem dL_law_177 : decode cL_law 177 = .ok (.iload 9, 2) := by decide +kernel
theorem dL_law_179 : decode cL_law 179 = .ok (.if_icmp .ne 17, 3) := by decide +kernel
theorem dL_law_182 : decode cL_law 182 = .ok (.aload_n 1, 1) := by decide +kernel
theorem dL_law_183 : decode cL_law 183 = .ok (.invokestatic 89, 3) := by decide +kernel
theorem dL_law_186 : decode cL_law 186 = .ok (.lload 10, 2) := by decide +kernel
theorem dL_law_188 : decode cL_law 188 = .ok (.lcmp, 1) := by decide +kernel
theorem dL_law_189 : decode cL_law 189 = .ok (.ifCond .ne 7, 3) := by decide +kernel
theorem dL_law_192 : decode cL_law 192 = .ok (.iconst 1, 1) := by decide +kernel
theorem dL_law_193 : decode cL_law 193 = .ok (.goto 4, 3) := by decide +kernel
theorem dL_law_196 : decode cL_law 196 = .ok (.iconst 0, 1) := by decide +kernel
theorem dL_law_197 : decode cL_law 197 = .ok (.istore_n 2, 1) := by decide +kernel
theorem dL_law_198 : decode cL_law 198 = .ok (.iload_n 2, 1) := by decide +kernel
theorem dL_law_199 : decode cL_law 199 = .ok (.ifCond .eq 73, 3) := by decide +kernel
theorem dL_law_202 : decode cL_law 202 = .ok (.aload_n 1, 1) := by decide +kernel
theorem dL_law_203 : decode cL_law 203 = .ok (.invokestatic 112, 3) := by decide +kernel
theorem dL_law_206 : decode cL_law 206 = .ok (.ifCond .eq 66, 3) := by decide +kernel
theorem dL_law_209 : decode cL_law 209 = .ok (.iload_n 3, 1) := by decide +kernel
theorem dL_law_210 : decode cL_law 210 = .ok (.iconst 4, 1) := by decide +kernel
theorem dL_law_211 : decode cL_law 211 = .ok (.irem, 1) := by decide +kernel
theorem dL_law_212 : decode cL_law 212 = .ok (.iconst 2, 1) := by decide +kernel
theorem dL_law_213 : decode cL_law 213 = .ok (.if_icmp .ne 34, 3) := by decide +kernel
theorem dL_law_216 : decode cL_law 216 = .ok (.aload_n 1, 1) := by decide +kernel
theorem dL_law_217 : decode cL_law 217 = .ok (.iconst 0, 1) := by decide +kernel
theorem dL_law_218 : decode cL_law 218 = .ok (.invokevirtual 13, 3) := by decide +kernel
theorem dL_law_221 : decode cL_law 221 = .ok (.ifCond .eq 26, 3) := by decide +kernel
theorem dL_law_224 : decode cL_law 224 = .ok (.aload_n 1, 1) := by decide +kernel
theorem dL_law_225 : decode cL_law 225 = .ok (.iload 4, 2) := by decide +kernel
theorem dL_law_227 : decode cL_law 227 = .ok (.iconst 5, 1) := by decide +kernel
theorem dL_law_228 : decode cL_law 228 = .ok (.ishr, 1) := by decide +kernel
theorem dL_law_229 : decode cL_law 229 = .ok (.aload_n 1, 1) := by decide +kernel
theorem dL_law_230 : decode cL_law 230 = .ok (.iconst 0, 1) := by decide +kernel
theorem dL_law_231 : decode cL_law 231 = .ok (.invokevirtual 13, 3) := by decide +kernel
theorem dL_law_234 : decode cL_law 234 = .ok (.invokestatic 32, 3) := by decide +kernel
theorem dL_law_237 : decode cL_law 237 = .ok (.iload 5, 2) := by decide +kernel
theorem dL_law_239 : decode cL_law 239 = .ok (.iconst 3, 1) := by decide +kernel
theorem dL_law_240 : decode cL_law 240 = .ok (.ishr, 1) := by decide +kernel
theorem dL_law_241 : decode cL_law 241 = .ok (.invokestatic 124, 3) := by decide +kernel
theorem dL_law_244 : decode cL_law 244 = .ok (.ifCond .eq 28, 3) := by decide +kernel
theorem dL_law_247 : decode cL_law 247 = .ok (.iload_n 3, 1) := by decide +kernel
theorem dL_law_248 : decode cL_law 248 = .ok (.bipush 13, 2) := by decide +kernel
theorem dL_law_250 : decode cL_law 250 = .ok (.irem, 1) := by decide +kernel
theorem dL_law_251 : decode cL_law 251 = .ok (.bipush 10, 2) := by decide +kernel
theorem dL_law_253 : decode cL_law 253 = .ok (.if_icmp .ne 15, 3) := by decide +kernel
theorem dL_law_256 : decode cL_law 256 = .ok (.aload_n 1, 1) := by decide +kernel
theorem dL_law_257 : decode cL_law 257 = .ok (.invokevirtual 109, 3) := by decide +kernel
theorem dL_law_260 : decode cL_law 260 = .ok (.aload_n 1, 1) := by decide +kernel
theorem dL_law_261 : decode cL_law 261 = .ok (.iconst 3, 1) := by decide +kernel
theorem dL_law_262 : decode cL_law 262 = .ok (.invokevirtual 13, 3) := by decide +kernel
theorem dL_law_265 : decode cL_law 265 = .ok (.if_icmp .ne 7, 3) := by decide +kernel
theorem dL_law_268 : decode cL_law 268 = .ok (.iconst 1, 1) := by decide +kernel
theorem dL_law_269 : decode cL_law 269 = .ok (.goto 4, 3) := by decide +kernel
theorem dL_law_272 : decode cL_law 272 = .ok (.iconst 0, 1) := by decide +kernel
theorem dL_law_273 : decode cL_law 273 = .ok (.istore_n 2, 1) := by decide +kernel
theorem dL_law_274 : decode cL_law 274 = .ok (.iinc 3 1, 3) := by decide +kernel
theorem dL_law_277 : decode cL_law 277 = .ok (.goto (-247), 3) := by decide +kernel
theorem dL_law_280 : decode cL_law 280 = .ok (.iload_n 2, 1) := by decide +kernel
theorem dL_law_281 : decode cL_law 281 = .ok (.ireturn, 1) := by decide +kernel
