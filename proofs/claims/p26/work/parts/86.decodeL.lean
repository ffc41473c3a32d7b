theorem dL_cell_0 : decode cL_cell 0 = .ok (.iload_n 1, 1) := by decide +kernel
theorem dL_cell_1 : decode cL_cell 1 = .ok (.aload_n 0, 1) := by decide +kernel
theorem dL_cell_2 : decode cL_cell 2 = .ok (.arraylength, 1) := by decide +kernel
theorem dL_cell_3 : decode cL_cell 3 = .ok (.if_icmp .ge 9, 3) := by decide +kernel
theorem dL_cell_6 : decode cL_cell 6 = .ok (.aload_n 0, 1) := by decide +kernel
theorem dL_cell_7 : decode cL_cell 7 = .ok (.iload_n 1, 1) := by decide +kernel
theorem dL_cell_8 : decode cL_cell 8 = .ok (.iaload, 1) := by decide +kernel
theorem dL_cell_9 : decode cL_cell 9 = .ok (.goto 11, 3) := by decide +kernel
theorem dL_cell_12 : decode cL_cell 12 = .ok (.ldc 7, 2) := by decide +kernel
theorem dL_cell_14 : decode cL_cell 14 = .ok (.iload_n 1, 1) := by decide +kernel
theorem dL_cell_15 : decode cL_cell 15 = .ok (.imul, 1) := by decide +kernel
theorem dL_cell_16 : decode cL_cell 16 = .ok (.sipush 307, 3) := by decide +kernel
theorem dL_cell_19 : decode cL_cell 19 = .ok (.iadd, 1) := by decide +kernel
theorem dL_cell_20 : decode cL_cell 20 = .ok (.ldc 8, 2) := by decide +kernel
theorem dL_cell_22 : decode cL_cell 22 = .ok (.iand, 1) := by decide +kernel
theorem dL_cell_23 : decode cL_cell 23 = .ok (.ireturn, 1) := by decide +kernel
theorem dL_number_0 : decode cL_number 0 = .ok (.aload_n 0, 1) := by decide +kernel
theorem dL_number_1 : decode cL_number 1 = .ok (.bipush 32, 2) := by decide +kernel
theorem dL_number_3 : decode cL_number 3 = .ok (.invokevirtual 9, 3) := by decide +kernel
theorem dL_number_6 : decode cL_number 6 = .ok (.pop, 1) := by decide +kernel
theorem dL_number_7 : decode cL_number 7 = .ok (.iload_n 1, 1) := by decide +kernel
theorem dL_number_8 : decode cL_number 8 = .ok (.ifCond .ge 10, 3) := by decide +kernel
theorem dL_number_11 : decode cL_number 11 = .ok (.aload_n 0, 1) := by decide +kernel
theorem dL_number_12 : decode cL_number 12 = .ok (.bipush 45, 2) := by decide +kernel
theorem dL_number_14 : decode cL_number 14 = .ok (.invokevirtual 9, 3) := by decide +kernel
theorem dL_number_17 : decode cL_number 17 = .ok (.pop, 1) := by decide +kernel
theorem dL_number_18 : decode cL_number 18 = .ok (.iload_n 1, 1) := by decide +kernel
theorem dL_number_19 : decode cL_number 19 = .ok (.ifCond .ge 8, 3) := by decide +kernel
theorem dL_number_22 : decode cL_number 22 = .ok (.iload_n 1, 1) := by decide +kernel
theorem dL_number_23 : decode cL_number 23 = .ok (.ineg, 1) := by decide +kernel
theorem dL_number_24 : decode cL_number 24 = .ok (.goto 4, 3) := by decide +kernel
theorem dL_number_27 : decode cL_number 27 = .ok (.iload_n 1, 1) := by decide +kernel
theorem dL_number_28 : decode cL_number 28 = .ok (.istore_n 2, 1) := by decide +kernel
theorem dL_number_29 : decode cL_number 29 = .ok (.iconst 1, 1) := by decide +kernel
theorem dL_number_30 : decode cL_number 30 = .ok (.istore_n 3, 1) := by decide +kernel
theorem dL_number_31 : decode cL_number 31 = .ok (.iload_n 2, 1) := by decide +kernel
theorem dL_number_32 : decode cL_number 32 = .ok (.iload_n 3, 1) := by decide +kernel
theorem dL_number_33 : decode cL_number 33 = .ok (.idiv, 1) := by decide +kernel
theorem dL_number_34 : decode cL_number 34 = .ok (.bipush 9, 2) := by decide +kernel
theorem dL_number_36 : decode cL_number 36 = .ok (.if_icmp .le 11, 3) := by decide +kernel
theorem dL_number_39 : decode cL_number 39 = .ok (.iload_n 3, 1) := by decide +kernel
theorem dL_number_40 : decode cL_number 40 = .ok (.bipush 10, 2) := by decide +kernel
theorem dL_number_42 : decode cL_number 42 = .ok (.imul, 1) := by decide +kernel
theorem dL_number_43 : decode cL_number 43 = .ok (.istore_n 3, 1) := by decide +kernel
theorem dL_number_44 : decode cL_number 44 = .ok (.goto (-13), 3) := by decide +kernel
theorem dL_number_47 : decode cL_number 47 = .ok (.iload_n 3, 1) := by decide +kernel
theorem dL_number_48 : decode cL_number 48 = .ok (.ifCond .le 25, 3) := by decide +kernel
theorem dL_number_51 : decode cL_number 51 = .ok (.aload_n 0, 1) := by decide +kernel
theorem dL_number_52 : decode cL_number 52 = .ok (.bipush 48, 2) := by decide +kernel
theorem dL_number_54 : decode cL_number 54 = .ok (.iload_n 2, 1) := by decide +kernel
theorem dL_number_55 : decode cL_number 55 = .ok (.iload_n 3, 1) := by decide +kernel
theorem dL_number_56 : decode cL_number 56 = .ok (.idiv, 1) := by decide +kernel
theorem dL_number_57 : decode cL_number 57 = .ok (.bipush 10, 2) := by decide +kernel
theorem dL_number_59 : decode cL_number 59 = .ok (.irem, 1) := by decide +kernel
theorem dL_number_60 : decode cL_number 60 = .ok (.iadd, 1) := by decide +kernel
theorem dL_number_61 : decode cL_number 61 = .ok (.invokevirtual 9, 3) := by decide +kernel
theorem dL_number_64 : decode cL_number 64 = .ok (.pop, 1) := by decide +kernel
theorem dL_number_65 : decode cL_number 65 = .ok (.iload_n 3, 1) := by decide +kernel
theorem dL_number_66 : decode cL_number 66 = .ok (.bipush 10, 2) := by decide +kernel
theorem dL_number_68 : decode cL_number 68 = .ok (.idiv, 1) := by decide +kernel
theorem dL_number_69 : decode cL_number 69 = .ok (.istore_n 3, 1) := by decide +kernel
theorem dL_number_70 : decode cL_number 70 = .ok (.goto (-23), 3) := by decide +kernel
theorem dL_number_73 : decode cL_number 73 = .ok (.return_, 1) := by decide +kernel
theorem dL_word_0 : decode cL_word 0 = .ok (.bipush 56, 2) := by decide +kernel
theorem dL_word_2 : decode cL_word 2 = .ok (.istore_n 3, 1) := by decide +kernel
theorem dL_word_3 : decode cL_word 3 = .ok (.iload_n 3, 1) := by decide +kernel
theorem dL_word_4 : decode cL_word 4 = .ok (.ifCond .lt 31, 3) := by decide +kernel
theorem dL_word_7 : decode cL_word 7 = .ok (.lload_n 1, 1) := by decide +kernel
theorem dL_word_8 : decode cL_word 8 = .ok (.iload_n 3, 1) := by decide +kernel
theorem dL_word_9 : decode cL_word 9 = .ok (.lshr, 1) := by decide +kernel
theorem dL_word_10 : decode cL_word 10 = .ok (.ldc2_w 15, 3) := by decide +kernel
theorem dL_word_13 : decode cL_word 13 = .ok (.land, 1) := by decide +kernel
theorem dL_word_14 : decode cL_word 14 = .ok (.l2i, 1) := by decide +kernel
theorem dL_word_15 : decode cL_word 15 = .ok (.istore 4, 2) := by decide +kernel
theorem dL_word_17 : decode cL_word 17 = .ok (.iload 4, 2) := by decide +kernel
theorem dL_word_19 : decode cL_word 19 = .ok (.ifCond .le 10, 3) := by decide +kernel
theorem dL_word_22 : decode cL_word 22 = .ok (.aload_n 0, 1) := by decide +kernel
theorem dL_word_23 : decode cL_word 23 = .ok (.iload 4, 2) := by decide +kernel
theorem dL_word_25 : decode cL_word 25 = .ok (.invokevirtual 9, 3) := by decide +kernel
theorem dL_word_28 : decode cL_word 28 = .ok (.pop, 1) := by decide +kernel
theorem dL_word_29 : decode cL_word 29 = .ok (.iinc 3 (-8), 3) := by decide +kernel
theorem dL_word_32 : decode cL_word 32 = .ok (.goto (-29), 3) := by decide +kernel
theorem dL_word_35 : decode cL_word 35 = .ok (.return_, 1) := by decide +kernel
theorem dL_areAlike_0 : decode cL_areAlike 0 = .ok (.iconst 1, 1) := by decide +kernel
theorem dL_areAlike_1 : decode cL_areAlike 1 = .ok (.istore_n 2, 1) := by decide +kernel
theorem dL_areAlike_2 : decode cL_areAlike 2 = .ok (.bipush 11, 2) := by decide +kernel
theorem dL_areAlike_4 : decode cL_areAlike 4 = .ok (.istore_n 3, 1) := by decide +kernel
theorem dL_areAlike_5 : decode cL_areAlike 5 = .ok (.iload_n 3, 1) := by decide +kernel
theorem dL_areAlike_6 : decode cL_areAlike 6 = .ok (.bipush 16, 2) := by decide +kernel
theorem dL_areAlike_8 : decode cL_areAlike 8 = .ok (.if_icmp .ge 32, 3) := by decide +kernel
theorem dL_areAlike_11 : decode cL_areAlike 11 = .ok (.iload_n 2, 1) := by decide +kernel
theorem dL_areAlike_12 : decode cL_areAlike 12 = .ok (.ifCond .eq 20, 3) := by decide +kernel
theorem dL_areAlike_15 : decode cL_areAlike 15 = .ok (.aload_n 0, 1) := by decide +kernel
theorem dL_areAlike_16 : decode cL_areAlike 16 = .ok (.iload_n 3, 1) := by decide +kernel
theorem dL_areAlike_17 : decode cL_areAlike 17 = .ok (.invokevirtual 46, 3) := by decide +kernel
theorem dL_areAlike_20 : decode cL_areAlike 20 = .ok (.aload_n 1, 1) := by decide +kernel
theorem dL_areAlike_21 : decode cL_areAlike 21 = .ok (.iload_n 3, 1) := by decide +kernel
theorem dL_areAlike_22 : decode cL_areAlike 22 = .ok (.invokevirtual 46, 3) := by decide +kernel
theorem dL_areAlike_25 : decode cL_areAlike 25 = .ok (.if_icmp .ne 7, 3) := by decide +kernel
theorem dL_areAlike_28 : decode cL_areAlike 28 = .ok (.iconst 1, 1) := by decide +kernel
theorem dL_areAlike_29 : decode cL_areAlike 29 = .ok (.goto 4, 3) := by decide +kernel
theorem dL_areAlike_32 : decode cL_areAlike 32 = .ok (.iconst 0, 1) := by decide +kernel
theorem dL_areAlike_33 : decode cL_areAlike 33 = .ok (.istore_n 2, 1) := by decide +kernel
theorem dL_areAlike_34 : decode cL_areAlike 34 = .ok (.iinc 3 1, 3) := by decide +kernel
theorem dL_areAlike_37 : decode cL_areAlike 37 = .ok (.goto (-32), 3) := by decide +kernel
theorem dL_areAlike_40 : decode cL_areAlike 40 = .ok (.iconst 0, 1) := by decide +kernel
theorem dL_areAlike_41 : decode cL_areAlike 41 = .ok (.istore_n 3, 1) := by decide +kernel
theorem dL_areAlike_42 : decode cL_areAlike 42 = .ok (.iload_n 3, 1) := by decide +kernel
theorem dL_areAlike_43 : decode cL_areAlike 43 = .ok (.aload_n 0, 1) := by decide +kernel
theorem dL_areAlike_44 : decode cL_areAlike 44 = .ok (.bipush 14, 2) := by decide +kernel
theorem dL_areAlike_46 : decode cL_areAlike 46 = .ok (.invokevirtual 46, 3) := by decide +kernel
theorem dL_areAlike_49 : decode cL_areAlike 49 = .ok (.if_icmp .ge 56, 3) := by decide +kernel
theorem dL_areAlike_52 : decode cL_areAlike 52 = .ok (.iload_n 2, 1) := by decide +kernel
theorem dL_areAlike_53 : decode cL_areAlike 53 = .ok (.ifCond .eq 52, 3) := by decide +kernel
theorem dL_areAlike_56 : decode cL_areAlike 56 = .ok (.iconst 0, 1) := by decide +kernel
theorem dL_areAlike_57 : decode cL_areAlike 57 = .ok (.istore 4, 2) := by decide +kernel
theorem dL_areAlike_59 : decode cL_areAlike 59 = .ok (.iload 4, 2) := by decide +kernel
theorem dL_areAlike_61 : decode cL_areAlike 61 = .ok (.bipush 6, 2) := by decide +kernel
theorem dL_areAlike_63 : decode cL_areAlike 63 = .ok (.if_icmp .ge 36, 3) := by decide +kernel
theorem dL_areAlike_66 : decode cL_areAlike 66 = .ok (.iload_n 2, 1) := by decide +kernel
theorem dL_areAlike_67 : decode cL_areAlike 67 = .ok (.ifCond .eq 24, 3) := by decide +kernel
theorem dL_areAlike_70 : decode cL_areAlike 70 = .ok (.aload_n 0, 1) := by decide +kernel
theorem dL_areAlike_71 : decode cL_areAlike 71 = .ok (.iload_n 3, 1) := by decide +kernel
theorem dL_areAlike_72 : decode cL_areAlike 72 = .ok (.iload 4, 2) := by decide +kernel
theorem dL_areAlike_74 : decode cL_areAlike 74 = .ok (.invokevirtual 49, 3) := by decide +kernel
theorem dL_areAlike_77 : decode cL_areAlike 77 = .ok (.aload_n 1, 1) := by decide +kernel
theorem dL_areAlike_78 : decode cL_areAlike 78 = .ok (.iload_n 3, 1) := by decide +kernel
theorem dL_areAlike_79 : decode cL_areAlike 79 = .ok (.iload 4, 2) := by decide +kernel
theorem dL_areAlike_81 : decode cL_areAlike 81 = .ok (.invokevirtual 49, 3) := by decide +kernel
theorem dL_areAlike_84 : decode cL_areAlike 84 = .ok (.if_icmp .ne 7, 3) := by decide +kernel
theorem dL_areAlike_87 : decode cL_areAlike 87 = .ok (.iconst 1, 1) := by decide +kernel
theorem dL_areAlike_88 : decode cL_areAlike 88 = .ok (.goto 4, 3) := by decide +kernel
theorem dL_areAlike_91 : decode cL_areAlike 91 = .ok (.iconst 0, 1) := by decide +kernel
theorem dL_areAlike_92 : decode cL_areAlike 92 = .ok (.istore_n 2, 1) := by decide +kernel
theorem dL_areAlike_93 : decode cL_areAlike 93 = .ok (.iinc 4 1, 3) := by decide +kernel
theorem dL_areAlike_96 : decode cL_areAlike 96 = .ok (.goto (-37), 3) := by decide +kernel
theorem dL_areAlike_99 : decode cL_areAlike 99 = .ok (.iinc 3 1, 3) := by decide +kernel
theorem dL_areAlike_102 : decode cL_areAlike 102 = .ok (.goto (-60), 3) := by decide +kernel
theorem dL_areAlike_105 : decode cL_areAlike 105 = .ok (.iconst 0, 1) := by decide +kernel
theorem dL_areAlike_106 : decode cL_areAlike 106 = .ok (.istore_n 3, 1) := by decide +kernel
theorem dL_areAlike_107 : decode cL_areAlike 107 = .ok (.iload_n 3, 1) := by decide +kernel
theorem dL_areAlike_108 : decode cL_areAlike 108 = .ok (.bipush 8, 2) := by decide +kernel
theorem dL_areAlike_110 : decode cL_areAlike 110 = .ok (.if_icmp .ge 32, 3) := by decide +kernel
theorem dL_areAlike_113 : decode cL_areAlike 113 = .ok (.iload_n 2, 1) := by decide +kernel
theorem dL_areAlike_114 : decode cL_areAlike 114 = .ok (.ifCond .eq 20, 3) := by decide +kernel
theorem dL_areAlike_117 : decode cL_areAlike 117 = .ok (.aload_n 0, 1) := by decide +kernel
theorem dL_areAlike_118 : decode cL_areAlike 118 = .ok (.iload_n 3, 1) := by decide +kernel
theorem dL_areAlike_119 : decode cL_areAlike 119 = .ok (.invokevirtual 52, 3) := by decide +kernel
theorem dL_areAlike_122 : decode cL_areAlike 122 = .ok (.aload_n 1, 1) := by decide +kernel
theorem dL_areAlike_123 : decode cL_areAlike 123 = .ok (.iload_n 3, 1) := by decide +kernel
theorem dL_areAlike_124 : decode cL_areAlike 124 = .ok (.invokevirtual 52, 3) := by decide +kernel
theorem dL_areAlike_127 : decode cL_areAlike 127 = .ok (.if_icmp .ne 7, 3) := by decide +kernel
theorem dL_areAlike_130 : decode cL_areAlike 130 = .ok (.iconst 1, 1) := by decide +kernel
theorem dL_areAlike_131 : decode cL_areAlike 131 = .ok (.goto 4, 3) := by decide +kernel
theorem dL_areAlike_134 : decode cL_areAlike 134 = .ok (.iconst 0, 1) := by decide +kernel
theorem dL_areAlike_135 : decode cL_areAlike 135 = .ok (.istore_n 2, 1) := by decide +kernel
theorem dL_areAlike_136 : decode cL_areAlike 136 = .ok (.iinc 3 1, 3) := by decide +kernel
theorem dL_areAlike_139 : decode cL_areAlike 139 = .ok (.goto (-32), 3) := by decide +kernel
theorem dL_areAlike_142 : decode cL_areAlike 142 = .ok (.iconst 0, 1) := by decide +kernel
theorem dL_areAlike_143 : decode cL_areAlike 143 = .ok (.istore_n 3, 1) := by decide +kernel
theorem dL_areAlike_144 : decode cL_areAlike 144 = .ok (.iload_n 3, 1) := by decide +kernel
theorem dL_areAlike_145 : decode cL_areAlike 145 = .ok (.aload_n 0, 1) := by decide +kernel
theorem dL_areAlike_146 : decode cL_areAlike 146 = .ok (.bipush 15, 2) := by decide +kernel
theorem dL_areAlike_148 : decode cL_areAlike 148 = .ok (.invokevirtual 46, 3) := by decide +kernel
theorem dL_areAlike_151 : decode cL_areAlike 151 = .ok (.if_icmp .ge 34, 3) := by decide +kernel
theorem dL_areAlike_154 : decode cL_areAlike 154 = .ok (.iload_n 2, 1) := by decide +kernel
theorem dL_areAlike_155 : decode cL_areAlike 155 = .ok (.ifCond .eq 30, 3) := by decide +kernel
theorem dL_areAlike_158 : decode cL_areAlike 158 = .ok (.aload_n 0, 1) := by decide +kernel
theorem dL_areAlike_159 : decode cL_areAlike 159 = .ok (.iload_n 3, 1) := by decide +kernel
theorem dL_areAlike_160 : decode cL_areAlike 160 = .ok (.iconst 0, 1) := by decide +kernel
theorem dL_areAlike_161 : decode cL_areAlike 161 = .ok (.invokevirtual 55, 3) := by decide +kernel
theorem dL_areAlike_164 : decode cL_areAlike 164 = .ok (.aload_n 1, 1) := by decide +kernel
theorem dL_areAlike_165 : decode cL_areAlike 165 = .ok (.iload_n 3, 1) := by decide +kernel
theorem dL_areAlike_166 : decode cL_areAlike 166 = .ok (.iconst 0, 1) := by decide +kernel
theorem dL_areAlike_167 : decode cL_areAlike 167 = .ok (.invokevirtual 55, 3) := by decide +kernel
theorem dL_areAlike_170 : decode cL_areAlike 170 = .ok (.if_icmp .ne 7, 3) := by decide +kernel
theorem dL_areAlike_173 : decode cL_areAlike 173 = .ok (.iconst 1, 1) := by decide +kernel
theorem dL_areAlike_174 : decode cL_areAlike 174 = .ok (.goto 4, 3) := by decide +kernel
theorem dL_areAlike_177 : decode cL_areAlike 177 = .ok (.iconst 0, 1) := by decide +kernel
theorem dL_areAlike_178 : decode cL_areAlike 178 = .ok (.istore_n 2, 1) := by decide +kernel
theorem dL_areAlike_179 : decode cL_areAlike 179 = .ok (.iinc 3 11, 3) := by decide +kernel
theorem dL_areAlike_182 : decode cL_areAlike 182 = .ok (.goto (-38), 3) := by decide +kernel
theorem dL_areAlike_185 : decode cL_areAlike 185 = .ok (.iload_n 2, 1) := by decide +kernel
theorem dL_areAlike_186 : decode cL_areAlike 186 = .ok (.ireturn, 1) := by decide +kernel
theorem dL_isTold_0 : decode cL_isTold 0 = .ok (.iload_n 3, 1) := by decide +kernel
theorem dL_isTold_1 : decode cL_isTold 1 = .ok (.istore 4, 2) := by decide +kernel
theorem dL_isTold_3 : decode cL_isTold 3 = .ok (.iconst 1, 1) := by decide +kernel
theorem dL_isTold_4 : decode cL_isTold 4 = .ok (.iload_n 3, 1) := by decide +kernel
theorem dL_isTold_5 : decode cL_isTold 5 = .ok (.iconst 3, 1) := by decide +kernel
theorem dL_isTold_6 : decode cL_isTold 6 = .ok (.irem, 1) := by decide +kernel
theorem dL_isTold_7 : decode cL_isTold 7 = .ok (.iadd, 1) := by decide +kernel
theorem dL_isTold_8 : decode cL_isTold 8 = .ok (.istore 5, 2) := by decide +kernel
theorem dL_isTold_10 : decode cL_isTold 10 = .ok (.bipush 50, 2) := by decide +kernel
theorem dL_isTold_12 : decode cL_isTold 12 = .ok (.iload_n 3, 1) := by decide +kernel
theorem dL_isTold_13 : decode cL_isTold 13 = .ok (.iconst 3, 1) := by decide +kernel
theorem dL_isTold_14 : decode cL_isTold 14 = .ok (.ishr, 1) := by decide +kernel
theorem dL_isTold_15 : decode cL_isTold 15 = .ok (.sipush 351, 3) := by decide +kernel
theorem dL_isTold_18 : decode cL_isTold 18 = .ok (.irem, 1) := by decide +kernel
theorem dL_isTold_19 : decode cL_isTold 19 = .ok (.iadd, 1) := by decide +kernel
theorem dL_isTold_20 : decode cL_isTold 20 = .ok (.istore 6, 2) := by decide +kernel
theorem dL_isTold_22 : decode cL_isTold 22 = .ok (.aload_n 0, 1) := by decide +kernel
theorem dL_isTold_23 : decode cL_isTold 23 = .ok (.invokevirtual 17, 3) := by decide +kernel
theorem dL_isTold_26 : decode cL_isTold 26 = .ok (.pop, 1) := by decide +kernel
theorem dL_isTold_27 : decode cL_isTold 27 = .ok (.aload_n 0, 1) := by decide +kernel
theorem dL_isTold_28 : decode cL_isTold 28 = .ok (.ldc2_w 21, 3) := by decide +kernel
theorem dL_isTold_31 : decode cL_isTold 31 = .ok (.invokestatic 23, 3) := by decide +kernel
theorem dL_isTold_34 : decode cL_isTold 34 = .ok (.aload_n 0, 1) := by decide +kernel
theorem dL_isTold_35 : decode cL_isTold 35 = .ok (.iload 6, 2) := by decide +kernel
theorem dL_isTold_37 : decode cL_isTold 37 = .ok (.invokestatic 29, 3) := by decide +kernel
theorem dL_isTold_40 : decode cL_isTold 40 = .ok (.aload_n 0, 1) := by decide +kernel
theorem dL_isTold_41 : decode cL_isTold 41 = .ok (.bipush 59, 2) := by decide +kernel
theorem dL_isTold_43 : decode cL_isTold 43 = .ok (.invokevirtual 9, 3) := by decide +kernel
theorem dL_isTold_46 : decode cL_isTold 46 = .ok (.pop, 1) := by decide +kernel
theorem dL_isTold_47 : decode cL_isTold 47 = .ok (.aload_n 1, 1) := by decide +kernel
theorem dL_isTold_48 : decode cL_isTold 48 = .ok (.invokevirtual 17, 3) := by decide +kernel
theorem dL_isTold_51 : decode cL_isTold 51 = .ok (.pop, 1) := by decide +kernel
theorem dL_isTold_52 : decode cL_isTold 52 = .ok (.aload_n 1, 1) := by decide +kernel
theorem dL_isTold_53 : decode cL_isTold 53 = .ok (.ldc2_w 21, 3) := by decide +kernel
theorem dL_isTold_56 : decode cL_isTold 56 = .ok (.invokestatic 23, 3) := by decide +kernel
theorem dL_isTold_59 : decode cL_isTold 59 = .ok (.aload_n 1, 1) := by decide +kernel
theorem dL_isTold_60 : decode cL_isTold 60 = .ok (.iload 6, 2) := by decide +kernel
theorem dL_isTold_62 : decode cL_isTold 62 = .ok (.invokestatic 29, 3) := by decide +kernel
theorem dL_isTold_65 : decode cL_isTold 65 = .ok (.aload_n 1, 1) := by decide +kernel
theorem dL_isTold_66 : decode cL_isTold 66 = .ok (.bipush 59, 2) := by decide +kernel
theorem dL_isTold_68 : decode cL_isTold 68 = .ok (.invokevirtual 9, 3) := by decide +kernel
theorem dL_isTold_71 : decode cL_isTold 71 = .ok (.pop, 1) := by decide +kernel
theorem dL_isTold_72 : decode cL_isTold 72 = .ok (.iload_n 3, 1) := by decide +kernel
theorem dL_isTold_73 : decode cL_isTold 73 = .ok (.iconst 2, 1) := by decide +kernel
theorem dL_isTold_74 : decode cL_isTold 74 = .ok (.irem, 1) := by decide +kernel
theorem dL_isTold_75 : decode cL_isTold 75 = .ok (.ifCond .ne 53, 3) := by decide +kernel
theorem dL_isTold_78 : decode cL_isTold 78 = .ok (.aload_n 0, 1) := by decide +kernel
theorem dL_isTold_79 : decode cL_isTold 79 = .ok (.ldc2_w 58, 3) := by decide +kernel
theorem dL_isTold_82 : decode cL_isTold 82 = .ok (.invokestatic 23, 3) := by decide +kernel
theorem dL_isTold_85 : decode cL_isTold 85 = .ok (.aload_n 0, 1) := by decide +kernel
theorem dL_isTold_86 : decode cL_isTold 86 = .ok (.iload_n 3, 1) := by decide +kernel
theorem dL_isTold_87 : decode cL_isTold 87 = .ok (.iconst 5, 1) := by decide +kernel
theorem dL_isTold_88 : decode cL_isTold 88 = .ok (.ishr, 1) := by decide +kernel
theorem dL_isTold_89 : decode cL_isTold 89 = .ok (.sipush 20001, 3) := by decide +kernel
theorem dL_isTold_92 : decode cL_isTold 92 = .ok (.irem, 1) := by decide +kernel
theorem dL_isTold_93 : decode cL_isTold 93 = .ok (.invokestatic 29, 3) := by decide +kernel
theorem dL_isTold_96 : decode cL_isTold 96 = .ok (.aload_n 0, 1) := by decide +kernel
theorem dL_isTold_97 : decode cL_isTold 97 = .ok (.bipush 59, 2) := by decide +kernel
theorem dL_isTold_99 : decode cL_isTold 99 = .ok (.invokevirtual 9, 3) := by decide +kernel
theorem dL_isTold_102 : decode cL_isTold 102 = .ok (.pop, 1) := by decide +kernel
theorem dL_isTold_103 : decode cL_isTold 103 = .ok (.aload_n 1, 1) := by decide +kernel
theorem dL_isTold_104 : decode cL_isTold 104 = .ok (.ldc2_w 58, 3) := by decide +kernel
theorem dL_isTold_107 : decode cL_isTold 107 = .ok (.invokestatic 23, 3) := by decide +kernel
theorem dL_isTold_110 : decode cL_isTold 110 = .ok (.aload_n 1, 1) := by decide +kernel
theorem dL_isTold_111 : decode cL_isTold 111 = .ok (.iload_n 3, 1) := by decide +kernel
theorem dL_isTold_112 : decode cL_isTold 112 = .ok (.iconst 5, 1) := by decide +kernel
theorem dL_isTold_113 : decode cL_isTold 113 = .ok (.ishr, 1) := by decide +kernel
theorem dL_isTold_114 : decode cL_isTold 114 = .ok (.sipush 20001, 3) := by decide +kernel
theorem dL_isTold_117 : decode cL_isTold 117 = .ok (.irem, 1) := by decide +kernel
theorem dL_isTold_118 : decode cL_isTold 118 = .ok (.invokestatic 29, 3) := by decide +kernel
theorem dL_isTold_121 : decode cL_isTold 121 = .ok (.aload_n 1, 1) := by decide +kernel
theorem dL_isTold_122 : decode cL_isTold 122 = .ok (.bipush 59, 2) := by decide +kernel
theorem dL_isTold_124 : decode cL_isTold 124 = .ok (.invokevirtual 9, 3) := by decide +kernel
theorem dL_isTold_127 : decode cL_isTold 127 = .ok (.pop, 1) := by decide +kernel
theorem dL_isTold_128 : decode cL_isTold 128 = .ok (.aload_n 1, 1) := by decide +kernel
theorem dL_isTold_129 : decode cL_isTold 129 = .ok (.invokevirtual 33, 3) := by decide +kernel
theorem dL_isTold_132 : decode cL_isTold 132 = .ok (.ifCond .ne 18, 3) := by decide +kernel
theorem dL_isTold_135 : decode cL_isTold 135 = .ok (.aload_n 1, 1) := by decide +kernel
theorem dL_isTold_136 : decode cL_isTold 136 = .ok (.bipush 11, 2) := by decide +kernel
theorem dL_isTold_138 : decode cL_isTold 138 = .ok (.invokevirtual 46, 3) := by decide +kernel
theorem dL_isTold_141 : decode cL_isTold 141 = .ok (.iload 6, 2) := by decide +kernel
theorem dL_isTold_143 : decode cL_isTold 143 = .ok (.if_icmp .ne 7, 3) := by decide +kernel
theorem dL_isTold_146 : decode cL_isTold 146 = .ok (.iconst 1, 1) := by decide +kernel
theorem dL_isTold_147 : decode cL_isTold 147 = .ok (.goto 4, 3) := by decide +kernel
theorem dL_isTold_150 : decode cL_isTold 150 = .ok (.iconst 0, 1) := by decide +kernel
theorem dL_isTold_151 : decode cL_isTold 151 = .ok (.istore 7, 2) := by decide +kernel
theorem dL_isTold_153 : decode cL_isTold 153 = .ok (.iconst 0, 1) := by decide +kernel
theorem dL_isTold_154 : decode cL_isTold 154 = .ok (.istore 8, 2) := by decide +kernel
theorem dL_isTold_156 : decode cL_isTold 156 = .ok (.iload 8, 2) := by decide +kernel
theorem dL_isTold_158 : decode cL_isTold 158 = .ok (.iload 5, 2) := by decide +kernel
theorem dL_isTold_160 : decode cL_isTold 160 = .ok (.if_icmp .ge 382, 3) := by decide +kernel
theorem dL_isTold_163 : decode cL_isTold 163 = .ok (.iload 4, 2) := by decide +kernel
theorem dL_isTold_165 : decode cL_isTold 165 = .ok (.ldc 36, 2) := by decide +kernel
theorem dL_isTold_167 : decode cL_isTold 167 = .ok (.imul, 1) := by decide +kernel
theorem dL_isTold_168 : decode cL_isTold 168 = .ok (.sipush 12345, 3) := by decide +kernel
theorem dL_isTold_171 : decode cL_isTold 171 = .ok (.iadd, 1) := by decide +kernel
theorem dL_isTold_172 : decode cL_isTold 172 = .ok (.ldc 8, 2) := by decide +kernel
theorem dL_isTold_174 : decode cL_isTold 174 = .ok (.iand, 1) := by decide +kernel
theorem dL_isTold_175 : decode cL_isTold 175 = .ok (.istore 4, 2) := by decide +kernel
theorem dL_isTold_177 : decode cL_isTold 177 = .ok (.iload 4, 2) := by decide +kernel
theorem dL_isTold_179 : decode cL_isTold 179 = .ok (.bipush 6, 2) := by decide +kernel
theorem dL_isTold_181 : decode cL_isTold 181 = .ok (.ishr, 1) := by decide +kernel
theorem dL_isTold_182 : decode cL_isTold 182 = .ok (.iconst 3, 1) := by decide +kernel
theorem dL_isTold_183 : decode cL_isTold 183 = .ok (.irem, 1) := by decide +kernel
theorem dL_isTold_184 : decode cL_isTold 184 = .ok (.istore 9, 2) := by decide +kernel
theorem dL_isTold_186 : decode cL_isTold 186 = .ok (.iconst 1, 1) := by decide +kernel
theorem dL_isTold_187 : decode cL_isTold 187 = .ok (.iload 4, 2) := by decide +kernel
theorem dL_isTold_189 : decode cL_isTold 189 = .ok (.bipush 8, 2) := by decide +kernel
theorem dL_isTold_191 : decode cL_isTold 191 = .ok (.ishr, 1) := by decide +kernel
theorem dL_isTold_192 : decode cL_isTold 192 = .ok (.bipush 49, 2) := by decide +kernel
theorem dL_isTold_194 : decode cL_isTold 194 = .ok (.irem, 1) := by decide +kernel
theorem dL_isTold_195 : decode cL_isTold 195 = .ok (.bipush 17, 2) := by decide +kernel
theorem dL_isTold_197 : decode cL_isTold 197 = .ok (.iload 8, 2) := by decide +kernel
theorem dL_isTold_199 : decode cL_isTold 199 = .ok (.imul, 1) := by decide +kernel
theorem dL_isTold_200 : decode cL_isTold 200 = .ok (.iadd, 1) := by decide +kernel
theorem dL_isTold_201 : decode cL_isTold 201 = .ok (.bipush 49, 2) := by decide +kernel
theorem dL_isTold_203 : decode cL_isTold 203 = .ok (.irem, 1) := by decide +kernel
theorem dL_isTold_204 : decode cL_isTold 204 = .ok (.iadd, 1) := by decide +kernel
theorem dL_isTold_205 : decode cL_isTold 205 = .ok (.istore 10, 2) := by decide +kernel
theorem dL_isTold_207 : decode cL_isTold 207 = .ok (.iload 9, 2) := by decide +kernel
theorem dL_isTold_209 : decode cL_isTold 209 = .ok (.ifCond .ne 18, 3) := by decide +kernel
theorem dL_isTold_212 : decode cL_isTold 212 = .ok (.iload 4, 2) := by decide +kernel
theorem dL_isTold_214 : decode cL_isTold 214 = .ok (.iconst 3, 1) := by decide +kernel
theorem dL_isTold_215 : decode cL_isTold 215 = .ok (.ishr, 1) := by decide +kernel
theorem dL_isTold_216 : decode cL_isTold 216 = .ok (.sipush 5501, 3) := by decide +kernel
theorem dL_isTold_219 : decode cL_isTold 219 = .ok (.irem, 1) := by decide +kernel
theorem dL_isTold_220 : decode cL_isTold 220 = .ok (.sipush 500, 3) := by decide +kernel
theorem dL_isTold_223 : decode cL_isTold 223 = .ok (.isub, 1) := by decide +kernel
theorem dL_isTold_224 : decode cL_isTold 224 = .ok (.goto 27, 3) := by decide +kernel
theorem dL_isTold_227 : decode cL_isTold 227 = .ok (.iload 9, 2) := by decide +kernel
theorem dL_isTold_229 : decode cL_isTold 229 = .ok (.iconst 1, 1) := by decide +kernel
theorem dL_isTold_230 : decode cL_isTold 230 = .ok (.if_icmp .ne 14, 3) := by decide +kernel
theorem dL_isTold_233 : decode cL_isTold 233 = .ok (.iload 4, 2) := by decide +kernel
theorem dL_isTold_235 : decode cL_isTold 235 = .ok (.iconst 3, 1) := by decide +kernel
theorem dL_isTold_236 : decode cL_isTold 236 = .ok (.ishr, 1) := by decide +kernel
theorem dL_isTold_237 : decode cL_isTold 237 = .ok (.sipush 5001, 3) := by decide +kernel
theorem dL_isTold_240 : decode cL_isTold 240 = .ok (.irem, 1) := by decide +kernel
theorem dL_isTold_241 : decode cL_isTold 241 = .ok (.goto 10, 3) := by decide +kernel
theorem dL_isTold_244 : decode cL_isTold 244 = .ok (.iload 4, 2) := by decide +kernel
theorem dL_isTold_246 : decode cL_isTold 246 = .ok (.iconst 3, 1) := by decide +kernel
theorem dL_isTold_247 : decode cL_isTold 247 = .ok (.ishr, 1) := by decide +kernel
theorem dL_isTold_248 : decode cL_isTold 248 = .ok (.bipush 51, 2) := by decide +kernel
theorem dL_isTold_250 : decode cL_isTold 250 = .ok (.irem, 1) := by decide +kernel
theorem dL_isTold_251 : decode cL_isTold 251 = .ok (.istore 11, 2) := by decide +kernel
theorem dL_isTold_253 : decode cL_isTold 253 = .ok (.iload 9, 2) := by decide +kernel
theorem dL_isTold_255 : decode cL_isTold 255 = .ok (.iconst 1, 1) := by decide +kernel
theorem dL_isTold_256 : decode cL_isTold 256 = .ok (.if_icmp .ne 16, 3) := by decide +kernel
theorem dL_isTold_259 : decode cL_isTold 259 = .ok (.iconst 1, 1) := by decide +kernel
theorem dL_isTold_260 : decode cL_isTold 260 = .ok (.iload 4, 2) := by decide +kernel
theorem dL_isTold_262 : decode cL_isTold 262 = .ok (.iconst 5, 1) := by decide +kernel
theorem dL_isTold_263 : decode cL_isTold 263 = .ok (.ishr, 1) := by decide +kernel
theorem dL_isTold_264 : decode cL_isTold 264 = .ok (.sipush 20000, 3) := by decide +kernel
theorem dL_isTold_267 : decode cL_isTold 267 = .ok (.irem, 1) := by decide +kernel
theorem dL_isTold_268 : decode cL_isTold 268 = .ok (.iadd, 1) := by decide +kernel
theorem dL_isTold_269 : decode cL_isTold 269 = .ok (.goto 4, 3) := by decide +kernel
theorem dL_isTold_272 : decode cL_isTold 272 = .ok (.iconst 0, 1) := by decide +kernel
theorem dL_isTold_273 : decode cL_isTold 273 = .ok (.istore 12, 2) := by decide +kernel
theorem dL_isTold_275 : decode cL_isTold 275 = .ok (.iconst 0, 1) := by decide +kernel
theorem dL_isTold_276 : decode cL_isTold 276 = .ok (.istore 13, 2) := by decide +kernel
theorem dL_isTold_278 : decode cL_isTold 278 = .ok (.iconst 0, 1) := by decide +kernel
theorem dL_isTold_279 : decode cL_isTold 279 = .ok (.istore 14, 2) := by decide +kernel
theorem dL_isTold_281 : decode cL_isTold 281 = .ok (.iload 14, 2) := by decide +kernel
theorem dL_isTold_283 : decode cL_isTold 283 = .ok (.iload 8, 2) := by decide +kernel
theorem dL_isTold_285 : decode cL_isTold 285 = .ok (.if_icmp .ge 34, 3) := by decide +kernel
theorem dL_isTold_288 : decode cL_isTold 288 = .ok (.iload 13, 2) := by decide +kernel
theorem dL_isTold_290 : decode cL_isTold 290 = .ok (.ifCond .ne 16, 3) := by decide +kernel
theorem dL_isTold_293 : decode cL_isTold 293 = .ok (.aload_n 2, 1) := by decide +kernel
theorem dL_isTold_294 : decode cL_isTold 294 = .ok (.iconst 4, 1) := by decide +kernel
theorem dL_isTold_295 : decode cL_isTold 295 = .ok (.iload 14, 2) := by decide +kernel
theorem dL_isTold_297 : decode cL_isTold 297 = .ok (.imul, 1) := by decide +kernel
theorem dL_isTold_298 : decode cL_isTold 298 = .ok (.iconst 1, 1) := by decide +kernel
theorem dL_isTold_299 : decode cL_isTold 299 = .ok (.iadd, 1) := by decide +kernel
theorem dL_isTold_300 : decode cL_isTold 300 = .ok (.iaload, 1) := by decide +kernel
theorem dL_isTold_301 : decode cL_isTold 301 = .ok (.iload 10, 2) := by decide +kernel
theorem dL_isTold_303 : decode cL_isTold 303 = .ok (.if_icmp .ne 7, 3) := by decide +kernel
theorem dL_isTold_306 : decode cL_isTold 306 = .ok (.iconst 1, 1) := by decide +kernel
theorem dL_isTold_307 : decode cL_isTold 307 = .ok (.goto 4, 3) := by decide +kernel
theorem dL_isTold_310 : decode cL_isTold 310 = .ok (.iconst 0, 1) := by decide +kernel
theorem dL_isTold_311 : decode cL_isTold 311 = .ok (.istore 13, 2) := by decide +kernel
theorem dL_isTold_313 : decode cL_isTold 313 = .ok (.iinc 14 1, 3) := by decide +kernel
theorem dL_isTold_316 : decode cL_isTold 316 = .ok (.goto (-35), 3) := by decide +kernel
theorem dL_isTold_319 : decode cL_isTold 319 = .ok (.aload_n 2, 1) := by decide +kernel
theorem dL_isTold_320 : decode cL_isTold 320 = .ok (.iconst 4, 1) := by decide +kernel
theorem dL_isTold_321 : decode cL_isTold 321 = .ok (.iload 8, 2) := by decide +kernel
theorem dL_isTold_323 : decode cL_isTold 323 = .ok (.imul, 1) := by decide +kernel
theorem dL_isTold_324 : decode cL_isTold 324 = .ok (.iload 9, 2) := by decide +kernel
theorem dL_isTold_326 : decode cL_isTold 326 = .ok (.iastore, 1) := by decide +kernel
theorem dL_isTold_327 : decode cL_isTold 327 = .ok (.aload_n 2, 1) := by decide +kernel
theorem dL_isTold_328 : decode cL_isTold 328 = .ok (.iconst 4, 1) := by decide +kernel
theorem dL_isTold_329 : decode cL_isTold 329 = .ok (.iload 8, 2) := by decide +kernel
theorem dL_isTold_331 : decode cL_isTold 331 = .ok (.imul, 1) := by decide +kernel
theorem dL_isTold_332 : decode cL_isTold 332 = .ok (.iconst 1, 1) := by decide +kernel
theorem dL_isTold_333 : decode cL_isTold 333 = .ok (.iadd, 1) := by decide +kernel
theorem dL_isTold_334 : decode cL_isTold 334 = .ok (.iload 13, 2) := by decide +kernel
theorem dL_isTold_336 : decode cL_isTold 336 = .ok (.ifCond .eq 7, 3) := by decide +kernel
theorem dL_isTold_339 : decode cL_isTold 339 = .ok (.iconst 0, 1) := by decide +kernel
theorem dL_isTold_340 : decode cL_isTold 340 = .ok (.goto 5, 3) := by decide +kernel
theorem dL_isTold_343 : decode cL_isTold 343 = .ok (.iload 10, 2) := by decide +kernel
theorem dL_isTold_345 : decode cL_isTold 345 = .ok (.iastore, 1) := by decide +kernel
theorem dL_isTold_346 : decode cL_isTold 346 = .ok (.aload_n 0, 1) := by decide +kernel
theorem dL_isTold_347 : decode cL_isTold 347 = .ok (.bipush 18, 2) := by decide +kernel
theorem dL_isTold_349 : decode cL_isTold 349 = .ok (.invokevirtual 46, 3) := by decide +kernel
theorem dL_isTold_352 : decode cL_isTold 352 = .ok (.istore 14, 2) := by decide +kernel
theorem dL_isTold_354 : decode cL_isTold 354 = .ok (.aload_n 0, 1) := by decide +kernel
theorem dL_isTold_355 : decode cL_isTold 355 = .ok (.iload 9, 2) := by decide +kernel
theorem dL_isTold_357 : decode cL_isTold 357 = .ok (.ifCond .ne 9, 3) := by decide +kernel
theorem dL_isTold_360 : decode cL_isTold 360 = .ok (.ldc2_w 60, 3) := by decide +kernel
theorem dL_isTold_363 : decode cL_isTold 363 = .ok (.goto 18, 3) := by decide +kernel
theorem dL_isTold_366 : decode cL_isTold 366 = .ok (.iload 9, 2) := by decide +kernel
theorem dL_isTold_368 : decode cL_isTold 368 = .ok (.iconst 1, 1) := by decide +kernel
theorem dL_isTold_369 : decode cL_isTold 369 = .ok (.if_icmp .ne 9, 3) := by decide +kernel
theorem dL_isTold_372 : decode cL_isTold 372 = .ok (.ldc2_w 62, 3) := by decide +kernel
theorem dL_isTold_375 : decode cL_isTold 375 = .ok (.goto 6, 3) := by decide +kernel
theorem dL_isTold_378 : decode cL_isTold 378 = .ok (.ldc2_w 64, 3) := by decide +kernel
theorem dL_isTold_381 : decode cL_isTold 381 = .ok (.invokestatic 23, 3) := by decide +kernel
theorem dL_isTold_384 : decode cL_isTold 384 = .ok (.iload 9, 2) := by decide +kernel
theorem dL_isTold_386 : decode cL_isTold 386 = .ok (.iconst 1, 1) := by decide +kernel
theorem dL_isTold_387 : decode cL_isTold 387 = .ok (.if_icmp .ne 10, 3) := by decide +kernel
theorem dL_isTold_390 : decode cL_isTold 390 = .ok (.aload_n 0, 1) := by decide +kernel
theorem dL_isTold_391 : decode cL_isTold 391 = .ok (.bipush 114, 2) := by decide +kernel
theorem dL_isTold_393 : decode cL_isTold 393 = .ok (.invokevirtual 9, 3) := by decide +kernel
theorem dL_isTold_396 : decode cL_isTold 396 = .ok (.pop, 1) := by decide +kernel
theorem dL_isTold_397 : decode cL_isTold 397 = .ok (.aload_n 0, 1) := by decide +kernel
theorem dL_isTold_398 : decode cL_isTold 398 = .ok (.iload 10, 2) := by decide +kernel
theorem dL_isTold_400 : decode cL_isTold 400 = .ok (.invokestatic 29, 3) := by decide +kernel
theorem dL_isTold_403 : decode cL_isTold 403 = .ok (.aload_n 0, 1) := by decide +kernel
theorem dL_isTold_404 : decode cL_isTold 404 = .ok (.iload 11, 2) := by decide +kernel
theorem dL_isTold_406 : decode cL_isTold 406 = .ok (.invokestatic 29, 3) := by decide +kernel
theorem dL_isTold_409 : decode cL_isTold 409 = .ok (.iload 9, 2) := by decide +kernel
theorem dL_isTold_411 : decode cL_isTold 411 = .ok (.iconst 1, 1) := by decide +kernel
theorem dL_isTold_412 : decode cL_isTold 412 = .ok (.if_icmp .ne 9, 3) := by decide +kernel
theorem dL_isTold_415 : decode cL_isTold 415 = .ok (.aload_n 0, 1) := by decide +kernel
theorem dL_isTold_416 : decode cL_isTold 416 = .ok (.iload 12, 2) := by decide +kernel
theorem dL_isTold_418 : decode cL_isTold 418 = .ok (.invokestatic 29, 3) := by decide +kernel
theorem dL_isTold_421 : decode cL_isTold 421 = .ok (.aload_n 0, 1) := by decide +kernel
theorem dL_isTold_422 : decode cL_isTold 422 = .ok (.bipush 59, 2) := by decide +kernel
theorem dL_isTold_424 : decode cL_isTold 424 = .ok (.invokevirtual 9, 3) := by decide +kernel
theorem dL_isTold_427 : decode cL_isTold 427 = .ok (.pop, 1) := by decide +kernel
theorem dL_isTold_428 : decode cL_isTold 428 = .ok (.aload_n 1, 1) := by decide +kernel
theorem dL_isTold_429 : decode cL_isTold 429 = .ok (.iload 9, 2) := by decide +kernel
theorem dL_isTold_431 : decode cL_isTold 431 = .ok (.iload 10, 2) := by decide +kernel
theorem dL_isTold_433 : decode cL_isTold 433 = .ok (.iload 11, 2) := by decide +kernel
theorem dL_isTold_435 : decode cL_isTold 435 = .ok (.iload 12, 2) := by decide +kernel
theorem dL_isTold_437 : decode cL_isTold 437 = .ok (.invokevirtual 37, 3) := by decide +kernel
theorem dL_isTold_440 : decode cL_isTold 440 = .ok (.istore 15, 2) := by decide +kernel
theorem dL_isTold_442 : decode cL_isTold 442 = .ok (.iload 13, 2) := by decide +kernel
theorem dL_isTold_444 : decode cL_isTold 444 = .ok (.ifCond .eq 68, 3) := by decide +kernel
theorem dL_isTold_447 : decode cL_isTold 447 = .ok (.iload 7, 2) := by decide +kernel
theorem dL_isTold_449 : decode cL_isTold 449 = .ok (.ifCond .eq 61, 3) := by decide +kernel
theorem dL_isTold_452 : decode cL_isTold 452 = .ok (.iload 15, 2) := by decide +kernel
theorem dL_isTold_454 : decode cL_isTold 454 = .ok (.ldc 66, 2) := by decide +kernel
theorem dL_isTold_456 : decode cL_isTold 456 = .ok (.if_icmp .ne 54, 3) := by decide +kernel
theorem dL_isTold_459 : decode cL_isTold 459 = .ok (.aload_n 0, 1) := by decide +kernel
theorem dL_isTold_460 : decode cL_isTold 460 = .ok (.iconst 0, 1) := by decide +kernel
theorem dL_isTold_461 : decode cL_isTold 461 = .ok (.invokevirtual 67, 3) := by decide +kernel
theorem dL_isTold_464 : decode cL_isTold 464 = .ok (.iload 14, 2) := by decide +kernel
theorem dL_isTold_466 : decode cL_isTold 466 = .ok (.if_icmp .ne 44, 3) := by decide +kernel
theorem dL_isTold_469 : decode cL_isTold 469 = .ok (.aload_n 0, 1) := by decide +kernel
theorem dL_isTold_470 : decode cL_isTold 470 = .ok (.iconst 1, 1) := by decide +kernel
theorem dL_isTold_471 : decode cL_isTold 471 = .ok (.invokevirtual 67, 3) := by decide +kernel
theorem dL_isTold_474 : decode cL_isTold 474 = .ok (.iconst 4, 1) := by decide +kernel
theorem dL_isTold_475 : decode cL_isTold 475 = .ok (.if_icmp .ne 35, 3) := by decide +kernel
theorem dL_isTold_478 : decode cL_isTold 478 = .ok (.aload_n 0, 1) := by decide +kernel
theorem dL_isTold_479 : decode cL_isTold 479 = .ok (.iconst 2, 1) := by decide +kernel
theorem dL_isTold_480 : decode cL_isTold 480 = .ok (.invokevirtual 67, 3) := by decide +kernel
theorem dL_isTold_483 : decode cL_isTold 483 = .ok (.iload 9, 2) := by decide +kernel
theorem dL_isTold_485 : decode cL_isTold 485 = .ok (.iconst 1, 1) := by decide +kernel
theorem dL_isTold_486 : decode cL_isTold 486 = .ok (.if_icmp .ne 7, 3) := by decide +kernel
theorem dL_isTold_489 : decode cL_isTold 489 = .ok (.iconst 3, 1) := by decide +kernel
theorem dL_isTold_490 : decode cL_isTold 490 = .ok (.goto 4, 3) := by decide +kernel
theorem dL_isTold_493 : decode cL_isTold 493 = .ok (.iconst 2, 1) := by decide +kernel
theorem dL_isTold_494 : decode cL_isTold 494 = .ok (.if_icmp .ne 16, 3) := by decide +kernel
theorem dL_isTold_497 : decode cL_isTold 497 = .ok (.aload_n 0, 1) := by decide +kernel
theorem dL_isTold_498 : decode cL_isTold 498 = .ok (.invokevirtual 33, 3) := by decide +kernel
theorem dL_isTold_501 : decode cL_isTold 501 = .ok (.ldc 66, 2) := by decide +kernel
theorem dL_isTold_503 : decode cL_isTold 503 = .ok (.if_icmp .ne 7, 3) := by decide +kernel
theorem dL_isTold_506 : decode cL_isTold 506 = .ok (.iconst 1, 1) := by decide +kernel
theorem dL_isTold_507 : decode cL_isTold 507 = .ok (.goto 4, 3) := by decide +kernel
theorem dL_isTold_510 : decode cL_isTold 510 = .ok (.iconst 0, 1) := by decide +kernel
theorem dL_isTold_511 : decode cL_isTold 511 = .ok (.ireturn, 1) := by decide +kernel
theorem dL_isTold_512 : decode cL_isTold 512 = .ok (.iload 7, 2) := by decide +kernel
theorem dL_isTold_514 : decode cL_isTold 514 = .ok (.ifCond .eq 19, 3) := by decide +kernel
theorem dL_isTold_517 : decode cL_isTold 517 = .ok (.iload 15, 2) := by decide +kernel
theorem dL_isTold_519 : decode cL_isTold 519 = .ok (.ifCond .lt 14, 3) := by decide +kernel
theorem dL_isTold_522 : decode cL_isTold 522 = .ok (.iload 15, 2) := by decide +kernel
theorem dL_isTold_524 : decode cL_isTold 524 = .ok (.iload 8, 2) := by decide +kernel
theorem dL_isTold_526 : decode cL_isTold 526 = .ok (.if_icmp .gt 7, 3) := by decide +kernel
theorem dL_isTold_529 : decode cL_isTold 529 = .ok (.iconst 1, 1) := by decide +kernel
theorem dL_isTold_530 : decode cL_isTold 530 = .ok (.goto 4, 3) := by decide +kernel
theorem dL_isTold_533 : decode cL_isTold 533 = .ok (.iconst 0, 1) := by decide +kernel
theorem dL_isTold_534 : decode cL_isTold 534 = .ok (.istore 7, 2) := by decide +kernel
theorem dL_isTold_536 : decode cL_isTold 536 = .ok (.iinc 8 1, 3) := by decide +kernel
theorem dL_isTold_539 : decode cL_isTold 539 = .ok (.goto (-383), 3) := by decide +kernel
theorem dL_isTold_542 : decode cL_isTold 542 = .ok (.iload 7, 2) := by decide +kernel
theorem dL_isTold_544 : decode cL_isTold 544 = .ok (.ifCond .eq 45, 3) := by decide +kernel
theorem dL_isTold_547 : decode cL_isTold 547 = .ok (.aload_n 0, 1) := by decide +kernel
theorem dL_isTold_548 : decode cL_isTold 548 = .ok (.iconst 0, 1) := by decide +kernel
theorem dL_isTold_549 : decode cL_isTold 549 = .ok (.invokevirtual 67, 3) := by decide +kernel
theorem dL_isTold_552 : decode cL_isTold 552 = .ok (.ldc 70, 2) := by decide +kernel
theorem dL_isTold_554 : decode cL_isTold 554 = .ok (.if_icmp .ne 35, 3) := by decide +kernel
theorem dL_isTold_557 : decode cL_isTold 557 = .ok (.aload_n 0, 1) := by decide +kernel
theorem dL_isTold_558 : decode cL_isTold 558 = .ok (.invokevirtual 33, 3) := by decide +kernel
theorem dL_isTold_561 : decode cL_isTold 561 = .ok (.iload 5, 2) := by decide +kernel
theorem dL_isTold_563 : decode cL_isTold 563 = .ok (.if_icmp .ne 26, 3) := by decide +kernel
theorem dL_isTold_566 : decode cL_isTold 566 = .ok (.aload_n 1, 1) := by decide +kernel
theorem dL_isTold_567 : decode cL_isTold 567 = .ok (.bipush 14, 2) := by decide +kernel
theorem dL_isTold_569 : decode cL_isTold 569 = .ok (.invokevirtual 46, 3) := by decide +kernel
theorem dL_isTold_572 : decode cL_isTold 572 = .ok (.iload 5, 2) := by decide +kernel
theorem dL_isTold_574 : decode cL_isTold 574 = .ok (.if_icmp .ne 15, 3) := by decide +kernel
theorem dL_isTold_577 : decode cL_isTold 577 = .ok (.aload_n 0, 1) := by decide +kernel
theorem dL_isTold_578 : decode cL_isTold 578 = .ok (.aload_n 1, 1) := by decide +kernel
theorem dL_isTold_579 : decode cL_isTold 579 = .ok (.invokestatic 71, 3) := by decide +kernel
theorem dL_isTold_582 : decode cL_isTold 582 = .ok (.ifCond .eq 7, 3) := by decide +kernel
theorem dL_isTold_585 : decode cL_isTold 585 = .ok (.iconst 1, 1) := by decide +kernel
theorem dL_isTold_586 : decode cL_isTold 586 = .ok (.goto 4, 3) := by decide +kernel
theorem dL_isTold_589 : decode cL_isTold 589 = .ok (.iconst 0, 1) := by decide +kernel
theorem dL_isTold_590 : decode cL_isTold 590 = .ok (.istore 7, 2) := by decide +kernel
theorem dL_isTold_592 : decode cL_isTold 592 = .ok (.aload_n 0, 1) := by decide +kernel
theorem dL_isTold_593 : decode cL_isTold 593 = .ok (.bipush 18, 2) := by decide +kernel
theorem dL_isTold_595 : decode cL_isTold 595 = .ok (.invokevirtual 46, 3) := by decide +kernel
theorem dL_isTold_598 : decode cL_isTold 598 = .ok (.istore 8, 2) := by decide +kernel
theorem dL_isTold_600 : decode cL_isTold 600 = .ok (.iload 8, 2) := by decide +kernel
theorem dL_isTold_602 : decode cL_isTold 602 = .ok (.bipush 90, 2) := by decide +kernel
theorem dL_isTold_604 : decode cL_isTold 604 = .ok (.if_icmp .ge 140, 3) := by decide +kernel
theorem dL_isTold_607 : decode cL_isTold 607 = .ok (.iload 7, 2) := by decide +kernel
theorem dL_isTold_609 : decode cL_isTold 609 = .ok (.ifCond .eq 135, 3) := by decide +kernel
theorem dL_isTold_612 : decode cL_isTold 612 = .ok (.aload_n 0, 1) := by decide +kernel
theorem dL_isTold_613 : decode cL_isTold 613 = .ok (.ldc2_w 60, 3) := by decide +kernel
theorem dL_isTold_616 : decode cL_isTold 616 = .ok (.invokestatic 23, 3) := by decide +kernel
theorem dL_isTold_619 : decode cL_isTold 619 = .ok (.aload_n 0, 1) := by decide +kernel
theorem dL_isTold_620 : decode cL_isTold 620 = .ok (.iconst 0, 1) := by decide +kernel
theorem dL_isTold_621 : decode cL_isTold 621 = .ok (.invokevirtual 67, 3) := by decide +kernel
theorem dL_isTold_624 : decode cL_isTold 624 = .ok (.iload 8, 2) := by decide +kernel
theorem dL_isTold_626 : decode cL_isTold 626 = .ok (.if_icmp .ne 25, 3) := by decide +kernel
theorem dL_isTold_629 : decode cL_isTold 629 = .ok (.aload_n 0, 1) := by decide +kernel
theorem dL_isTold_630 : decode cL_isTold 630 = .ok (.iconst 1, 1) := by decide +kernel
theorem dL_isTold_631 : decode cL_isTold 631 = .ok (.invokevirtual 67, 3) := by decide +kernel
theorem dL_isTold_634 : decode cL_isTold 634 = .ok (.iconst 2, 1) := by decide +kernel
theorem dL_isTold_635 : decode cL_isTold 635 = .ok (.if_icmp .ne 16, 3) := by decide +kernel
theorem dL_isTold_638 : decode cL_isTold 638 = .ok (.aload_n 0, 1) := by decide +kernel
theorem dL_isTold_639 : decode cL_isTold 639 = .ok (.iconst 2, 1) := by decide +kernel
theorem dL_isTold_640 : decode cL_isTold 640 = .ok (.invokevirtual 67, 3) := by decide +kernel
theorem dL_isTold_643 : decode cL_isTold 643 = .ok (.iconst 1, 1) := by decide +kernel
theorem dL_isTold_644 : decode cL_isTold 644 = .ok (.if_icmp .ne 7, 3) := by decide +kernel
theorem dL_isTold_647 : decode cL_isTold 647 = .ok (.iconst 1, 1) := by decide +kernel
theorem dL_isTold_648 : decode cL_isTold 648 = .ok (.goto 4, 3) := by decide +kernel
theorem dL_isTold_651 : decode cL_isTold 651 = .ok (.iconst 0, 1) := by decide +kernel
theorem dL_isTold_652 : decode cL_isTold 652 = .ok (.istore 7, 2) := by decide +kernel
theorem dL_isTold_654 : decode cL_isTold 654 = .ok (.aload_n 0, 1) := by decide +kernel
theorem dL_isTold_655 : decode cL_isTold 655 = .ok (.iload 6, 2) := by decide +kernel
theorem dL_isTold_657 : decode cL_isTold 657 = .ok (.invokestatic 29, 3) := by decide +kernel
theorem dL_isTold_660 : decode cL_isTold 660 = .ok (.iload 7, 2) := by decide +kernel
theorem dL_isTold_662 : decode cL_isTold 662 = .ok (.ifCond .eq 25, 3) := by decide +kernel
theorem dL_isTold_665 : decode cL_isTold 665 = .ok (.aload_n 0, 1) := by decide +kernel
theorem dL_isTold_666 : decode cL_isTold 666 = .ok (.iconst 1, 1) := by decide +kernel
theorem dL_isTold_667 : decode cL_isTold 667 = .ok (.invokevirtual 67, 3) := by decide +kernel
theorem dL_isTold_670 : decode cL_isTold 670 = .ok (.iconst 2, 1) := by decide +kernel
theorem dL_isTold_671 : decode cL_isTold 671 = .ok (.if_icmp .ne 16, 3) := by decide +kernel
theorem dL_isTold_674 : decode cL_isTold 674 = .ok (.aload_n 0, 1) := by decide +kernel
theorem dL_isTold_675 : decode cL_isTold 675 = .ok (.iconst 2, 1) := by decide +kernel
theorem dL_isTold_676 : decode cL_isTold 676 = .ok (.invokevirtual 67, 3) := by decide +kernel
theorem dL_isTold_679 : decode cL_isTold 679 = .ok (.iconst 2, 1) := by decide +kernel
theorem dL_isTold_680 : decode cL_isTold 680 = .ok (.if_icmp .ne 7, 3) := by decide +kernel
theorem dL_isTold_683 : decode cL_isTold 683 = .ok (.iconst 1, 1) := by decide +kernel
theorem dL_isTold_684 : decode cL_isTold 684 = .ok (.goto 4, 3) := by decide +kernel
theorem dL_isTold_687 : decode cL_isTold 687 = .ok (.iconst 0, 1) := by decide +kernel
theorem dL_isTold_688 : decode cL_isTold 688 = .ok (.istore 7, 2) := by decide +kernel
theorem dL_isTold_690 : decode cL_isTold 690 = .ok (.aload_n 0, 1) := by decide +kernel
theorem dL_isTold_691 : decode cL_isTold 691 = .ok (.sipush 5001, 3) := by decide +kernel
theorem dL_isTold_694 : decode cL_isTold 694 = .ok (.invokestatic 29, 3) := by decide +kernel
theorem dL_isTold_697 : decode cL_isTold 697 = .ok (.iload 7, 2) := by decide +kernel
theorem dL_isTold_699 : decode cL_isTold 699 = .ok (.ifCond .eq 42, 3) := by decide +kernel
theorem dL_isTold_702 : decode cL_isTold 702 = .ok (.aload_n 0, 1) := by decide +kernel
theorem dL_isTold_703 : decode cL_isTold 703 = .ok (.iconst 1, 1) := by decide +kernel
theorem dL_isTold_704 : decode cL_isTold 704 = .ok (.invokevirtual 67, 3) := by decide +kernel
theorem dL_isTold_707 : decode cL_isTold 707 = .ok (.iconst 3, 1) := by decide +kernel
theorem dL_isTold_708 : decode cL_isTold 708 = .ok (.if_icmp .ne 33, 3) := by decide +kernel
theorem dL_isTold_711 : decode cL_isTold 711 = .ok (.aload_n 0, 1) := by decide +kernel
theorem dL_isTold_712 : decode cL_isTold 712 = .ok (.iconst 2, 1) := by decide +kernel
theorem dL_isTold_713 : decode cL_isTold 713 = .ok (.invokevirtual 67, 3) := by decide +kernel
theorem dL_isTold_716 : decode cL_isTold 716 = .ok (.iconst 1, 1) := by decide +kernel
theorem dL_isTold_717 : decode cL_isTold 717 = .ok (.if_icmp .ne 24, 3) := by decide +kernel
theorem dL_isTold_720 : decode cL_isTold 720 = .ok (.aload_n 0, 1) := by decide +kernel
theorem dL_isTold_721 : decode cL_isTold 721 = .ok (.invokevirtual 33, 3) := by decide +kernel
theorem dL_isTold_724 : decode cL_isTold 724 = .ok (.ldc 66, 2) := by decide +kernel
theorem dL_isTold_726 : decode cL_isTold 726 = .ok (.if_icmp .ne 15, 3) := by decide +kernel
theorem dL_isTold_729 : decode cL_isTold 729 = .ok (.aload_n 0, 1) := by decide +kernel
theorem dL_isTold_730 : decode cL_isTold 730 = .ok (.aload_n 1, 1) := by decide +kernel
theorem dL_isTold_731 : decode cL_isTold 731 = .ok (.invokestatic 71, 3) := by decide +kernel
theorem dL_isTold_734 : decode cL_isTold 734 = .ok (.ifCond .eq 7, 3) := by decide +kernel
theorem dL_isTold_737 : decode cL_isTold 737 = .ok (.iconst 1, 1) := by decide +kernel
theorem dL_isTold_738 : decode cL_isTold 738 = .ok (.goto 4, 3) := by decide +kernel
theorem dL_isTold_741 : decode cL_isTold 741 = .ok (.iconst 0, 1) := by decide +kernel
theorem dL_isTold_742 : decode cL_isTold 742 = .ok (.istore 7, 2) := by decide +kernel
theorem dL_isTold_744 : decode cL_isTold 744 = .ok (.iload 7, 2) := by decide +kernel
theorem dL_isTold_746 : decode cL_isTold 746 = .ok (.ireturn, 1) := by decide +kernel
theorem dL_isKept_0 : decode cL_isKept 0 = .ok (.aload_n 0, 1) := by decide +kernel
theorem dL_isKept_1 : decode cL_isKept 1 = .ok (.bipush 16, 2) := by decide +kernel
theorem dL_isKept_3 : decode cL_isKept 3 = .ok (.invokevirtual 46, 3) := by decide +kernel
theorem dL_isKept_6 : decode cL_isKept 6 = .ok (.istore_n 2, 1) := by decide +kernel
theorem dL_isKept_7 : decode cL_isKept 7 = .ok (.iload_n 2, 1) := by decide +kernel
theorem dL_isKept_8 : decode cL_isKept 8 = .ok (.iconst 3, 1) := by decide +kernel
theorem dL_isKept_9 : decode cL_isKept 9 = .ok (.if_icmp .ne 7, 3) := by decide +kernel
theorem dL_isKept_12 : decode cL_isKept 12 = .ok (.iconst 3, 1) := by decide +kernel
theorem dL_isKept_13 : decode cL_isKept 13 = .ok (.goto 6, 3) := by decide +kernel
theorem dL_isKept_16 : decode cL_isKept 16 = .ok (.iload_n 2, 1) := by decide +kernel
theorem dL_isKept_17 : decode cL_isKept 17 = .ok (.iconst 1, 1) := by decide +kernel
theorem dL_isKept_18 : decode cL_isKept 18 = .ok (.iadd, 1) := by decide +kernel
theorem dL_isKept_19 : decode cL_isKept 19 = .ok (.istore_n 3, 1) := by decide +kernel
theorem dL_isKept_20 : decode cL_isKept 20 = .ok (.aload_n 0, 1) := by decide +kernel
theorem dL_isKept_21 : decode cL_isKept 21 = .ok (.invokevirtual 75, 3) := by decide +kernel
theorem dL_isKept_24 : decode cL_isKept 24 = .ok (.iload_n 3, 1) := by decide +kernel
theorem dL_isKept_25 : decode cL_isKept 25 = .ok (.if_icmp .ne 69, 3) := by decide +kernel
theorem dL_isKept_28 : decode cL_isKept 28 = .ok (.aload_n 0, 1) := by decide +kernel
theorem dL_isKept_29 : decode cL_isKept 29 = .ok (.iload_n 3, 1) := by decide +kernel
theorem dL_isKept_30 : decode cL_isKept 30 = .ok (.iconst 1, 1) := by decide +kernel
theorem dL_isKept_31 : decode cL_isKept 31 = .ok (.isub, 1) := by decide +kernel
theorem dL_isKept_32 : decode cL_isKept 32 = .ok (.iconst 0, 1) := by decide +kernel
theorem dL_isKept_33 : decode cL_isKept 33 = .ok (.iconst 0, 1) := by decide +kernel
theorem dL_isKept_34 : decode cL_isKept 34 = .ok (.invokevirtual 78, 3) := by decide +kernel
theorem dL_isKept_37 : decode cL_isKept 37 = .ok (.ldc 70, 2) := by decide +kernel
theorem dL_isKept_39 : decode cL_isKept 39 = .ok (.if_icmp .ne 55, 3) := by decide +kernel
theorem dL_isKept_42 : decode cL_isKept 42 = .ok (.aload_n 0, 1) := by decide +kernel
theorem dL_isKept_43 : decode cL_isKept 43 = .ok (.iload_n 3, 1) := by decide +kernel
theorem dL_isKept_44 : decode cL_isKept 44 = .ok (.iconst 1, 1) := by decide +kernel
theorem dL_isKept_45 : decode cL_isKept 45 = .ok (.isub, 1) := by decide +kernel
theorem dL_isKept_46 : decode cL_isKept 46 = .ok (.iconst 0, 1) := by decide +kernel
theorem dL_isKept_47 : decode cL_isKept 47 = .ok (.iconst 1, 1) := by decide +kernel
theorem dL_isKept_48 : decode cL_isKept 48 = .ok (.invokevirtual 78, 3) := by decide +kernel
theorem dL_isKept_51 : decode cL_isKept 51 = .ok (.ifCond .ne 43, 3) := by decide +kernel
theorem dL_isKept_54 : decode cL_isKept 54 = .ok (.aload_n 0, 1) := by decide +kernel
theorem dL_isKept_55 : decode cL_isKept 55 = .ok (.iload_n 3, 1) := by decide +kernel
theorem dL_isKept_56 : decode cL_isKept 56 = .ok (.iconst 1, 1) := by decide +kernel
theorem dL_isKept_57 : decode cL_isKept 57 = .ok (.isub, 1) := by decide +kernel
theorem dL_isKept_58 : decode cL_isKept 58 = .ok (.iconst 0, 1) := by decide +kernel
theorem dL_isKept_59 : decode cL_isKept 59 = .ok (.iconst 2, 1) := by decide +kernel
theorem dL_isKept_60 : decode cL_isKept 60 = .ok (.invokevirtual 78, 3) := by decide +kernel
theorem dL_isKept_63 : decode cL_isKept 63 = .ok (.ifCond .ne 31, 3) := by decide +kernel
theorem dL_isKept_66 : decode cL_isKept 66 = .ok (.aload_n 0, 1) := by decide +kernel
theorem dL_isKept_67 : decode cL_isKept 67 = .ok (.iload_n 3, 1) := by decide +kernel
theorem dL_isKept_68 : decode cL_isKept 68 = .ok (.iconst 1, 1) := by decide +kernel
theorem dL_isKept_69 : decode cL_isKept 69 = .ok (.isub, 1) := by decide +kernel
theorem dL_isKept_70 : decode cL_isKept 70 = .ok (.iconst 0, 1) := by decide +kernel
theorem dL_isKept_71 : decode cL_isKept 71 = .ok (.iconst 3, 1) := by decide +kernel
theorem dL_isKept_72 : decode cL_isKept 72 = .ok (.invokevirtual 78, 3) := by decide +kernel
theorem dL_isKept_75 : decode cL_isKept 75 = .ok (.ifCond .ne 19, 3) := by decide +kernel
theorem dL_isKept_78 : decode cL_isKept 78 = .ok (.aload_n 0, 1) := by decide +kernel
theorem dL_isKept_79 : decode cL_isKept 79 = .ok (.iload_n 3, 1) := by decide +kernel
theorem dL_isKept_80 : decode cL_isKept 80 = .ok (.iconst 0, 1) := by decide +kernel
theorem dL_isKept_81 : decode cL_isKept 81 = .ok (.iconst 0, 1) := by decide +kernel
theorem dL_isKept_82 : decode cL_isKept 82 = .ok (.invokevirtual 78, 3) := by decide +kernel
theorem dL_isKept_85 : decode cL_isKept 85 = .ok (.ldc 82, 2) := by decide +kernel
theorem dL_isKept_87 : decode cL_isKept 87 = .ok (.if_icmp .ne 7, 3) := by decide +kernel
theorem dL_isKept_90 : decode cL_isKept 90 = .ok (.iconst 1, 1) := by decide +kernel
theorem dL_isKept_91 : decode cL_isKept 91 = .ok (.goto 4, 3) := by decide +kernel
theorem dL_isKept_94 : decode cL_isKept 94 = .ok (.iconst 0, 1) := by decide +kernel
theorem dL_isKept_95 : decode cL_isKept 95 = .ok (.istore 4, 2) := by decide +kernel
theorem dL_isKept_97 : decode cL_isKept 97 = .ok (.iload_n 1, 1) := by decide +kernel
theorem dL_isKept_98 : decode cL_isKept 98 = .ok (.aload_n 0, 1) := by decide +kernel
theorem dL_isKept_99 : decode cL_isKept 99 = .ok (.bipush 15, 2) := by decide +kernel
theorem dL_isKept_101 : decode cL_isKept 101 = .ok (.invokevirtual 46, 3) := by decide +kernel
theorem dL_isKept_104 : decode cL_isKept 104 = .ok (.irem, 1) := by decide +kernel
theorem dL_isKept_105 : decode cL_isKept 105 = .ok (.istore 5, 2) := by decide +kernel
theorem dL_isKept_107 : decode cL_isKept 107 = .ok (.aload_n 0, 1) := by decide +kernel
theorem dL_isKept_108 : decode cL_isKept 108 = .ok (.iload 5, 2) := by decide +kernel
theorem dL_isKept_110 : decode cL_isKept 110 = .ok (.iconst 0, 1) := by decide +kernel
theorem dL_isKept_111 : decode cL_isKept 111 = .ok (.invokevirtual 55, 3) := by decide +kernel
theorem dL_isKept_114 : decode cL_isKept 114 = .ok (.istore 6, 2) := by decide +kernel
theorem dL_isKept_116 : decode cL_isKept 116 = .ok (.aload_n 0, 1) := by decide +kernel
theorem dL_isKept_117 : decode cL_isKept 117 = .ok (.iconst 3, 1) := by decide +kernel
theorem dL_isKept_118 : decode cL_isKept 118 = .ok (.invokevirtual 46, 3) := by decide +kernel
theorem dL_isKept_121 : decode cL_isKept 121 = .ok (.istore 7, 2) := by decide +kernel
theorem dL_isKept_123 : decode cL_isKept 123 = .ok (.iload 4, 2) := by decide +kernel
theorem dL_isKept_125 : decode cL_isKept 125 = .ok (.ifCond .eq 28, 3) := by decide +kernel
theorem dL_isKept_128 : decode cL_isKept 128 = .ok (.aload_n 0, 1) := by decide +kernel
theorem dL_isKept_129 : decode cL_isKept 129 = .ok (.iconst 3, 1) := by decide +kernel
theorem dL_isKept_130 : decode cL_isKept 130 = .ok (.iload 7, 2) := by decide +kernel
theorem dL_isKept_132 : decode cL_isKept 132 = .ok (.ifCond .ne 8, 3) := by decide +kernel
theorem dL_isKept_135 : decode cL_isKept 135 = .ok (.bipush 100, 2) := by decide +kernel
theorem dL_isKept_137 : decode cL_isKept 137 = .ok (.goto 4, 3) := by decide +kernel
theorem dL_isKept_140 : decode cL_isKept 140 = .ok (.iconst 0, 1) := by decide +kernel
theorem dL_isKept_141 : decode cL_isKept 141 = .ok (.invokevirtual 41, 3) := by decide +kernel
theorem dL_isKept_144 : decode cL_isKept 144 = .ok (.iload 7, 2) := by decide +kernel
theorem dL_isKept_146 : decode cL_isKept 146 = .ok (.if_icmp .ne 7, 3) := by decide +kernel
theorem dL_isKept_149 : decode cL_isKept 149 = .ok (.iconst 1, 1) := by decide +kernel
theorem dL_isKept_150 : decode cL_isKept 150 = .ok (.goto 4, 3) := by decide +kernel
theorem dL_isKept_153 : decode cL_isKept 153 = .ok (.iconst 0, 1) := by decide +kernel
theorem dL_isKept_154 : decode cL_isKept 154 = .ok (.istore 4, 2) := by decide +kernel
theorem dL_isKept_156 : decode cL_isKept 156 = .ok (.aload_n 0, 1) := by decide +kernel
theorem dL_isKept_157 : decode cL_isKept 157 = .ok (.iload 5, 2) := by decide +kernel
theorem dL_isKept_159 : decode cL_isKept 159 = .ok (.iconst 0, 1) := by decide +kernel
theorem dL_isKept_160 : decode cL_isKept 160 = .ok (.invokevirtual 55, 3) := by decide +kernel
theorem dL_isKept_163 : decode cL_isKept 163 = .ok (.iload 6, 2) := by decide +kernel
theorem dL_isKept_165 : decode cL_isKept 165 = .ok (.isub, 1) := by decide +kernel
theorem dL_isKept_166 : decode cL_isKept 166 = .ok (.istore 8, 2) := by decide +kernel
theorem dL_isKept_168 : decode cL_isKept 168 = .ok (.iload 8, 2) := by decide +kernel
theorem dL_isKept_170 : decode cL_isKept 170 = .ok (.ifCond .ge 9, 3) := by decide +kernel
theorem dL_isKept_173 : decode cL_isKept 173 = .ok (.iload 8, 2) := by decide +kernel
theorem dL_isKept_175 : decode cL_isKept 175 = .ok (.ineg, 1) := by decide +kernel
theorem dL_isKept_176 : decode cL_isKept 176 = .ok (.goto 5, 3) := by decide +kernel
theorem dL_isKept_179 : decode cL_isKept 179 = .ok (.iload 8, 2) := by decide +kernel
theorem dL_isKept_181 : decode cL_isKept 181 = .ok (.istore 8, 2) := by decide +kernel
theorem dL_isKept_183 : decode cL_isKept 183 = .ok (.aload_n 0, 1) := by decide +kernel
theorem dL_isKept_184 : decode cL_isKept 184 = .ok (.iload_n 3, 1) := by decide +kernel
theorem dL_isKept_185 : decode cL_isKept 185 = .ok (.iconst 1, 1) := by decide +kernel
theorem dL_isKept_186 : decode cL_isKept 186 = .ok (.isub, 1) := by decide +kernel
theorem dL_isKept_187 : decode cL_isKept 187 = .ok (.iconst 0, 1) := by decide +kernel
theorem dL_isKept_188 : decode cL_isKept 188 = .ok (.iconst 2, 1) := by decide +kernel
theorem dL_isKept_189 : decode cL_isKept 189 = .ok (.invokevirtual 78, 3) := by decide +kernel
theorem dL_isKept_192 : decode cL_isKept 192 = .ok (.istore 9, 2) := by decide +kernel
theorem dL_isKept_194 : decode cL_isKept 194 = .ok (.aload_n 0, 1) := by decide +kernel
theorem dL_isKept_195 : decode cL_isKept 195 = .ok (.iload_n 3, 1) := by decide +kernel
theorem dL_isKept_196 : decode cL_isKept 196 = .ok (.iconst 1, 1) := by decide +kernel
theorem dL_isKept_197 : decode cL_isKept 197 = .ok (.isub, 1) := by decide +kernel
theorem dL_isKept_198 : decode cL_isKept 198 = .ok (.iconst 0, 1) := by decide +kernel
theorem dL_isKept_199 : decode cL_isKept 199 = .ok (.iconst 3, 1) := by decide +kernel
theorem dL_isKept_200 : decode cL_isKept 200 = .ok (.invokevirtual 78, 3) := by decide +kernel
theorem dL_isKept_203 : decode cL_isKept 203 = .ok (.istore 10, 2) := by decide +kernel
theorem dL_isKept_205 : decode cL_isKept 205 = .ok (.iconst 0, 1) := by decide +kernel
theorem dL_isKept_206 : decode cL_isKept 206 = .ok (.istore 11, 2) := by decide +kernel
theorem dL_isKept_208 : decode cL_isKept 208 = .ok (.iload_n 1, 1) := by decide +kernel
theorem dL_isKept_209 : decode cL_isKept 209 = .ok (.iconst 5, 1) := by decide +kernel
theorem dL_isKept_210 : decode cL_isKept 210 = .ok (.ishr, 1) := by decide +kernel
theorem dL_isKept_211 : decode cL_isKept 211 = .ok (.bipush 30, 2) := by decide +kernel
theorem dL_isKept_213 : decode cL_isKept 213 = .ok (.irem, 1) := by decide +kernel
theorem dL_isKept_214 : decode cL_isKept 214 = .ok (.istore 12, 2) := by decide +kernel
theorem dL_isKept_216 : decode cL_isKept 216 = .ok (.iload 4, 2) := by decide +kernel
theorem dL_isKept_218 : decode cL_isKept 218 = .ok (.ifCond .eq 64, 3) := by decide +kernel
theorem dL_isKept_221 : decode cL_isKept 221 = .ok (.iload 9, 2) := by decide +kernel
theorem dL_isKept_223 : decode cL_isKept 223 = .ok (.iload 8, 2) := by decide +kernel
theorem dL_isKept_225 : decode cL_isKept 225 = .ok (.if_icmp .lt 57, 3) := by decide +kernel
theorem dL_isKept_228 : decode cL_isKept 228 = .ok (.aload_n 0, 1) := by decide +kernel
theorem dL_isKept_229 : decode cL_isKept 229 = .ok (.iload_n 3, 1) := by decide +kernel
theorem dL_isKept_230 : decode cL_isKept 230 = .ok (.iconst 1, 1) := by decide +kernel
theorem dL_isKept_231 : decode cL_isKept 231 = .ok (.isub, 1) := by decide +kernel
theorem dL_isKept_232 : decode cL_isKept 232 = .ok (.iload 9, 2) := by decide +kernel
theorem dL_isKept_234 : decode cL_isKept 234 = .ok (.iconst 0, 1) := by decide +kernel
theorem dL_isKept_235 : decode cL_isKept 235 = .ok (.invokevirtual 78, 3) := by decide +kernel
theorem dL_isKept_238 : decode cL_isKept 238 = .ok (.ldc 70, 2) := by decide +kernel
theorem dL_isKept_240 : decode cL_isKept 240 = .ok (.if_icmp .ne 42, 3) := by decide +kernel
theorem dL_isKept_243 : decode cL_isKept 243 = .ok (.aload_n 0, 1) := by decide +kernel
theorem dL_isKept_244 : decode cL_isKept 244 = .ok (.iload_n 3, 1) := by decide +kernel
theorem dL_isKept_245 : decode cL_isKept 245 = .ok (.iconst 1, 1) := by decide +kernel
theorem dL_isKept_246 : decode cL_isKept 246 = .ok (.isub, 1) := by decide +kernel
theorem dL_isKept_247 : decode cL_isKept 247 = .ok (.iload 9, 2) := by decide +kernel
theorem dL_isKept_249 : decode cL_isKept 249 = .ok (.iconst 1, 1) := by decide +kernel
theorem dL_isKept_250 : decode cL_isKept 250 = .ok (.invokevirtual 78, 3) := by decide +kernel
theorem dL_isKept_253 : decode cL_isKept 253 = .ok (.ifCond .ne 29, 3) := by decide +kernel
theorem dL_isKept_256 : decode cL_isKept 256 = .ok (.iload 9, 2) := by decide +kernel
theorem dL_isKept_258 : decode cL_isKept 258 = .ok (.ifCond .eq 20, 3) := by decide +kernel
theorem dL_isKept_261 : decode cL_isKept 261 = .ok (.aload_n 0, 1) := by decide +kernel
theorem dL_isKept_262 : decode cL_isKept 262 = .ok (.iload_n 3, 1) := by decide +kernel
theorem dL_isKept_263 : decode cL_isKept 263 = .ok (.iconst 1, 1) := by decide +kernel
theorem dL_isKept_264 : decode cL_isKept 264 = .ok (.isub, 1) := by decide +kernel
theorem dL_isKept_265 : decode cL_isKept 265 = .ok (.iload 9, 2) := by decide +kernel
theorem dL_isKept_267 : decode cL_isKept 267 = .ok (.iconst 1, 1) := by decide +kernel
theorem dL_isKept_268 : decode cL_isKept 268 = .ok (.isub, 1) := by decide +kernel
theorem dL_isKept_269 : decode cL_isKept 269 = .ok (.iconst 0, 1) := by decide +kernel
theorem dL_isKept_270 : decode cL_isKept 270 = .ok (.invokevirtual 78, 3) := by decide +kernel
theorem dL_isKept_273 : decode cL_isKept 273 = .ok (.iload 10, 2) := by decide +kernel
theorem dL_isKept_275 : decode cL_isKept 275 = .ok (.if_icmp .ne 7, 3) := by decide +kernel
theorem dL_isKept_278 : decode cL_isKept 278 = .ok (.iconst 1, 1) := by decide +kernel
theorem dL_isKept_279 : decode cL_isKept 279 = .ok (.goto 4, 3) := by decide +kernel
theorem dL_isKept_282 : decode cL_isKept 282 = .ok (.iconst 0, 1) := by decide +kernel
theorem dL_isKept_283 : decode cL_isKept 283 = .ok (.istore 4, 2) := by decide +kernel
theorem dL_isKept_285 : decode cL_isKept 285 = .ok (.aload_n 0, 1) := by decide +kernel
theorem dL_isKept_286 : decode cL_isKept 286 = .ok (.iload_n 3, 1) := by decide +kernel
theorem dL_isKept_287 : decode cL_isKept 287 = .ok (.iconst 1, 1) := by decide +kernel
theorem dL_isKept_288 : decode cL_isKept 288 = .ok (.isub, 1) := by decide +kernel
theorem dL_isKept_289 : decode cL_isKept 289 = .ok (.iload 12, 2) := by decide +kernel
theorem dL_isKept_291 : decode cL_isKept 291 = .ok (.iconst 0, 1) := by decide +kernel
theorem dL_isKept_292 : decode cL_isKept 292 = .ok (.invokevirtual 78, 3) := by decide +kernel
theorem dL_isKept_295 : decode cL_isKept 295 = .ok (.istore 13, 2) := by decide +kernel
theorem dL_isKept_297 : decode cL_isKept 297 = .ok (.aload_n 0, 1) := by decide +kernel
theorem dL_isKept_298 : decode cL_isKept 298 = .ok (.iload_n 3, 1) := by decide +kernel
theorem dL_isKept_299 : decode cL_isKept 299 = .ok (.iconst 1, 1) := by decide +kernel
theorem dL_isKept_300 : decode cL_isKept 300 = .ok (.isub, 1) := by decide +kernel
theorem dL_isKept_301 : decode cL_isKept 301 = .ok (.iload 12, 2) := by decide +kernel
theorem dL_isKept_303 : decode cL_isKept 303 = .ok (.iconst 1, 1) := by decide +kernel
theorem dL_isKept_304 : decode cL_isKept 304 = .ok (.invokevirtual 78, 3) := by decide +kernel
theorem dL_isKept_307 : decode cL_isKept 307 = .ok (.istore 11, 2) := by decide +kernel
theorem dL_isKept_309 : decode cL_isKept 309 = .ok (.iload 4, 2) := by decide +kernel
theorem dL_isKept_311 : decode cL_isKept 311 = .ok (.ifCond .eq 78, 3) := by decide +kernel
theorem dL_isKept_314 : decode cL_isKept 314 = .ok (.iload 13, 2) := by decide +kernel
theorem dL_isKept_316 : decode cL_isKept 316 = .ok (.ifCond .ge 7, 3) := by decide +kernel
theorem dL_isKept_319 : decode cL_isKept 319 = .ok (.iconst 1, 1) := by decide +kernel
theorem dL_isKept_320 : decode cL_isKept 320 = .ok (.goto 4, 3) := by decide +kernel
theorem dL_isKept_323 : decode cL_isKept 323 = .ok (.iconst 0, 1) := by decide +kernel
theorem dL_isKept_324 : decode cL_isKept 324 = .ok (.iload 9, 2) := by decide +kernel
theorem dL_isKept_326 : decode cL_isKept 326 = .ok (.iload 12, 2) := by decide +kernel
theorem dL_isKept_328 : decode cL_isKept 328 = .ok (.if_icmp .gt 7, 3) := by decide +kernel
theorem dL_isKept_331 : decode cL_isKept 331 = .ok (.iconst 1, 1) := by decide +kernel
theorem dL_isKept_332 : decode cL_isKept 332 = .ok (.goto 4, 3) := by decide +kernel
theorem dL_isKept_335 : decode cL_isKept 335 = .ok (.iconst 0, 1) := by decide +kernel
theorem dL_isKept_336 : decode cL_isKept 336 = .ok (.if_icmp .ne 53, 3) := by decide +kernel
theorem dL_isKept_339 : decode cL_isKept 339 = .ok (.iload 11, 2) := by decide +kernel
theorem dL_isKept_341 : decode cL_isKept 341 = .ok (.ifCond .ne 7, 3) := by decide +kernel
theorem dL_isKept_344 : decode cL_isKept 344 = .ok (.iconst 1, 1) := by decide +kernel
theorem dL_isKept_345 : decode cL_isKept 345 = .ok (.goto 4, 3) := by decide +kernel
theorem dL_isKept_348 : decode cL_isKept 348 = .ok (.iconst 0, 1) := by decide +kernel
theorem dL_isKept_349 : decode cL_isKept 349 = .ok (.iload 13, 2) := by decide +kernel
theorem dL_isKept_351 : decode cL_isKept 351 = .ok (.ifCond .ge 7, 3) := by decide +kernel
theorem dL_isKept_354 : decode cL_isKept 354 = .ok (.iconst 1, 1) := by decide +kernel
theorem dL_isKept_355 : decode cL_isKept 355 = .ok (.goto 4, 3) := by decide +kernel
theorem dL_isKept_358 : decode cL_isKept 358 = .ok (.iconst 0, 1) := by decide +kernel
theorem dL_isKept_359 : decode cL_isKept 359 = .ok (.if_icmp .ne 30, 3) := by decide +kernel
theorem dL_isKept_362 : decode cL_isKept 362 = .ok (.iload 11, 2) := by decide +kernel
theorem dL_isKept_364 : decode cL_isKept 364 = .ok (.aload_n 0, 1) := by decide +kernel
theorem dL_isKept_365 : decode cL_isKept 365 = .ok (.bipush 15, 2) := by decide +kernel
theorem dL_isKept_367 : decode cL_isKept 367 = .ok (.invokevirtual 46, 3) := by decide +kernel
theorem dL_isKept_370 : decode cL_isKept 370 = .ok (.if_icmp .gt 19, 3) := by decide +kernel
theorem dL_isKept_373 : decode cL_isKept 373 = .ok (.iload 13, 2) := by decide +kernel
theorem dL_isKept_375 : decode cL_isKept 375 = .ok (.ifCond .lt 10, 3) := by decide +kernel
theorem dL_isKept_378 : decode cL_isKept 378 = .ok (.iload 13, 2) := by decide +kernel
theorem dL_isKept_380 : decode cL_isKept 380 = .ok (.iload 10, 2) := by decide +kernel
theorem dL_isKept_382 : decode cL_isKept 382 = .ok (.if_icmp .gt 7, 3) := by decide +kernel
theorem dL_isKept_385 : decode cL_isKept 385 = .ok (.iconst 1, 1) := by decide +kernel
theorem dL_isKept_386 : decode cL_isKept 386 = .ok (.goto 4, 3) := by decide +kernel
theorem dL_isKept_389 : decode cL_isKept 389 = .ok (.iconst 0, 1) := by decide +kernel
theorem dL_isKept_390 : decode cL_isKept 390 = .ok (.istore 4, 2) := by decide +kernel
theorem dL_isKept_392 : decode cL_isKept 392 = .ok (.iload 4, 2) := by decide +kernel
theorem dL_isKept_394 : decode cL_isKept 394 = .ok (.ifCond .eq 48, 3) := by decide +kernel
theorem dL_isKept_397 : decode cL_isKept 397 = .ok (.aload_n 0, 1) := by decide +kernel
theorem dL_isKept_398 : decode cL_isKept 398 = .ok (.invokevirtual 83, 3) := by decide +kernel
theorem dL_isKept_401 : decode cL_isKept 401 = .ok (.ifCond .lt 41, 3) := by decide +kernel
theorem dL_isKept_404 : decode cL_isKept 404 = .ok (.aload_n 0, 1) := by decide +kernel
theorem dL_isKept_405 : decode cL_isKept 405 = .ok (.iconst 3, 1) := by decide +kernel
theorem dL_isKept_406 : decode cL_isKept 406 = .ok (.invokevirtual 46, 3) := by decide +kernel
theorem dL_isKept_409 : decode cL_isKept 409 = .ok (.iload 7, 2) := by decide +kernel
theorem dL_isKept_411 : decode cL_isKept 411 = .ok (.if_icmp .ne 31, 3) := by decide +kernel
theorem dL_isKept_414 : decode cL_isKept 414 = .ok (.aload_n 0, 1) := by decide +kernel
theorem dL_isKept_415 : decode cL_isKept 415 = .ok (.iload 5, 2) := by decide +kernel
theorem dL_isKept_417 : decode cL_isKept 417 = .ok (.iconst 0, 1) := by decide +kernel
theorem dL_isKept_418 : decode cL_isKept 418 = .ok (.invokevirtual 55, 3) := by decide +kernel
theorem dL_isKept_421 : decode cL_isKept 421 = .ok (.iload 6, 2) := by decide +kernel
theorem dL_isKept_423 : decode cL_isKept 423 = .ok (.if_icmp .ne 19, 3) := by decide +kernel
theorem dL_isKept_426 : decode cL_isKept 426 = .ok (.aload_n 0, 1) := by decide +kernel
theorem dL_isKept_427 : decode cL_isKept 427 = .ok (.iload_n 3, 1) := by decide +kernel
theorem dL_isKept_428 : decode cL_isKept 428 = .ok (.iconst 1, 1) := by decide +kernel
theorem dL_isKept_429 : decode cL_isKept 429 = .ok (.isub, 1) := by decide +kernel
theorem dL_isKept_430 : decode cL_isKept 430 = .ok (.iconst 0, 1) := by decide +kernel
theorem dL_isKept_431 : decode cL_isKept 431 = .ok (.iconst 1, 1) := by decide +kernel
theorem dL_isKept_432 : decode cL_isKept 432 = .ok (.invokevirtual 78, 3) := by decide +kernel
theorem dL_isKept_435 : decode cL_isKept 435 = .ok (.ifCond .ne 7, 3) := by decide +kernel
theorem dL_isKept_438 : decode cL_isKept 438 = .ok (.iconst 1, 1) := by decide +kernel
theorem dL_isKept_439 : decode cL_isKept 439 = .ok (.goto 4, 3) := by decide +kernel
theorem dL_isKept_442 : decode cL_isKept 442 = .ok (.iconst 0, 1) := by decide +kernel
theorem dL_isKept_443 : decode cL_isKept 443 = .ok (.ireturn, 1) := by decide +kernel
theorem dL_isAltered_0 : decode cL_isAltered 0 = .ok (.aload_n 0, 1) := by decide +kernel
theorem dL_isAltered_1 : decode cL_isAltered 1 = .ok (.bipush 11, 2) := by decide +kernel
theorem dL_isAltered_3 : decode cL_isAltered 3 = .ok (.invokevirtual 46, 3) := by decide +kernel
theorem dL_isAltered_6 : decode cL_isAltered 6 = .ok (.istore_n 3, 1) := by decide +kernel
theorem dL_isAltered_7 : decode cL_isAltered 7 = .ok (.aload_n 0, 1) := by decide +kernel
theorem dL_isAltered_8 : decode cL_isAltered 8 = .ok (.iload_n 3, 1) := by decide +kernel
theorem dL_isAltered_9 : decode cL_isAltered 9 = .ok (.invokevirtual 86, 3) := by decide +kernel
theorem dL_isAltered_12 : decode cL_isAltered 12 = .ok (.istore 4, 2) := by decide +kernel
theorem dL_isAltered_14 : decode cL_isAltered 14 = .ok (.iconst 1, 1) := by decide +kernel
theorem dL_isAltered_15 : decode cL_isAltered 15 = .ok (.iload_n 2, 1) := by decide +kernel
theorem dL_isAltered_16 : decode cL_isAltered 16 = .ok (.iload_n 3, 1) := by decide +kernel
theorem dL_isAltered_17 : decode cL_isAltered 17 = .ok (.iconst 1, 1) := by decide +kernel
theorem dL_isAltered_18 : decode cL_isAltered 18 = .ok (.isub, 1) := by decide +kernel
theorem dL_isAltered_19 : decode cL_isAltered 19 = .ok (.irem, 1) := by decide +kernel
theorem dL_isAltered_20 : decode cL_isAltered 20 = .ok (.iadd, 1) := by decide +kernel
theorem dL_isAltered_21 : decode cL_isAltered 21 = .ok (.istore 5, 2) := by decide +kernel
theorem dL_isAltered_23 : decode cL_isAltered 23 = .ok (.aload_n 0, 1) := by decide +kernel
theorem dL_isAltered_24 : decode cL_isAltered 24 = .ok (.iconst 0, 1) := by decide +kernel
theorem dL_isAltered_25 : decode cL_isAltered 25 = .ok (.iload 5, 2) := by decide +kernel
theorem dL_isAltered_27 : decode cL_isAltered 27 = .ok (.iload_n 2, 1) := by decide +kernel
theorem dL_isAltered_28 : decode cL_isAltered 28 = .ok (.bipush 7, 2) := by decide +kernel
theorem dL_isAltered_30 : decode cL_isAltered 30 = .ok (.ishr, 1) := by decide +kernel
theorem dL_isAltered_31 : decode cL_isAltered 31 = .ok (.sipush 900, 3) := by decide +kernel
theorem dL_isAltered_34 : decode cL_isAltered 34 = .ok (.irem, 1) := by decide +kernel
theorem dL_isAltered_35 : decode cL_isAltered 35 = .ok (.iconst 0, 1) := by decide +kernel
theorem dL_isAltered_36 : decode cL_isAltered 36 = .ok (.invokevirtual 37, 3) := by decide +kernel
theorem dL_isAltered_39 : decode cL_isAltered 39 = .ok (.istore 6, 2) := by decide +kernel
theorem dL_isAltered_41 : decode cL_isAltered 41 = .ok (.iconst 1, 1) := by decide +kernel
theorem dL_isAltered_42 : decode cL_isAltered 42 = .ok (.istore 7, 2) := by decide +kernel
theorem dL_isAltered_44 : decode cL_isAltered 44 = .ok (.iload 6, 2) := by decide +kernel
theorem dL_isAltered_46 : decode cL_isAltered 46 = .ok (.ifCond .lt 126, 3) := by decide +kernel
theorem dL_isAltered_49 : decode cL_isAltered 49 = .ok (.aload_n 0, 1) := by decide +kernel
theorem dL_isAltered_50 : decode cL_isAltered 50 = .ok (.iload 6, 2) := by decide +kernel
theorem dL_isAltered_52 : decode cL_isAltered 52 = .ok (.iconst 1, 1) := by decide +kernel
theorem dL_isAltered_53 : decode cL_isAltered 53 = .ok (.invokevirtual 49, 3) := by decide +kernel
theorem dL_isAltered_56 : decode cL_isAltered 56 = .ok (.iload 5, 2) := by decide +kernel
theorem dL_isAltered_58 : decode cL_isAltered 58 = .ok (.if_icmp .ne 65, 3) := by decide +kernel
theorem dL_isAltered_61 : decode cL_isAltered 61 = .ok (.aload_n 0, 1) := by decide +kernel
theorem dL_isAltered_62 : decode cL_isAltered 62 = .ok (.iload 6, 2) := by decide +kernel
theorem dL_isAltered_64 : decode cL_isAltered 64 = .ok (.iconst 0, 1) := by decide +kernel
theorem dL_isAltered_65 : decode cL_isAltered 65 = .ok (.invokevirtual 49, 3) := by decide +kernel
theorem dL_isAltered_68 : decode cL_isAltered 68 = .ok (.ifCond .ne 55, 3) := by decide +kernel
theorem dL_isAltered_71 : decode cL_isAltered 71 = .ok (.aload_n 0, 1) := by decide +kernel
theorem dL_isAltered_72 : decode cL_isAltered 72 = .ok (.iload_n 3, 1) := by decide +kernel
theorem dL_isAltered_73 : decode cL_isAltered 73 = .ok (.invokevirtual 86, 3) := by decide +kernel
theorem dL_isAltered_76 : decode cL_isAltered 76 = .ok (.iload 4, 2) := by decide +kernel
theorem dL_isAltered_78 : decode cL_isAltered 78 = .ok (.iload_n 2, 1) := by decide +kernel
theorem dL_isAltered_79 : decode cL_isAltered 79 = .ok (.bipush 7, 2) := by decide +kernel
theorem dL_isAltered_81 : decode cL_isAltered 81 = .ok (.ishr, 1) := by decide +kernel
theorem dL_isAltered_82 : decode cL_isAltered 82 = .ok (.sipush 900, 3) := by decide +kernel
theorem dL_isAltered_85 : decode cL_isAltered 85 = .ok (.irem, 1) := by decide +kernel
theorem dL_isAltered_86 : decode cL_isAltered 86 = .ok (.iadd, 1) := by decide +kernel
theorem dL_isAltered_87 : decode cL_isAltered 87 = .ok (.if_icmp .ne 36, 3) := by decide +kernel
theorem dL_isAltered_90 : decode cL_isAltered 90 = .ok (.aload_n 0, 1) := by decide +kernel
theorem dL_isAltered_91 : decode cL_isAltered 91 = .ok (.iload 5, 2) := by decide +kernel
theorem dL_isAltered_93 : decode cL_isAltered 93 = .ok (.invokevirtual 86, 3) := by decide +kernel
theorem dL_isAltered_96 : decode cL_isAltered 96 = .ok (.aload_n 1, 1) := by decide +kernel
theorem dL_isAltered_97 : decode cL_isAltered 97 = .ok (.iload 5, 2) := by decide +kernel
theorem dL_isAltered_99 : decode cL_isAltered 99 = .ok (.invokevirtual 86, 3) := by decide +kernel
theorem dL_isAltered_102 : decode cL_isAltered 102 = .ok (.if_icmp .ne 21, 3) := by decide +kernel
theorem dL_isAltered_105 : decode cL_isAltered 105 = .ok (.aload_n 0, 1) := by decide +kernel
theorem dL_isAltered_106 : decode cL_isAltered 106 = .ok (.iconst 2, 1) := by decide +kernel
theorem dL_isAltered_107 : decode cL_isAltered 107 = .ok (.iload 5, 2) := by decide +kernel
theorem dL_isAltered_109 : decode cL_isAltered 109 = .ok (.iconst 5, 1) := by decide +kernel
theorem dL_isAltered_110 : decode cL_isAltered 110 = .ok (.iconst 0, 1) := by decide +kernel
theorem dL_isAltered_111 : decode cL_isAltered 111 = .ok (.invokevirtual 37, 3) := by decide +kernel
theorem dL_isAltered_114 : decode cL_isAltered 114 = .ok (.ldc 66, 2) := by decide +kernel
theorem dL_isAltered_116 : decode cL_isAltered 116 = .ok (.if_icmp .ne 7, 3) := by decide +kernel
theorem dL_isAltered_119 : decode cL_isAltered 119 = .ok (.iconst 1, 1) := by decide +kernel
theorem dL_isAltered_120 : decode cL_isAltered 120 = .ok (.goto 4, 3) := by decide +kernel
theorem dL_isAltered_123 : decode cL_isAltered 123 = .ok (.iconst 0, 1) := by decide +kernel
theorem dL_isAltered_124 : decode cL_isAltered 124 = .ok (.istore 7, 2) := by decide +kernel
theorem dL_isAltered_126 : decode cL_isAltered 126 = .ok (.iload 7, 2) := by decide +kernel
theorem dL_isAltered_128 : decode cL_isAltered 128 = .ok (.ifCond .eq 38, 3) := by decide +kernel
theorem dL_isAltered_131 : decode cL_isAltered 131 = .ok (.iload_n 2, 1) := by decide +kernel
theorem dL_isAltered_132 : decode cL_isAltered 132 = .ok (.iconst 2, 1) := by decide +kernel
theorem dL_isAltered_133 : decode cL_isAltered 133 = .ok (.irem, 1) := by decide +kernel
theorem dL_isAltered_134 : decode cL_isAltered 134 = .ok (.ifCond .ne 13, 3) := by decide +kernel
theorem dL_isAltered_137 : decode cL_isAltered 137 = .ok (.aload_n 0, 1) := by decide +kernel
theorem dL_isAltered_138 : decode cL_isAltered 138 = .ok (.invokevirtual 83, 3) := by decide +kernel
theorem dL_isAltered_141 : decode cL_isAltered 141 = .ok (.ifCond .lt 25, 3) := by decide +kernel
theorem dL_isAltered_144 : decode cL_isAltered 144 = .ok (.goto 18, 3) := by decide +kernel
theorem dL_isAltered_147 : decode cL_isAltered 147 = .ok (.aload_n 0, 1) := by decide +kernel
theorem dL_isAltered_148 : decode cL_isAltered 148 = .ok (.iload 6, 2) := by decide +kernel
theorem dL_isAltered_150 : decode cL_isAltered 150 = .ok (.invokevirtual 89, 3) := by decide +kernel
theorem dL_isAltered_153 : decode cL_isAltered 153 = .ok (.aload_n 0, 1) := by decide +kernel
theorem dL_isAltered_154 : decode cL_isAltered 154 = .ok (.bipush 14, 2) := by decide +kernel
theorem dL_isAltered_156 : decode cL_isAltered 156 = .ok (.invokevirtual 46, 3) := by decide +kernel
theorem dL_isAltered_159 : decode cL_isAltered 159 = .ok (.if_icmp .ne 7, 3) := by decide +kernel
theorem dL_isAltered_162 : decode cL_isAltered 162 = .ok (.iconst 1, 1) := by decide +kernel
theorem dL_isAltered_163 : decode cL_isAltered 163 = .ok (.goto 4, 3) := by decide +kernel
theorem dL_isAltered_166 : decode cL_isAltered 166 = .ok (.iconst 0, 1) := by decide +kernel
theorem dL_isAltered_167 : decode cL_isAltered 167 = .ok (.istore 7, 2) := by decide +kernel
theorem dL_isAltered_169 : decode cL_isAltered 169 = .ok (.goto 24, 3) := by decide +kernel
theorem dL_isAltered_172 : decode cL_isAltered 172 = .ok (.iload 6, 2) := by decide +kernel
theorem dL_isAltered_174 : decode cL_isAltered 174 = .ok (.ldc 66, 2) := by decide +kernel
theorem dL_isAltered_176 : decode cL_isAltered 176 = .ok (.if_icmp .eq 10, 3) := by decide +kernel
theorem dL_isAltered_179 : decode cL_isAltered 179 = .ok (.iload 6, 2) := by decide +kernel
theorem dL_isAltered_181 : decode cL_isAltered 181 = .ok (.ldc 92, 2) := by decide +kernel
theorem dL_isAltered_183 : decode cL_isAltered 183 = .ok (.if_icmp .ne 7, 3) := by decide +kernel
theorem dL_isAltered_186 : decode cL_isAltered 186 = .ok (.iconst 1, 1) := by decide +kernel
theorem dL_isAltered_187 : decode cL_isAltered 187 = .ok (.goto 4, 3) := by decide +kernel
theorem dL_isAltered_190 : decode cL_isAltered 190 = .ok (.iconst 0, 1) := by decide +kernel
theorem dL_isAltered_191 : decode cL_isAltered 191 = .ok (.istore 7, 2) := by decide +kernel
theorem dL_isAltered_193 : decode cL_isAltered 193 = .ok (.iload 7, 2) := by decide +kernel
theorem dL_isAltered_195 : decode cL_isAltered 195 = .ok (.ifCond .eq 40, 3) := by decide +kernel
theorem dL_isAltered_198 : decode cL_isAltered 198 = .ok (.aload_n 0, 1) := by decide +kernel
theorem dL_isAltered_199 : decode cL_isAltered 199 = .ok (.iload_n 3, 1) := by decide +kernel
theorem dL_isAltered_200 : decode cL_isAltered 200 = .ok (.invokevirtual 86, 3) := by decide +kernel
theorem dL_isAltered_203 : decode cL_isAltered 203 = .ok (.iload 4, 2) := by decide +kernel
theorem dL_isAltered_205 : decode cL_isAltered 205 = .ok (.if_icmp .ne 30, 3) := by decide +kernel
theorem dL_isAltered_208 : decode cL_isAltered 208 = .ok (.aload_n 0, 1) := by decide +kernel
theorem dL_isAltered_209 : decode cL_isAltered 209 = .ok (.aload_n 1, 1) := by decide +kernel
theorem dL_isAltered_210 : decode cL_isAltered 210 = .ok (.invokestatic 71, 3) := by decide +kernel
theorem dL_isAltered_213 : decode cL_isAltered 213 = .ok (.ifCond .eq 22, 3) := by decide +kernel
theorem dL_isAltered_216 : decode cL_isAltered 216 = .ok (.aload_n 0, 1) := by decide +kernel
theorem dL_isAltered_217 : decode cL_isAltered 217 = .ok (.aload_n 0, 1) := by decide +kernel
theorem dL_isAltered_218 : decode cL_isAltered 218 = .ok (.bipush 14, 2) := by decide +kernel
theorem dL_isAltered_220 : decode cL_isAltered 220 = .ok (.invokevirtual 46, 3) := by decide +kernel
theorem dL_isAltered_223 : decode cL_isAltered 223 = .ok (.invokevirtual 89, 3) := by decide +kernel
theorem dL_isAltered_226 : decode cL_isAltered 226 = .ok (.ldc 82, 2) := by decide +kernel
theorem dL_isAltered_228 : decode cL_isAltered 228 = .ok (.if_icmp .ne 7, 3) := by decide +kernel
theorem dL_isAltered_231 : decode cL_isAltered 231 = .ok (.iconst 1, 1) := by decide +kernel
theorem dL_isAltered_232 : decode cL_isAltered 232 = .ok (.goto 4, 3) := by decide +kernel
theorem dL_isAltered_235 : decode cL_isAltered 235 = .ok (.iconst 0, 1) := by decide +kernel
theorem dL_isAltered_236 : decode cL_isAltered 236 = .ok (.ireturn, 1) := by decide +kernel
theorem dL_law_0 : decode cL_law 0 = .ok (.bipush 12, 2) := by decide +kernel
theorem dL_law_2 : decode cL_law 2 = .ok (.newarray .int, 2) := by decide +kernel
theorem dL_law_4 : decode cL_law 4 = .ok (.astore_n 1, 1) := by decide +kernel
theorem dL_law_5 : decode cL_law 5 = .ok (.new 10, 3) := by decide +kernel
theorem dL_law_8 : decode cL_law 8 = .ok (.dup, 1) := by decide +kernel
theorem dL_law_9 : decode cL_law 9 = .ok (.invokespecial 93, 3) := by decide +kernel
theorem dL_law_12 : decode cL_law 12 = .ok (.astore_n 2, 1) := by decide +kernel
theorem dL_law_13 : decode cL_law 13 = .ok (.new 10, 3) := by decide +kernel
theorem dL_law_16 : decode cL_law 16 = .ok (.dup, 1) := by decide +kernel
theorem dL_law_17 : decode cL_law 17 = .ok (.invokespecial 93, 3) := by decide +kernel
theorem dL_law_20 : decode cL_law 20 = .ok (.astore_n 3, 1) := by decide +kernel
theorem dL_law_21 : decode cL_law 21 = .ok (.aload_n 2, 1) := by decide +kernel
theorem dL_law_22 : decode cL_law 22 = .ok (.iconst 0, 1) := by decide +kernel
theorem dL_law_23 : decode cL_law 23 = .ok (.invokevirtual 67, 3) := by decide +kernel
theorem dL_law_26 : decode cL_law 26 = .ok (.ldc 70, 2) := by decide +kernel
theorem dL_law_28 : decode cL_law 28 = .ok (.if_icmp .ne 52, 3) := by decide +kernel
theorem dL_law_31 : decode cL_law 31 = .ok (.aload_n 2, 1) := by decide +kernel
theorem dL_law_32 : decode cL_law 32 = .ok (.invokevirtual 33, 3) := by decide +kernel
theorem dL_law_35 : decode cL_law 35 = .ok (.ifCond .ne 45, 3) := by decide +kernel
theorem dL_law_38 : decode cL_law 38 = .ok (.aload_n 2, 1) := by decide +kernel
theorem dL_law_39 : decode cL_law 39 = .ok (.invokevirtual 83, 3) := by decide +kernel
theorem dL_law_42 : decode cL_law 42 = .ok (.ifCond .ne 38, 3) := by decide +kernel
theorem dL_law_45 : decode cL_law 45 = .ok (.aload_n 2, 1) := by decide +kernel
theorem dL_law_46 : decode cL_law 46 = .ok (.invokevirtual 83, 3) := by decide +kernel
theorem dL_law_49 : decode cL_law 49 = .ok (.ldc 66, 2) := by decide +kernel
theorem dL_law_51 : decode cL_law 51 = .ok (.if_icmp .ne 29, 3) := by decide +kernel
theorem dL_law_54 : decode cL_law 54 = .ok (.aload_n 2, 1) := by decide +kernel
theorem dL_law_55 : decode cL_law 55 = .ok (.iconst 3, 1) := by decide +kernel
theorem dL_law_56 : decode cL_law 56 = .ok (.invokevirtual 67, 3) := by decide +kernel
theorem dL_law_59 : decode cL_law 59 = .ok (.ldc 82, 2) := by decide +kernel
theorem dL_law_61 : decode cL_law 61 = .ok (.if_icmp .ne 19, 3) := by decide +kernel
theorem dL_law_64 : decode cL_law 64 = .ok (.aload_n 2, 1) := by decide +kernel
theorem dL_law_65 : decode cL_law 65 = .ok (.iconst 0, 1) := by decide +kernel
theorem dL_law_66 : decode cL_law 66 = .ok (.iconst 0, 1) := by decide +kernel
theorem dL_law_67 : decode cL_law 67 = .ok (.iconst 0, 1) := by decide +kernel
theorem dL_law_68 : decode cL_law 68 = .ok (.invokevirtual 78, 3) := by decide +kernel
theorem dL_law_71 : decode cL_law 71 = .ok (.ldc 82, 2) := by decide +kernel
theorem dL_law_73 : decode cL_law 73 = .ok (.if_icmp .ne 7, 3) := by decide +kernel
theorem dL_law_76 : decode cL_law 76 = .ok (.iconst 1, 1) := by decide +kernel
theorem dL_law_77 : decode cL_law 77 = .ok (.goto 4, 3) := by decide +kernel
theorem dL_law_80 : decode cL_law 80 = .ok (.iconst 0, 1) := by decide +kernel
theorem dL_law_81 : decode cL_law 81 = .ok (.istore 4, 2) := by decide +kernel
theorem dL_law_83 : decode cL_law 83 = .ok (.iconst 0, 1) := by decide +kernel
theorem dL_law_84 : decode cL_law 84 = .ok (.istore 5, 2) := by decide +kernel
theorem dL_law_86 : decode cL_law 86 = .ok (.iload 5, 2) := by decide +kernel
theorem dL_law_88 : decode cL_law 88 = .ok (.bipush 6, 2) := by decide +kernel
theorem dL_law_90 : decode cL_law 90 = .ok (.if_icmp .ge 90, 3) := by decide +kernel
theorem dL_law_93 : decode cL_law 93 = .ok (.iload 4, 2) := by decide +kernel
theorem dL_law_95 : decode cL_law 95 = .ok (.ifCond .eq 85, 3) := by decide +kernel
theorem dL_law_98 : decode cL_law 98 = .ok (.aload_n 0, 1) := by decide +kernel
theorem dL_law_99 : decode cL_law 99 = .ok (.iconst 2, 1) := by decide +kernel
theorem dL_law_100 : decode cL_law 100 = .ok (.iload 5, 2) := by decide +kernel
theorem dL_law_102 : decode cL_law 102 = .ok (.imul, 1) := by decide +kernel
theorem dL_law_103 : decode cL_law 103 = .ok (.invokestatic 94, 3) := by decide +kernel
theorem dL_law_106 : decode cL_law 106 = .ok (.istore 6, 2) := by decide +kernel
theorem dL_law_108 : decode cL_law 108 = .ok (.aload_n 2, 1) := by decide +kernel
theorem dL_law_109 : decode cL_law 109 = .ok (.aload_n 3, 1) := by decide +kernel
theorem dL_law_110 : decode cL_law 110 = .ok (.aload_n 1, 1) := by decide +kernel
theorem dL_law_111 : decode cL_law 111 = .ok (.iload 6, 2) := by decide +kernel
theorem dL_law_113 : decode cL_law 113 = .ok (.invokestatic 98, 3) := by decide +kernel
theorem dL_law_116 : decode cL_law 116 = .ok (.istore 4, 2) := by decide +kernel
theorem dL_law_118 : decode cL_law 118 = .ok (.iload 4, 2) := by decide +kernel
theorem dL_law_120 : decode cL_law 120 = .ok (.ifCond .eq 54, 3) := by decide +kernel
theorem dL_law_123 : decode cL_law 123 = .ok (.aload_n 2, 1) := by decide +kernel
theorem dL_law_124 : decode cL_law 124 = .ok (.iconst 1, 1) := by decide +kernel
theorem dL_law_125 : decode cL_law 125 = .ok (.invokevirtual 67, 3) := by decide +kernel
theorem dL_law_128 : decode cL_law 128 = .ok (.iconst 4, 1) := by decide +kernel
theorem dL_law_129 : decode cL_law 129 = .ok (.if_icmp .eq 45, 3) := by decide +kernel
theorem dL_law_132 : decode cL_law 132 = .ok (.aload_n 2, 1) := by decide +kernel
theorem dL_law_133 : decode cL_law 133 = .ok (.aload_n 3, 1) := by decide +kernel
theorem dL_law_134 : decode cL_law 134 = .ok (.aload_n 0, 1) := by decide +kernel
theorem dL_law_135 : decode cL_law 135 = .ok (.iconst 2, 1) := by decide +kernel
theorem dL_law_136 : decode cL_law 136 = .ok (.iload 5, 2) := by decide +kernel
theorem dL_law_138 : decode cL_law 138 = .ok (.imul, 1) := by decide +kernel
theorem dL_law_139 : decode cL_law 139 = .ok (.iconst 1, 1) := by decide +kernel
theorem dL_law_140 : decode cL_law 140 = .ok (.iadd, 1) := by decide +kernel
theorem dL_law_141 : decode cL_law 141 = .ok (.invokestatic 94, 3) := by decide +kernel
theorem dL_law_144 : decode cL_law 144 = .ok (.invokestatic 102, 3) := by decide +kernel
theorem dL_law_147 : decode cL_law 147 = .ok (.ifCond .eq 24, 3) := by decide +kernel
theorem dL_law_150 : decode cL_law 150 = .ok (.iload 5, 2) := by decide +kernel
theorem dL_law_152 : decode cL_law 152 = .ok (.iconst 2, 1) := by decide +kernel
theorem dL_law_153 : decode cL_law 153 = .ok (.irem, 1) := by decide +kernel
theorem dL_law_154 : decode cL_law 154 = .ok (.iconst 1, 1) := by decide +kernel
theorem dL_law_155 : decode cL_law 155 = .ok (.if_icmp .eq 12, 3) := by decide +kernel
theorem dL_law_158 : decode cL_law 158 = .ok (.aload_n 2, 1) := by decide +kernel
theorem dL_law_159 : decode cL_law 159 = .ok (.iload 6, 2) := by decide +kernel
theorem dL_law_161 : decode cL_law 161 = .ok (.invokestatic 106, 3) := by decide +kernel
theorem dL_law_164 : decode cL_law 164 = .ok (.ifCond .eq 7, 3) := by decide +kernel
theorem dL_law_167 : decode cL_law 167 = .ok (.iconst 1, 1) := by decide +kernel
theorem dL_law_168 : decode cL_law 168 = .ok (.goto 4, 3) := by decide +kernel
theorem dL_law_171 : decode cL_law 171 = .ok (.iconst 0, 1) := by decide +kernel
theorem dL_law_172 : decode cL_law 172 = .ok (.istore 4, 2) := by decide +kernel
theorem dL_law_174 : decode cL_law 174 = .ok (.iinc 5 1, 3) := by decide +kernel
theorem dL_law_177 : decode cL_law 177 = .ok (.goto (-91), 3) := by decide +kernel
theorem dL_law_180 : decode cL_law 180 = .ok (.iload 4, 2) := by decide +kernel
theorem dL_law_182 : decode cL_law 182 = .ok (.ifCond .eq 41, 3) := by decide +kernel
theorem dL_law_185 : decode cL_law 185 = .ok (.aload_n 2, 1) := by decide +kernel
theorem dL_law_186 : decode cL_law 186 = .ok (.bipush 31, 2) := by decide +kernel
theorem dL_law_188 : decode cL_law 188 = .ok (.invokevirtual 9, 3) := by decide +kernel
theorem dL_law_191 : decode cL_law 191 = .ok (.ldc 82, 2) := by decide +kernel
theorem dL_law_193 : decode cL_law 193 = .ok (.if_icmp .ne 30, 3) := by decide +kernel
theorem dL_law_196 : decode cL_law 196 = .ok (.aload_n 2, 1) := by decide +kernel
theorem dL_law_197 : decode cL_law 197 = .ok (.bipush 19, 2) := by decide +kernel
theorem dL_law_199 : decode cL_law 199 = .ok (.invokevirtual 46, 3) := by decide +kernel
theorem dL_law_202 : decode cL_law 202 = .ok (.ldc 82, 2) := by decide +kernel
theorem dL_law_204 : decode cL_law 204 = .ok (.if_icmp .ne 19, 3) := by decide +kernel
theorem dL_law_207 : decode cL_law 207 = .ok (.aload_n 2, 1) := by decide +kernel
theorem dL_law_208 : decode cL_law 208 = .ok (.bipush 10, 2) := by decide +kernel
theorem dL_law_210 : decode cL_law 210 = .ok (.iconst 0, 1) := by decide +kernel
theorem dL_law_211 : decode cL_law 211 = .ok (.invokevirtual 49, 3) := by decide +kernel
theorem dL_law_214 : decode cL_law 214 = .ok (.ldc 82, 2) := by decide +kernel
theorem dL_law_216 : decode cL_law 216 = .ok (.if_icmp .ne 7, 3) := by decide +kernel
theorem dL_law_219 : decode cL_law 219 = .ok (.iconst 1, 1) := by decide +kernel
theorem dL_law_220 : decode cL_law 220 = .ok (.goto 4, 3) := by decide +kernel
theorem dL_law_223 : decode cL_law 223 = .ok (.iconst 0, 1) := by decide +kernel
theorem dL_law_224 : decode cL_law 224 = .ok (.ireturn, 1) := by decide +kernel
