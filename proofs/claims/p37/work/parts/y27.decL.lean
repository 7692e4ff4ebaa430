theorem dL_cell_0 : decode cL_cell 0 = .ok (.iload_n 1, 1) := by decide +kernel
theorem dL_cell_1 : decode cL_cell 1 = .ok (.aload_n 0, 1) := by decide +kernel
theorem dL_cell_2 : decode cL_cell 2 = .ok (.arraylength, 1) := by decide +kernel
theorem dL_cell_3 : decode cL_cell 3 = .ok (.if_icmp .ge 9, 3) := by decide +kernel
theorem dL_cell_6 : decode cL_cell 6 = .ok (.aload_n 0, 1) := by decide +kernel
theorem dL_cell_7 : decode cL_cell 7 = .ok (.iload_n 1, 1) := by decide +kernel
theorem dL_cell_8 : decode cL_cell 8 = .ok (.iaload, 1) := by decide +kernel
theorem dL_cell_9 : decode cL_cell 9 = .ok (.goto 10, 3) := by decide +kernel
theorem dL_cell_12 : decode cL_cell 12 = .ok (.ldc 7, 2) := by decide +kernel
theorem dL_cell_14 : decode cL_cell 14 = .ok (.iload_n 1, 1) := by decide +kernel
theorem dL_cell_15 : decode cL_cell 15 = .ok (.imul, 1) := by decide +kernel
theorem dL_cell_16 : decode cL_cell 16 = .ok (.ldc 8, 2) := by decide +kernel
theorem dL_cell_18 : decode cL_cell 18 = .ok (.iadd, 1) := by decide +kernel
theorem dL_cell_19 : decode cL_cell 19 = .ok (.ireturn, 1) := by decide +kernel
theorem dL_low_0 : decode cL_low 0 = .ok (.iload_n 0, 1) := by decide +kernel
theorem dL_low_1 : decode cL_low 1 = .ok (.ldc 9, 2) := by decide +kernel
theorem dL_low_3 : decode cL_low 3 = .ok (.iand, 1) := by decide +kernel
theorem dL_low_4 : decode cL_low 4 = .ok (.iload_n 1, 1) := by decide +kernel
theorem dL_low_5 : decode cL_low 5 = .ok (.irem, 1) := by decide +kernel
theorem dL_low_6 : decode cL_low 6 = .ok (.ireturn, 1) := by decide +kernel
theorem dL_tryPatch_0 : decode cL_tryPatch 0 = .ok (.aload_n 0, 1) := by decide +kernel
theorem dL_tryPatch_1 : decode cL_tryPatch 1 = .ok (.iload_n 1, 1) := by decide +kernel
theorem dL_tryPatch_2 : decode cL_tryPatch 2 = .ok (.iload_n 2, 1) := by decide +kernel
theorem dL_tryPatch_3 : decode cL_tryPatch 3 = .ok (.invokevirtual 10, 3) := by decide +kernel
theorem dL_tryPatch_6 : decode cL_tryPatch 6 = .ok (.ireturn, 1) := by decide +kernel
theorem dL_tryPatch_7 : decode cL_tryPatch 7 = .ok (.astore_n 3, 1) := by decide +kernel
theorem dL_tryPatch_8 : decode cL_tryPatch 8 = .ok (.iconst (-1), 1) := by decide +kernel
theorem dL_tryPatch_9 : decode cL_tryPatch 9 = .ok (.ireturn, 1) := by decide +kernel
theorem dL_tryTurn_0 : decode cL_tryTurn 0 = .ok (.aload_n 0, 1) := by decide +kernel
theorem dL_tryTurn_1 : decode cL_tryTurn 1 = .ok (.iload_n 1, 1) := by decide +kernel
theorem dL_tryTurn_2 : decode cL_tryTurn 2 = .ok (.iload_n 2, 1) := by decide +kernel
theorem dL_tryTurn_3 : decode cL_tryTurn 3 = .ok (.invokevirtual 18, 3) := by decide +kernel
theorem dL_tryTurn_6 : decode cL_tryTurn 6 = .ok (.ireturn, 1) := by decide +kernel
theorem dL_tryTurn_7 : decode cL_tryTurn 7 = .ok (.astore_n 3, 1) := by decide +kernel
theorem dL_tryTurn_8 : decode cL_tryTurn 8 = .ok (.iconst (-1), 1) := by decide +kernel
theorem dL_tryTurn_9 : decode cL_tryTurn 9 = .ok (.ireturn, 1) := by decide +kernel
theorem dL_tryVary_0 : decode cL_tryVary 0 = .ok (.aload_n 0, 1) := by decide +kernel
theorem dL_tryVary_1 : decode cL_tryVary 1 = .ok (.iload_n 1, 1) := by decide +kernel
theorem dL_tryVary_2 : decode cL_tryVary 2 = .ok (.iload_n 2, 1) := by decide +kernel
theorem dL_tryVary_3 : decode cL_tryVary 3 = .ok (.invokevirtual 21, 3) := by decide +kernel
theorem dL_tryVary_6 : decode cL_tryVary 6 = .ok (.ireturn, 1) := by decide +kernel
theorem dL_tryVary_7 : decode cL_tryVary 7 = .ok (.astore_n 3, 1) := by decide +kernel
theorem dL_tryVary_8 : decode cL_tryVary 8 = .ok (.iconst (-1), 1) := by decide +kernel
theorem dL_tryVary_9 : decode cL_tryVary 9 = .ok (.ireturn, 1) := by decide +kernel
theorem dL_tryJoin_0 : decode cL_tryJoin 0 = .ok (.aload_n 0, 1) := by decide +kernel
theorem dL_tryJoin_1 : decode cL_tryJoin 1 = .ok (.iload_n 1, 1) := by decide +kernel
theorem dL_tryJoin_2 : decode cL_tryJoin 2 = .ok (.iload_n 2, 1) := by decide +kernel
theorem dL_tryJoin_3 : decode cL_tryJoin 3 = .ok (.iload_n 3, 1) := by decide +kernel
theorem dL_tryJoin_4 : decode cL_tryJoin 4 = .ok (.invokevirtual 24, 3) := by decide +kernel
theorem dL_tryJoin_7 : decode cL_tryJoin 7 = .ok (.ireturn, 1) := by decide +kernel
theorem dL_tryJoin_8 : decode cL_tryJoin 8 = .ok (.astore 4, 2) := by decide +kernel
theorem dL_tryJoin_10 : decode cL_tryJoin 10 = .ok (.bipush (-2), 2) := by decide +kernel
theorem dL_tryJoin_12 : decode cL_tryJoin 12 = .ok (.ireturn, 1) := by decide +kernel
theorem dL_retyped_0 : decode cL_retyped 0 = .ok (.aload_n 0, 1) := by decide +kernel
theorem dL_retyped_1 : decode cL_retyped 1 = .ok (.iconst 2, 1) := by decide +kernel
theorem dL_retyped_2 : decode cL_retyped 2 = .ok (.invokevirtual 28, 3) := by decide +kernel
theorem dL_retyped_5 : decode cL_retyped 5 = .ok (.istore_n 1, 1) := by decide +kernel
theorem dL_retyped_6 : decode cL_retyped 6 = .ok (.iload_n 1, 1) := by decide +kernel
theorem dL_retyped_7 : decode cL_retyped 7 = .ok (.sipush 400, 3) := by decide +kernel
theorem dL_retyped_10 : decode cL_retyped 10 = .ok (.if_icmp .le 5, 3) := by decide +kernel
theorem dL_retyped_13 : decode cL_retyped 13 = .ok (.iconst 0, 1) := by decide +kernel
theorem dL_retyped_14 : decode cL_retyped 14 = .ok (.ireturn, 1) := by decide +kernel
theorem dL_retyped_15 : decode cL_retyped 15 = .ok (.aload_n 0, 1) := by decide +kernel
theorem dL_retyped_16 : decode cL_retyped 16 = .ok (.invokevirtual 32, 3) := by decide +kernel
theorem dL_retyped_19 : decode cL_retyped 19 = .ok (.istore_n 2, 1) := by decide +kernel
theorem dL_retyped_20 : decode cL_retyped 20 = .ok (.iconst 0, 1) := by decide +kernel
theorem dL_retyped_21 : decode cL_retyped 21 = .ok (.istore_n 3, 1) := by decide +kernel
theorem dL_retyped_22 : decode cL_retyped 22 = .ok (.iload_n 3, 1) := by decide +kernel
theorem dL_retyped_23 : decode cL_retyped 23 = .ok (.iload_n 1, 1) := by decide +kernel
theorem dL_retyped_24 : decode cL_retyped 24 = .ok (.if_icmp .ge 42, 3) := by decide +kernel
theorem dL_retyped_27 : decode cL_retyped 27 = .ok (.iload_n 1, 1) := by decide +kernel
theorem dL_retyped_28 : decode cL_retyped 28 = .ok (.iload_n 3, 1) := by decide +kernel
theorem dL_retyped_29 : decode cL_retyped 29 = .ok (.isub, 1) := by decide +kernel
theorem dL_retyped_30 : decode cL_retyped 30 = .ok (.bipush 7, 2) := by decide +kernel
theorem dL_retyped_32 : decode cL_retyped 32 = .ok (.if_icmp .ge 9, 3) := by decide +kernel
theorem dL_retyped_35 : decode cL_retyped 35 = .ok (.iload_n 1, 1) := by decide +kernel
theorem dL_retyped_36 : decode cL_retyped 36 = .ok (.iload_n 3, 1) := by decide +kernel
theorem dL_retyped_37 : decode cL_retyped 37 = .ok (.isub, 1) := by decide +kernel
theorem dL_retyped_38 : decode cL_retyped 38 = .ok (.goto 5, 3) := by decide +kernel
theorem dL_retyped_41 : decode cL_retyped 41 = .ok (.bipush 7, 2) := by decide +kernel
theorem dL_retyped_43 : decode cL_retyped 43 = .ok (.istore 4, 2) := by decide +kernel
theorem dL_retyped_45 : decode cL_retyped 45 = .ok (.aload_n 0, 1) := by decide +kernel
theorem dL_retyped_46 : decode cL_retyped 46 = .ok (.iload 4, 2) := by decide +kernel
theorem dL_retyped_48 : decode cL_retyped 48 = .ok (.aload_n 0, 1) := by decide +kernel
theorem dL_retyped_49 : decode cL_retyped 49 = .ok (.iload_n 3, 1) := by decide +kernel
theorem dL_retyped_50 : decode cL_retyped 50 = .ok (.iload 4, 2) := by decide +kernel
theorem dL_retyped_52 : decode cL_retyped 52 = .ok (.invokevirtual 36, 3) := by decide +kernel
theorem dL_retyped_55 : decode cL_retyped 55 = .ok (.invokevirtual 40, 3) := by decide +kernel
theorem dL_retyped_58 : decode cL_retyped 58 = .ok (.istore 5, 2) := by decide +kernel
theorem dL_retyped_60 : decode cL_retyped 60 = .ok (.iinc 3 7, 3) := by decide +kernel
theorem dL_retyped_63 : decode cL_retyped 63 = .ok (.goto (-41), 3) := by decide +kernel
theorem dL_retyped_66 : decode cL_retyped 66 = .ok (.aload_n 0, 1) := by decide +kernel
theorem dL_retyped_67 : decode cL_retyped 67 = .ok (.iconst 1, 1) := by decide +kernel
theorem dL_retyped_68 : decode cL_retyped 68 = .ok (.invokevirtual 28, 3) := by decide +kernel
theorem dL_retyped_71 : decode cL_retyped 71 = .ok (.iload_n 1, 1) := by decide +kernel
theorem dL_retyped_72 : decode cL_retyped 72 = .ok (.if_icmp .ne 7, 3) := by decide +kernel
theorem dL_retyped_75 : decode cL_retyped 75 = .ok (.iconst 1, 1) := by decide +kernel
theorem dL_retyped_76 : decode cL_retyped 76 = .ok (.goto 4, 3) := by decide +kernel
theorem dL_retyped_79 : decode cL_retyped 79 = .ok (.iconst 0, 1) := by decide +kernel
theorem dL_retyped_80 : decode cL_retyped 80 = .ok (.ireturn, 1) := by decide +kernel
theorem dL_rereads_0 : decode cL_rereads 0 = .ok (.iconst 1, 1) := by decide +kernel
theorem dL_rereads_1 : decode cL_rereads 1 = .ok (.istore_n 2, 1) := by decide +kernel
theorem dL_rereads_2 : decode cL_rereads 2 = .ok (.iconst 0, 1) := by decide +kernel
theorem dL_rereads_3 : decode cL_rereads 3 = .ok (.istore_n 3, 1) := by decide +kernel
theorem dL_rereads_4 : decode cL_rereads 4 = .ok (.iload_n 3, 1) := by decide +kernel
theorem dL_rereads_5 : decode cL_rereads 5 = .ok (.iconst 3, 1) := by decide +kernel
theorem dL_rereads_6 : decode cL_rereads 6 = .ok (.if_icmp .ge 163, 3) := by decide +kernel
theorem dL_rereads_9 : decode cL_rereads 9 = .ok (.iload_n 2, 1) := by decide +kernel
theorem dL_rereads_10 : decode cL_rereads 10 = .ok (.ifCond .eq 159, 3) := by decide +kernel
theorem dL_rereads_13 : decode cL_rereads 13 = .ok (.aload_n 0, 1) := by decide +kernel
theorem dL_rereads_14 : decode cL_rereads 14 = .ok (.iload_n 1, 1) := by decide +kernel
theorem dL_rereads_15 : decode cL_rereads 15 = .ok (.iload_n 3, 1) := by decide +kernel
theorem dL_rereads_16 : decode cL_rereads 16 = .ok (.invokevirtual 44, 3) := by decide +kernel
theorem dL_rereads_19 : decode cL_rereads 19 = .ok (.istore 4, 2) := by decide +kernel
theorem dL_rereads_21 : decode cL_rereads 21 = .ok (.iload 4, 2) := by decide +kernel
theorem dL_rereads_23 : decode cL_rereads 23 = .ok (.aload_n 0, 1) := by decide +kernel
theorem dL_rereads_24 : decode cL_rereads 24 = .ok (.iconst 2, 1) := by decide +kernel
theorem dL_rereads_25 : decode cL_rereads 25 = .ok (.invokevirtual 28, 3) := by decide +kernel
theorem dL_rereads_28 : decode cL_rereads 28 = .ok (.if_icmp .ne 7, 3) := by decide +kernel
theorem dL_rereads_31 : decode cL_rereads 31 = .ok (.iconst 1, 1) := by decide +kernel
theorem dL_rereads_32 : decode cL_rereads 32 = .ok (.goto 4, 3) := by decide +kernel
theorem dL_rereads_35 : decode cL_rereads 35 = .ok (.iconst 0, 1) := by decide +kernel
theorem dL_rereads_36 : decode cL_rereads 36 = .ok (.istore_n 2, 1) := by decide +kernel
theorem dL_rereads_37 : decode cL_rereads 37 = .ok (.aload_n 0, 1) := by decide +kernel
theorem dL_rereads_38 : decode cL_rereads 38 = .ok (.invokestatic 47, 3) := by decide +kernel
theorem dL_rereads_41 : decode cL_rereads 41 = .ok (.ifCond .eq 122, 3) := by decide +kernel
theorem dL_rereads_44 : decode cL_rereads 44 = .ok (.aload_n 0, 1) := by decide +kernel
theorem dL_rereads_45 : decode cL_rereads 45 = .ok (.invokevirtual 53, 3) := by decide +kernel
theorem dL_rereads_48 : decode cL_rereads 48 = .ok (.istore 5, 2) := by decide +kernel
theorem dL_rereads_50 : decode cL_rereads 50 = .ok (.iload_n 2, 1) := by decide +kernel
theorem dL_rereads_51 : decode cL_rereads 51 = .ok (.ifCond .eq 55, 3) := by decide +kernel
theorem dL_rereads_54 : decode cL_rereads 54 = .ok (.iload 5, 2) := by decide +kernel
theorem dL_rereads_56 : decode cL_rereads 56 = .ok (.aload_n 0, 1) := by decide +kernel
theorem dL_rereads_57 : decode cL_rereads 57 = .ok (.iconst 0, 1) := by decide +kernel
theorem dL_rereads_58 : decode cL_rereads 58 = .ok (.invokevirtual 28, 3) := by decide +kernel
theorem dL_rereads_61 : decode cL_rereads 61 = .ok (.iconst 1, 1) := by decide +kernel
theorem dL_rereads_62 : decode cL_rereads 62 = .ok (.isub, 1) := by decide +kernel
theorem dL_rereads_63 : decode cL_rereads 63 = .ok (.if_icmp .ne 43, 3) := by decide +kernel
theorem dL_rereads_66 : decode cL_rereads 66 = .ok (.aload_n 0, 1) := by decide +kernel
theorem dL_rereads_67 : decode cL_rereads 67 = .ok (.iload_n 1, 1) := by decide +kernel
theorem dL_rereads_68 : decode cL_rereads 68 = .ok (.iload 5, 2) := by decide +kernel
theorem dL_rereads_70 : decode cL_rereads 70 = .ok (.invokevirtual 56, 3) := by decide +kernel
theorem dL_rereads_73 : decode cL_rereads 73 = .ok (.ifCond .eq 33, 3) := by decide +kernel
theorem dL_rereads_76 : decode cL_rereads 76 = .ok (.aload_n 0, 1) := by decide +kernel
theorem dL_rereads_77 : decode cL_rereads 77 = .ok (.iload 5, 2) := by decide +kernel
theorem dL_rereads_79 : decode cL_rereads 79 = .ok (.iload_n 1, 1) := by decide +kernel
theorem dL_rereads_80 : decode cL_rereads 80 = .ok (.invokevirtual 56, 3) := by decide +kernel
theorem dL_rereads_83 : decode cL_rereads 83 = .ok (.ifCond .eq 23, 3) := by decide +kernel
theorem dL_rereads_86 : decode cL_rereads 86 = .ok (.aload_n 0, 1) := by decide +kernel
theorem dL_rereads_87 : decode cL_rereads 87 = .ok (.iload 5, 2) := by decide +kernel
theorem dL_rereads_89 : decode cL_rereads 89 = .ok (.iconst 0, 1) := by decide +kernel
theorem dL_rereads_90 : decode cL_rereads 90 = .ok (.invokevirtual 60, 3) := by decide +kernel
theorem dL_rereads_93 : decode cL_rereads 93 = .ok (.aload_n 0, 1) := by decide +kernel
theorem dL_rereads_94 : decode cL_rereads 94 = .ok (.iload_n 1, 1) := by decide +kernel
theorem dL_rereads_95 : decode cL_rereads 95 = .ok (.iconst 0, 1) := by decide +kernel
theorem dL_rereads_96 : decode cL_rereads 96 = .ok (.invokevirtual 60, 3) := by decide +kernel
theorem dL_rereads_99 : decode cL_rereads 99 = .ok (.if_icmp .ne 7, 3) := by decide +kernel
theorem dL_rereads_102 : decode cL_rereads 102 = .ok (.iconst 1, 1) := by decide +kernel
theorem dL_rereads_103 : decode cL_rereads 103 = .ok (.goto 4, 3) := by decide +kernel
theorem dL_rereads_106 : decode cL_rereads 106 = .ok (.iconst 0, 1) := by decide +kernel
theorem dL_rereads_107 : decode cL_rereads 107 = .ok (.istore_n 2, 1) := by decide +kernel
theorem dL_rereads_108 : decode cL_rereads 108 = .ok (.iload_n 2, 1) := by decide +kernel
theorem dL_rereads_109 : decode cL_rereads 109 = .ok (.ifCond .eq 52, 3) := by decide +kernel
theorem dL_rereads_112 : decode cL_rereads 112 = .ok (.aload_n 0, 1) := by decide +kernel
theorem dL_rereads_113 : decode cL_rereads 113 = .ok (.iload 5, 2) := by decide +kernel
theorem dL_rereads_115 : decode cL_rereads 115 = .ok (.iconst 0, 1) := by decide +kernel
theorem dL_rereads_116 : decode cL_rereads 116 = .ok (.iconst 2, 1) := by decide +kernel
theorem dL_rereads_117 : decode cL_rereads 117 = .ok (.invokevirtual 63, 3) := by decide +kernel
theorem dL_rereads_120 : decode cL_rereads 120 = .ok (.aload_n 0, 1) := by decide +kernel
theorem dL_rereads_121 : decode cL_rereads 121 = .ok (.iload_n 1, 1) := by decide +kernel
theorem dL_rereads_122 : decode cL_rereads 122 = .ok (.iconst 0, 1) := by decide +kernel
theorem dL_rereads_123 : decode cL_rereads 123 = .ok (.iconst 2, 1) := by decide +kernel
theorem dL_rereads_124 : decode cL_rereads 124 = .ok (.invokevirtual 63, 3) := by decide +kernel
theorem dL_rereads_127 : decode cL_rereads 127 = .ok (.if_icmp .ne 34, 3) := by decide +kernel
theorem dL_rereads_130 : decode cL_rereads 130 = .ok (.aload_n 0, 1) := by decide +kernel
theorem dL_rereads_131 : decode cL_rereads 131 = .ok (.iload 5, 2) := by decide +kernel
theorem dL_rereads_133 : decode cL_rereads 133 = .ok (.iconst 0, 1) := by decide +kernel
theorem dL_rereads_134 : decode cL_rereads 134 = .ok (.iconst 1, 1) := by decide +kernel
theorem dL_rereads_135 : decode cL_rereads 135 = .ok (.invokevirtual 63, 3) := by decide +kernel
theorem dL_rereads_138 : decode cL_rereads 138 = .ok (.aload_n 0, 1) := by decide +kernel
theorem dL_rereads_139 : decode cL_rereads 139 = .ok (.iload_n 1, 1) := by decide +kernel
theorem dL_rereads_140 : decode cL_rereads 140 = .ok (.iconst 0, 1) := by decide +kernel
theorem dL_rereads_141 : decode cL_rereads 141 = .ok (.iconst 1, 1) := by decide +kernel
theorem dL_rereads_142 : decode cL_rereads 142 = .ok (.invokevirtual 63, 3) := by decide +kernel
theorem dL_rereads_145 : decode cL_rereads 145 = .ok (.if_icmp .ne 16, 3) := by decide +kernel
theorem dL_rereads_148 : decode cL_rereads 148 = .ok (.aload_n 0, 1) := by decide +kernel
theorem dL_rereads_149 : decode cL_rereads 149 = .ok (.invokevirtual 66, 3) := by decide +kernel
theorem dL_rereads_152 : decode cL_rereads 152 = .ok (.iload 5, 2) := by decide +kernel
theorem dL_rereads_154 : decode cL_rereads 154 = .ok (.if_icmp .ne 7, 3) := by decide +kernel
theorem dL_rereads_157 : decode cL_rereads 157 = .ok (.iconst 1, 1) := by decide +kernel
theorem dL_rereads_158 : decode cL_rereads 158 = .ok (.goto 4, 3) := by decide +kernel
theorem dL_rereads_161 : decode cL_rereads 161 = .ok (.iconst 0, 1) := by decide +kernel
theorem dL_rereads_162 : decode cL_rereads 162 = .ok (.istore_n 2, 1) := by decide +kernel
theorem dL_rereads_163 : decode cL_rereads 163 = .ok (.iinc 3 1, 3) := by decide +kernel
theorem dL_rereads_166 : decode cL_rereads 166 = .ok (.goto (-162), 3) := by decide +kernel
theorem dL_rereads_169 : decode cL_rereads 169 = .ok (.aload_n 0, 1) := by decide +kernel
theorem dL_rereads_170 : decode cL_rereads 170 = .ok (.iload_n 1, 1) := by decide +kernel
theorem dL_rereads_171 : decode cL_rereads 171 = .ok (.invokevirtual 69, 3) := by decide +kernel
theorem dL_rereads_174 : decode cL_rereads 174 = .ok (.istore_n 3, 1) := by decide +kernel
theorem dL_rereads_175 : decode cL_rereads 175 = .ok (.iload_n 2, 1) := by decide +kernel
theorem dL_rereads_176 : decode cL_rereads 176 = .ok (.ifCond .eq 39, 3) := by decide +kernel
theorem dL_rereads_179 : decode cL_rereads 179 = .ok (.aload_n 0, 1) := by decide +kernel
theorem dL_rereads_180 : decode cL_rereads 180 = .ok (.iload_n 3, 1) := by decide +kernel
theorem dL_rereads_181 : decode cL_rereads 181 = .ok (.iload_n 1, 1) := by decide +kernel
theorem dL_rereads_182 : decode cL_rereads 182 = .ok (.invokevirtual 56, 3) := by decide +kernel
theorem dL_rereads_185 : decode cL_rereads 185 = .ok (.ifCond .eq 30, 3) := by decide +kernel
theorem dL_rereads_188 : decode cL_rereads 188 = .ok (.aload_n 0, 1) := by decide +kernel
theorem dL_rereads_189 : decode cL_rereads 189 = .ok (.iload_n 3, 1) := by decide +kernel
theorem dL_rereads_190 : decode cL_rereads 190 = .ok (.iconst 0, 1) := by decide +kernel
theorem dL_rereads_191 : decode cL_rereads 191 = .ok (.invokevirtual 44, 3) := by decide +kernel
theorem dL_rereads_194 : decode cL_rereads 194 = .ok (.aload_n 0, 1) := by decide +kernel
theorem dL_rereads_195 : decode cL_rereads 195 = .ok (.iload_n 1, 1) := by decide +kernel
theorem dL_rereads_196 : decode cL_rereads 196 = .ok (.iconst 1, 1) := by decide +kernel
theorem dL_rereads_197 : decode cL_rereads 197 = .ok (.invokevirtual 44, 3) := by decide +kernel
theorem dL_rereads_200 : decode cL_rereads 200 = .ok (.if_icmp .ne 15, 3) := by decide +kernel
theorem dL_rereads_203 : decode cL_rereads 203 = .ok (.aload_n 0, 1) := by decide +kernel
theorem dL_rereads_204 : decode cL_rereads 204 = .ok (.invokevirtual 66, 3) := by decide +kernel
theorem dL_rereads_207 : decode cL_rereads 207 = .ok (.iload_n 3, 1) := by decide +kernel
theorem dL_rereads_208 : decode cL_rereads 208 = .ok (.if_icmp .ne 7, 3) := by decide +kernel
theorem dL_rereads_211 : decode cL_rereads 211 = .ok (.iconst 1, 1) := by decide +kernel
theorem dL_rereads_212 : decode cL_rereads 212 = .ok (.goto 4, 3) := by decide +kernel
theorem dL_rereads_215 : decode cL_rereads 215 = .ok (.iconst 0, 1) := by decide +kernel
theorem dL_rereads_216 : decode cL_rereads 216 = .ok (.ireturn, 1) := by decide +kernel
theorem dL_patches_0 : decode cL_patches 0 = .ok (.aload_n 0, 1) := by decide +kernel
theorem dL_patches_1 : decode cL_patches 1 = .ok (.iconst 0, 1) := by decide +kernel
theorem dL_patches_2 : decode cL_patches 2 = .ok (.invokevirtual 28, 3) := by decide +kernel
theorem dL_patches_5 : decode cL_patches 5 = .ok (.istore_n 3, 1) := by decide +kernel
theorem dL_patches_6 : decode cL_patches 6 = .ok (.aload_n 0, 1) := by decide +kernel
theorem dL_patches_7 : decode cL_patches 7 = .ok (.iload_n 1, 1) := by decide +kernel
theorem dL_patches_8 : decode cL_patches 8 = .ok (.iload_n 2, 1) := by decide +kernel
theorem dL_patches_9 : decode cL_patches 9 = .ok (.invokestatic 72, 3) := by decide +kernel
theorem dL_patches_12 : decode cL_patches 12 = .ok (.istore 4, 2) := by decide +kernel
theorem dL_patches_14 : decode cL_patches 14 = .ok (.iconst 1, 1) := by decide +kernel
theorem dL_patches_15 : decode cL_patches 15 = .ok (.istore 5, 2) := by decide +kernel
theorem dL_patches_17 : decode cL_patches 17 = .ok (.iload 4, 2) := by decide +kernel
theorem dL_patches_19 : decode cL_patches 19 = .ok (.ifCond .lt 135, 3) := by decide +kernel
theorem dL_patches_22 : decode cL_patches 22 = .ok (.aload_n 0, 1) := by decide +kernel
theorem dL_patches_23 : decode cL_patches 23 = .ok (.iload_n 1, 1) := by decide +kernel
theorem dL_patches_24 : decode cL_patches 24 = .ok (.iload 4, 2) := by decide +kernel
theorem dL_patches_26 : decode cL_patches 26 = .ok (.invokevirtual 76, 3) := by decide +kernel
theorem dL_patches_29 : decode cL_patches 29 = .ok (.istore 6, 2) := by decide +kernel
theorem dL_patches_31 : decode cL_patches 31 = .ok (.iload 6, 2) := by decide +kernel
theorem dL_patches_33 : decode cL_patches 33 = .ok (.iload_n 3, 1) := by decide +kernel
theorem dL_patches_34 : decode cL_patches 34 = .ok (.iconst 1, 1) := by decide +kernel
theorem dL_patches_35 : decode cL_patches 35 = .ok (.iadd, 1) := by decide +kernel
theorem dL_patches_36 : decode cL_patches 36 = .ok (.if_icmp .ne 42, 3) := by decide +kernel
theorem dL_patches_39 : decode cL_patches 39 = .ok (.aload_n 0, 1) := by decide +kernel
theorem dL_patches_40 : decode cL_patches 40 = .ok (.iload 6, 2) := by decide +kernel
theorem dL_patches_42 : decode cL_patches 42 = .ok (.iload_n 2, 1) := by decide +kernel
theorem dL_patches_43 : decode cL_patches 43 = .ok (.invokevirtual 56, 3) := by decide +kernel
theorem dL_patches_46 : decode cL_patches 46 = .ok (.ifCond .eq 32, 3) := by decide +kernel
theorem dL_patches_49 : decode cL_patches 49 = .ok (.aload_n 0, 1) := by decide +kernel
theorem dL_patches_50 : decode cL_patches 50 = .ok (.iload 4, 2) := by decide +kernel
theorem dL_patches_52 : decode cL_patches 52 = .ok (.iconst 0, 1) := by decide +kernel
theorem dL_patches_53 : decode cL_patches 53 = .ok (.iconst 3, 1) := by decide +kernel
theorem dL_patches_54 : decode cL_patches 54 = .ok (.invokevirtual 63, 3) := by decide +kernel
theorem dL_patches_57 : decode cL_patches 57 = .ok (.ifCond .ne 7, 3) := by decide +kernel
theorem dL_patches_60 : decode cL_patches 60 = .ok (.iconst 1, 1) := by decide +kernel
theorem dL_patches_61 : decode cL_patches 61 = .ok (.goto 4, 3) := by decide +kernel
theorem dL_patches_64 : decode cL_patches 64 = .ok (.iconst 0, 1) := by decide +kernel
theorem dL_patches_65 : decode cL_patches 65 = .ok (.aload_n 0, 1) := by decide +kernel
theorem dL_patches_66 : decode cL_patches 66 = .ok (.iload_n 1, 1) := by decide +kernel
theorem dL_patches_67 : decode cL_patches 67 = .ok (.iload_n 2, 1) := by decide +kernel
theorem dL_patches_68 : decode cL_patches 68 = .ok (.invokevirtual 56, 3) := by decide +kernel
theorem dL_patches_71 : decode cL_patches 71 = .ok (.if_icmp .ne 7, 3) := by decide +kernel
theorem dL_patches_74 : decode cL_patches 74 = .ok (.iconst 1, 1) := by decide +kernel
theorem dL_patches_75 : decode cL_patches 75 = .ok (.goto 4, 3) := by decide +kernel
theorem dL_patches_78 : decode cL_patches 78 = .ok (.iconst 0, 1) := by decide +kernel
theorem dL_patches_79 : decode cL_patches 79 = .ok (.istore 5, 2) := by decide +kernel
theorem dL_patches_81 : decode cL_patches 81 = .ok (.aload_n 0, 1) := by decide +kernel
theorem dL_patches_82 : decode cL_patches 82 = .ok (.iload_n 1, 1) := by decide +kernel
theorem dL_patches_83 : decode cL_patches 83 = .ok (.iload 4, 2) := by decide +kernel
theorem dL_patches_85 : decode cL_patches 85 = .ok (.invokestatic 79, 3) := by decide +kernel
theorem dL_patches_88 : decode cL_patches 88 = .ok (.istore 7, 2) := by decide +kernel
theorem dL_patches_90 : decode cL_patches 90 = .ok (.iload 7, 2) := by decide +kernel
theorem dL_patches_92 : decode cL_patches 92 = .ok (.ifCond .lt 62, 3) := by decide +kernel
theorem dL_patches_95 : decode cL_patches 95 = .ok (.aload_n 0, 1) := by decide +kernel
theorem dL_patches_96 : decode cL_patches 96 = .ok (.iload 6, 2) := by decide +kernel
theorem dL_patches_98 : decode cL_patches 98 = .ok (.iload 7, 2) := by decide +kernel
theorem dL_patches_100 : decode cL_patches 100 = .ok (.invokevirtual 76, 3) := by decide +kernel
theorem dL_patches_103 : decode cL_patches 103 = .ok (.istore 8, 2) := by decide +kernel
theorem dL_patches_105 : decode cL_patches 105 = .ok (.iload 5, 2) := by decide +kernel
theorem dL_patches_107 : decode cL_patches 107 = .ok (.ifCond .eq 44, 3) := by decide +kernel
theorem dL_patches_110 : decode cL_patches 110 = .ok (.iload 8, 2) := by decide +kernel
theorem dL_patches_112 : decode cL_patches 112 = .ok (.iload_n 3, 1) := by decide +kernel
theorem dL_patches_113 : decode cL_patches 113 = .ok (.iconst 3, 1) := by decide +kernel
theorem dL_patches_114 : decode cL_patches 114 = .ok (.iadd, 1) := by decide +kernel
theorem dL_patches_115 : decode cL_patches 115 = .ok (.if_icmp .ne 36, 3) := by decide +kernel
theorem dL_patches_118 : decode cL_patches 118 = .ok (.aload_n 0, 1) := by decide +kernel
theorem dL_patches_119 : decode cL_patches 119 = .ok (.iload 8, 2) := by decide +kernel
theorem dL_patches_121 : decode cL_patches 121 = .ok (.iload_n 1, 1) := by decide +kernel
theorem dL_patches_122 : decode cL_patches 122 = .ok (.invokevirtual 56, 3) := by decide +kernel
theorem dL_patches_125 : decode cL_patches 125 = .ok (.ifCond .eq 26, 3) := by decide +kernel
theorem dL_patches_128 : decode cL_patches 128 = .ok (.aload_n 0, 1) := by decide +kernel
theorem dL_patches_129 : decode cL_patches 129 = .ok (.iload 7, 2) := by decide +kernel
theorem dL_patches_131 : decode cL_patches 131 = .ok (.iconst 0, 1) := by decide +kernel
theorem dL_patches_132 : decode cL_patches 132 = .ok (.iconst 3, 1) := by decide +kernel
theorem dL_patches_133 : decode cL_patches 133 = .ok (.invokevirtual 63, 3) := by decide +kernel
theorem dL_patches_136 : decode cL_patches 136 = .ok (.aload_n 0, 1) := by decide +kernel
theorem dL_patches_137 : decode cL_patches 137 = .ok (.iload 4, 2) := by decide +kernel
theorem dL_patches_139 : decode cL_patches 139 = .ok (.iconst 0, 1) := by decide +kernel
theorem dL_patches_140 : decode cL_patches 140 = .ok (.iconst 3, 1) := by decide +kernel
theorem dL_patches_141 : decode cL_patches 141 = .ok (.invokevirtual 63, 3) := by decide +kernel
theorem dL_patches_144 : decode cL_patches 144 = .ok (.if_icmp .ne 7, 3) := by decide +kernel
theorem dL_patches_147 : decode cL_patches 147 = .ok (.iconst 1, 1) := by decide +kernel
theorem dL_patches_148 : decode cL_patches 148 = .ok (.goto 4, 3) := by decide +kernel
theorem dL_patches_151 : decode cL_patches 151 = .ok (.iconst 0, 1) := by decide +kernel
theorem dL_patches_152 : decode cL_patches 152 = .ok (.istore 5, 2) := by decide +kernel
theorem dL_patches_154 : decode cL_patches 154 = .ok (.aload_n 0, 1) := by decide +kernel
theorem dL_patches_155 : decode cL_patches 155 = .ok (.iconst 0, 1) := by decide +kernel
theorem dL_patches_156 : decode cL_patches 156 = .ok (.invokevirtual 28, 3) := by decide +kernel
theorem dL_patches_159 : decode cL_patches 159 = .ok (.iload_n 3, 1) := by decide +kernel
theorem dL_patches_160 : decode cL_patches 160 = .ok (.if_icmp .le 12, 3) := by decide +kernel
theorem dL_patches_163 : decode cL_patches 163 = .ok (.aload_n 0, 1) := by decide +kernel
theorem dL_patches_164 : decode cL_patches 164 = .ok (.invokevirtual 66, 3) := by decide +kernel
theorem dL_patches_167 : decode cL_patches 167 = .ok (.istore 6, 2) := by decide +kernel
theorem dL_patches_169 : decode cL_patches 169 = .ok (.goto (-15), 3) := by decide +kernel
theorem dL_patches_172 : decode cL_patches 172 = .ok (.iload 5, 2) := by decide +kernel
theorem dL_patches_174 : decode cL_patches 174 = .ok (.ireturn, 1) := by decide +kernel
theorem dL_joins_0 : decode cL_joins 0 = .ok (.aload_n 0, 1) := by decide +kernel
theorem dL_joins_1 : decode cL_joins 1 = .ok (.iconst 0, 1) := by decide +kernel
theorem dL_joins_2 : decode cL_joins 2 = .ok (.invokevirtual 28, 3) := by decide +kernel
theorem dL_joins_5 : decode cL_joins 5 = .ok (.istore 4, 2) := by decide +kernel
theorem dL_joins_7 : decode cL_joins 7 = .ok (.aload_n 0, 1) := by decide +kernel
theorem dL_joins_8 : decode cL_joins 8 = .ok (.iload_n 1, 1) := by decide +kernel
theorem dL_joins_9 : decode cL_joins 9 = .ok (.iload_n 2, 1) := by decide +kernel
theorem dL_joins_10 : decode cL_joins 10 = .ok (.iload_n 3, 1) := by decide +kernel
theorem dL_joins_11 : decode cL_joins 11 = .ok (.invokestatic 82, 3) := by decide +kernel
theorem dL_joins_14 : decode cL_joins 14 = .ok (.istore 5, 2) := by decide +kernel
theorem dL_joins_16 : decode cL_joins 16 = .ok (.iload 5, 2) := by decide +kernel
theorem dL_joins_18 : decode cL_joins 18 = .ok (.bipush (-2), 2) := by decide +kernel
theorem dL_joins_20 : decode cL_joins 20 = .ok (.if_icmp .ne 7, 3) := by decide +kernel
theorem dL_joins_23 : decode cL_joins 23 = .ok (.iconst 0, 1) := by decide +kernel
theorem dL_joins_24 : decode cL_joins 24 = .ok (.goto 7, 3) := by decide +kernel
theorem dL_joins_27 : decode cL_joins 27 = .ok (.aload_n 0, 1) := by decide +kernel
theorem dL_joins_28 : decode cL_joins 28 = .ok (.invokevirtual 86, 3) := by decide +kernel
theorem dL_joins_31 : decode cL_joins 31 = .ok (.istore 6, 2) := by decide +kernel
theorem dL_joins_33 : decode cL_joins 33 = .ok (.aload_n 0, 1) := by decide +kernel
theorem dL_joins_34 : decode cL_joins 34 = .ok (.iload_n 1, 1) := by decide +kernel
theorem dL_joins_35 : decode cL_joins 35 = .ok (.iload_n 3, 1) := by decide +kernel
theorem dL_joins_36 : decode cL_joins 36 = .ok (.iload_n 2, 1) := by decide +kernel
theorem dL_joins_37 : decode cL_joins 37 = .ok (.invokestatic 82, 3) := by decide +kernel
theorem dL_joins_40 : decode cL_joins 40 = .ok (.istore 7, 2) := by decide +kernel
theorem dL_joins_42 : decode cL_joins 42 = .ok (.iload 5, 2) := by decide +kernel
theorem dL_joins_44 : decode cL_joins 44 = .ok (.iconst (-1), 1) := by decide +kernel
theorem dL_joins_45 : decode cL_joins 45 = .ok (.if_icmp .ne 7, 3) := by decide +kernel
theorem dL_joins_48 : decode cL_joins 48 = .ok (.iconst 1, 1) := by decide +kernel
theorem dL_joins_49 : decode cL_joins 49 = .ok (.goto 4, 3) := by decide +kernel
theorem dL_joins_52 : decode cL_joins 52 = .ok (.iconst 0, 1) := by decide +kernel
theorem dL_joins_53 : decode cL_joins 53 = .ok (.iload 7, 2) := by decide +kernel
theorem dL_joins_55 : decode cL_joins 55 = .ok (.iconst (-1), 1) := by decide +kernel
theorem dL_joins_56 : decode cL_joins 56 = .ok (.if_icmp .ne 7, 3) := by decide +kernel
theorem dL_joins_59 : decode cL_joins 59 = .ok (.iconst 1, 1) := by decide +kernel
theorem dL_joins_60 : decode cL_joins 60 = .ok (.goto 4, 3) := by decide +kernel
theorem dL_joins_63 : decode cL_joins 63 = .ok (.iconst 0, 1) := by decide +kernel
theorem dL_joins_64 : decode cL_joins 64 = .ok (.if_icmp .ne 52, 3) := by decide +kernel
theorem dL_joins_67 : decode cL_joins 67 = .ok (.iload 5, 2) := by decide +kernel
theorem dL_joins_69 : decode cL_joins 69 = .ok (.ifCond .lt 23, 3) := by decide +kernel
theorem dL_joins_72 : decode cL_joins 72 = .ok (.iload 7, 2) := by decide +kernel
theorem dL_joins_74 : decode cL_joins 74 = .ok (.iload 5, 2) := by decide +kernel
theorem dL_joins_76 : decode cL_joins 76 = .ok (.iconst 1, 1) := by decide +kernel
theorem dL_joins_77 : decode cL_joins 77 = .ok (.iadd, 1) := by decide +kernel
theorem dL_joins_78 : decode cL_joins 78 = .ok (.if_icmp .ne 38, 3) := by decide +kernel
theorem dL_joins_81 : decode cL_joins 81 = .ok (.aload_n 0, 1) := by decide +kernel
theorem dL_joins_82 : decode cL_joins 82 = .ok (.iload 5, 2) := by decide +kernel
theorem dL_joins_84 : decode cL_joins 84 = .ok (.iload 7, 2) := by decide +kernel
theorem dL_joins_86 : decode cL_joins 86 = .ok (.invokevirtual 56, 3) := by decide +kernel
theorem dL_joins_89 : decode cL_joins 89 = .ok (.ifCond .eq 27, 3) := by decide +kernel
theorem dL_joins_92 : decode cL_joins 92 = .ok (.iload 5, 2) := by decide +kernel
theorem dL_joins_94 : decode cL_joins 94 = .ok (.iconst (-1), 1) := by decide +kernel
theorem dL_joins_95 : decode cL_joins 95 = .ok (.if_icmp .ne 17, 3) := by decide +kernel
theorem dL_joins_98 : decode cL_joins 98 = .ok (.iload 6, 2) := by decide +kernel
theorem dL_joins_100 : decode cL_joins 100 = .ok (.ifCond .le 16, 3) := by decide +kernel
theorem dL_joins_103 : decode cL_joins 103 = .ok (.aload_n 0, 1) := by decide +kernel
theorem dL_joins_104 : decode cL_joins 104 = .ok (.invokevirtual 86, 3) := by decide +kernel
theorem dL_joins_107 : decode cL_joins 107 = .ok (.iload 6, 2) := by decide +kernel
theorem dL_joins_109 : decode cL_joins 109 = .ok (.if_icmp .ne 7, 3) := by decide +kernel
theorem dL_joins_112 : decode cL_joins 112 = .ok (.iconst 1, 1) := by decide +kernel
theorem dL_joins_113 : decode cL_joins 113 = .ok (.goto 4, 3) := by decide +kernel
theorem dL_joins_116 : decode cL_joins 116 = .ok (.iconst 0, 1) := by decide +kernel
theorem dL_joins_117 : decode cL_joins 117 = .ok (.istore 8, 2) := by decide +kernel
theorem dL_joins_119 : decode cL_joins 119 = .ok (.aload_n 0, 1) := by decide +kernel
theorem dL_joins_120 : decode cL_joins 120 = .ok (.iconst 0, 1) := by decide +kernel
theorem dL_joins_121 : decode cL_joins 121 = .ok (.invokevirtual 28, 3) := by decide +kernel
theorem dL_joins_124 : decode cL_joins 124 = .ok (.iload 4, 2) := by decide +kernel
theorem dL_joins_126 : decode cL_joins 126 = .ok (.if_icmp .le 12, 3) := by decide +kernel
theorem dL_joins_129 : decode cL_joins 129 = .ok (.aload_n 0, 1) := by decide +kernel
theorem dL_joins_130 : decode cL_joins 130 = .ok (.invokevirtual 66, 3) := by decide +kernel
theorem dL_joins_133 : decode cL_joins 133 = .ok (.istore 9, 2) := by decide +kernel
theorem dL_joins_135 : decode cL_joins 135 = .ok (.goto (-16), 3) := by decide +kernel
theorem dL_joins_138 : decode cL_joins 138 = .ok (.aload_n 0, 1) := by decide +kernel
theorem dL_joins_139 : decode cL_joins 139 = .ok (.iload_n 1, 1) := by decide +kernel
theorem dL_joins_140 : decode cL_joins 140 = .ok (.iload_n 1, 1) := by decide +kernel
theorem dL_joins_141 : decode cL_joins 141 = .ok (.iload_n 3, 1) := by decide +kernel
theorem dL_joins_142 : decode cL_joins 142 = .ok (.invokestatic 82, 3) := by decide +kernel
theorem dL_joins_145 : decode cL_joins 145 = .ok (.istore 9, 2) := by decide +kernel
theorem dL_joins_147 : decode cL_joins 147 = .ok (.iload 8, 2) := by decide +kernel
theorem dL_joins_149 : decode cL_joins 149 = .ok (.ifCond .eq 33, 3) := by decide +kernel
theorem dL_joins_152 : decode cL_joins 152 = .ok (.iload 9, 2) := by decide +kernel
theorem dL_joins_154 : decode cL_joins 154 = .ok (.iload 4, 2) := by decide +kernel
theorem dL_joins_156 : decode cL_joins 156 = .ok (.if_icmp .ne 26, 3) := by decide +kernel
theorem dL_joins_159 : decode cL_joins 159 = .ok (.aload_n 0, 1) := by decide +kernel
theorem dL_joins_160 : decode cL_joins 160 = .ok (.iload 9, 2) := by decide +kernel
theorem dL_joins_162 : decode cL_joins 162 = .ok (.iload_n 3, 1) := by decide +kernel
theorem dL_joins_163 : decode cL_joins 163 = .ok (.invokevirtual 56, 3) := by decide +kernel
theorem dL_joins_166 : decode cL_joins 166 = .ok (.ifCond .eq 16, 3) := by decide +kernel
theorem dL_joins_169 : decode cL_joins 169 = .ok (.aload_n 0, 1) := by decide +kernel
theorem dL_joins_170 : decode cL_joins 170 = .ok (.invokevirtual 66, 3) := by decide +kernel
theorem dL_joins_173 : decode cL_joins 173 = .ok (.iload 4, 2) := by decide +kernel
theorem dL_joins_175 : decode cL_joins 175 = .ok (.if_icmp .ne 7, 3) := by decide +kernel
theorem dL_joins_178 : decode cL_joins 178 = .ok (.iconst 1, 1) := by decide +kernel
theorem dL_joins_179 : decode cL_joins 179 = .ok (.goto 4, 3) := by decide +kernel
theorem dL_joins_182 : decode cL_joins 182 = .ok (.iconst 0, 1) := by decide +kernel
theorem dL_joins_183 : decode cL_joins 183 = .ok (.istore 8, 2) := by decide +kernel
theorem dL_joins_185 : decode cL_joins 185 = .ok (.aload_n 0, 1) := by decide +kernel
theorem dL_joins_186 : decode cL_joins 186 = .ok (.iload_n 1, 1) := by decide +kernel
theorem dL_joins_187 : decode cL_joins 187 = .ok (.iload_n 2, 1) := by decide +kernel
theorem dL_joins_188 : decode cL_joins 188 = .ok (.iload_n 2, 1) := by decide +kernel
theorem dL_joins_189 : decode cL_joins 189 = .ok (.invokestatic 82, 3) := by decide +kernel
theorem dL_joins_192 : decode cL_joins 192 = .ok (.istore 9, 2) := by decide +kernel
theorem dL_joins_194 : decode cL_joins 194 = .ok (.iload 8, 2) := by decide +kernel
theorem dL_joins_196 : decode cL_joins 196 = .ok (.ifCond .eq 33, 3) := by decide +kernel
theorem dL_joins_199 : decode cL_joins 199 = .ok (.iload 9, 2) := by decide +kernel
theorem dL_joins_201 : decode cL_joins 201 = .ok (.iload 4, 2) := by decide +kernel
theorem dL_joins_203 : decode cL_joins 203 = .ok (.if_icmp .ne 26, 3) := by decide +kernel
theorem dL_joins_206 : decode cL_joins 206 = .ok (.aload_n 0, 1) := by decide +kernel
theorem dL_joins_207 : decode cL_joins 207 = .ok (.iload 9, 2) := by decide +kernel
theorem dL_joins_209 : decode cL_joins 209 = .ok (.iload_n 2, 1) := by decide +kernel
theorem dL_joins_210 : decode cL_joins 210 = .ok (.invokevirtual 56, 3) := by decide +kernel
theorem dL_joins_213 : decode cL_joins 213 = .ok (.ifCond .eq 16, 3) := by decide +kernel
theorem dL_joins_216 : decode cL_joins 216 = .ok (.aload_n 0, 1) := by decide +kernel
theorem dL_joins_217 : decode cL_joins 217 = .ok (.invokevirtual 66, 3) := by decide +kernel
theorem dL_joins_220 : decode cL_joins 220 = .ok (.iload 4, 2) := by decide +kernel
theorem dL_joins_222 : decode cL_joins 222 = .ok (.if_icmp .ne 7, 3) := by decide +kernel
theorem dL_joins_225 : decode cL_joins 225 = .ok (.iconst 1, 1) := by decide +kernel
theorem dL_joins_226 : decode cL_joins 226 = .ok (.goto 4, 3) := by decide +kernel
theorem dL_joins_229 : decode cL_joins 229 = .ok (.iconst 0, 1) := by decide +kernel
theorem dL_joins_230 : decode cL_joins 230 = .ok (.ireturn, 1) := by decide +kernel
theorem dL_finds_0 : decode cL_finds 0 = .ok (.aload_n 0, 1) := by decide +kernel
theorem dL_finds_1 : decode cL_finds 1 = .ok (.iload_n 1, 1) := by decide +kernel
theorem dL_finds_2 : decode cL_finds 2 = .ok (.iload_n 2, 1) := by decide +kernel
theorem dL_finds_3 : decode cL_finds 3 = .ok (.iconst 3, 1) := by decide +kernel
theorem dL_finds_4 : decode cL_finds 4 = .ok (.invokevirtual 89, 3) := by decide +kernel
theorem dL_finds_7 : decode cL_finds 7 = .ok (.istore_n 3, 1) := by decide +kernel
theorem dL_finds_8 : decode cL_finds 8 = .ok (.iconst 1, 1) := by decide +kernel
theorem dL_finds_9 : decode cL_finds 9 = .ok (.istore 4, 2) := by decide +kernel
theorem dL_finds_11 : decode cL_finds 11 = .ok (.aload_n 0, 1) := by decide +kernel
theorem dL_finds_12 : decode cL_finds 12 = .ok (.invokestatic 47, 3) := by decide +kernel
theorem dL_finds_15 : decode cL_finds 15 = .ok (.ifCond .eq 36, 3) := by decide +kernel
theorem dL_finds_18 : decode cL_finds 18 = .ok (.aload_n 0, 1) := by decide +kernel
theorem dL_finds_19 : decode cL_finds 19 = .ok (.iload_n 1, 1) := by decide +kernel
theorem dL_finds_20 : decode cL_finds 20 = .ok (.invokevirtual 92, 3) := by decide +kernel
theorem dL_finds_23 : decode cL_finds 23 = .ok (.iconst 1, 1) := by decide +kernel
theorem dL_finds_24 : decode cL_finds 24 = .ok (.if_icmp .ne 24, 3) := by decide +kernel
theorem dL_finds_27 : decode cL_finds 27 = .ok (.aload_n 0, 1) := by decide +kernel
theorem dL_finds_28 : decode cL_finds 28 = .ok (.iconst 0, 1) := by decide +kernel
theorem dL_finds_29 : decode cL_finds 29 = .ok (.invokevirtual 95, 3) := by decide +kernel
theorem dL_finds_32 : decode cL_finds 32 = .ok (.iload_n 2, 1) := by decide +kernel
theorem dL_finds_33 : decode cL_finds 33 = .ok (.if_icmp .ne 15, 3) := by decide +kernel
theorem dL_finds_36 : decode cL_finds 36 = .ok (.aload_n 0, 1) := by decide +kernel
theorem dL_finds_37 : decode cL_finds 37 = .ok (.iconst 1, 1) := by decide +kernel
theorem dL_finds_38 : decode cL_finds 38 = .ok (.invokevirtual 28, 3) := by decide +kernel
theorem dL_finds_41 : decode cL_finds 41 = .ok (.ifCond .ne 7, 3) := by decide +kernel
theorem dL_finds_44 : decode cL_finds 44 = .ok (.iconst 1, 1) := by decide +kernel
theorem dL_finds_45 : decode cL_finds 45 = .ok (.goto 4, 3) := by decide +kernel
theorem dL_finds_48 : decode cL_finds 48 = .ok (.iconst 0, 1) := by decide +kernel
theorem dL_finds_49 : decode cL_finds 49 = .ok (.istore 4, 2) := by decide +kernel
theorem dL_finds_51 : decode cL_finds 51 = .ok (.aload_n 0, 1) := by decide +kernel
theorem dL_finds_52 : decode cL_finds 52 = .ok (.iload_n 1, 1) := by decide +kernel
theorem dL_finds_53 : decode cL_finds 53 = .ok (.iload_n 2, 1) := by decide +kernel
theorem dL_finds_54 : decode cL_finds 54 = .ok (.invokevirtual 98, 3) := by decide +kernel
theorem dL_finds_57 : decode cL_finds 57 = .ok (.istore 5, 2) := by decide +kernel
theorem dL_finds_59 : decode cL_finds 59 = .ok (.iload 4, 2) := by decide +kernel
theorem dL_finds_61 : decode cL_finds 61 = .ok (.ifCond .eq 50, 3) := by decide +kernel
theorem dL_finds_64 : decode cL_finds 64 = .ok (.aload_n 0, 1) := by decide +kernel
theorem dL_finds_65 : decode cL_finds 65 = .ok (.iload 5, 2) := by decide +kernel
theorem dL_finds_67 : decode cL_finds 67 = .ok (.iconst 0, 1) := by decide +kernel
theorem dL_finds_68 : decode cL_finds 68 = .ok (.invokevirtual 60, 3) := by decide +kernel
theorem dL_finds_71 : decode cL_finds 71 = .ok (.aload_n 0, 1) := by decide +kernel
theorem dL_finds_72 : decode cL_finds 72 = .ok (.iload_n 1, 1) := by decide +kernel
theorem dL_finds_73 : decode cL_finds 73 = .ok (.iload_n 2, 1) := by decide +kernel
theorem dL_finds_74 : decode cL_finds 74 = .ok (.invokevirtual 60, 3) := by decide +kernel
theorem dL_finds_77 : decode cL_finds 77 = .ok (.if_icmp .ne 34, 3) := by decide +kernel
theorem dL_finds_80 : decode cL_finds 80 = .ok (.aload_n 0, 1) := by decide +kernel
theorem dL_finds_81 : decode cL_finds 81 = .ok (.iload 5, 2) := by decide +kernel
theorem dL_finds_83 : decode cL_finds 83 = .ok (.iconst 0, 1) := by decide +kernel
theorem dL_finds_84 : decode cL_finds 84 = .ok (.iconst 2, 1) := by decide +kernel
theorem dL_finds_85 : decode cL_finds 85 = .ok (.invokevirtual 63, 3) := by decide +kernel
theorem dL_finds_88 : decode cL_finds 88 = .ok (.aload_n 0, 1) := by decide +kernel
theorem dL_finds_89 : decode cL_finds 89 = .ok (.iload_n 1, 1) := by decide +kernel
theorem dL_finds_90 : decode cL_finds 90 = .ok (.iload_n 2, 1) := by decide +kernel
theorem dL_finds_91 : decode cL_finds 91 = .ok (.iconst 2, 1) := by decide +kernel
theorem dL_finds_92 : decode cL_finds 92 = .ok (.invokevirtual 63, 3) := by decide +kernel
theorem dL_finds_95 : decode cL_finds 95 = .ok (.if_icmp .ne 16, 3) := by decide +kernel
theorem dL_finds_98 : decode cL_finds 98 = .ok (.aload_n 0, 1) := by decide +kernel
theorem dL_finds_99 : decode cL_finds 99 = .ok (.invokevirtual 66, 3) := by decide +kernel
theorem dL_finds_102 : decode cL_finds 102 = .ok (.iload 5, 2) := by decide +kernel
theorem dL_finds_104 : decode cL_finds 104 = .ok (.if_icmp .ne 7, 3) := by decide +kernel
theorem dL_finds_107 : decode cL_finds 107 = .ok (.iconst 1, 1) := by decide +kernel
theorem dL_finds_108 : decode cL_finds 108 = .ok (.goto 4, 3) := by decide +kernel
theorem dL_finds_111 : decode cL_finds 111 = .ok (.iconst 0, 1) := by decide +kernel
theorem dL_finds_112 : decode cL_finds 112 = .ok (.ireturn, 1) := by decide +kernel
theorem dL_law_0 : decode cL_law 0 = .ok (.new 11, 3) := by decide +kernel
theorem dL_law_3 : decode cL_law 3 = .ok (.dup, 1) := by decide +kernel
theorem dL_law_4 : decode cL_law 4 = .ok (.invokespecial 101, 3) := by decide +kernel
theorem dL_law_7 : decode cL_law 7 = .ok (.astore_n 1, 1) := by decide +kernel
theorem dL_law_8 : decode cL_law 8 = .ok (.iconst 1, 1) := by decide +kernel
theorem dL_law_9 : decode cL_law 9 = .ok (.istore_n 2, 1) := by decide +kernel
theorem dL_law_10 : decode cL_law 10 = .ok (.iconst 0, 1) := by decide +kernel
theorem dL_law_11 : decode cL_law 11 = .ok (.istore_n 3, 1) := by decide +kernel
theorem dL_law_12 : decode cL_law 12 = .ok (.iconst 0, 1) := by decide +kernel
theorem dL_law_13 : decode cL_law 13 = .ok (.istore 4, 2) := by decide +kernel
theorem dL_law_15 : decode cL_law 15 = .ok (.iload 4, 2) := by decide +kernel
theorem dL_law_17 : decode cL_law 17 = .ok (.iconst 5, 1) := by decide +kernel
theorem dL_law_18 : decode cL_law 18 = .ok (.if_icmp .ge 349, 3) := by decide +kernel
theorem dL_law_21 : decode cL_law 21 = .ok (.iload_n 2, 1) := by decide +kernel
theorem dL_law_22 : decode cL_law 22 = .ok (.ifCond .eq 345, 3) := by decide +kernel
theorem dL_law_25 : decode cL_law 25 = .ok (.aload_n 1, 1) := by decide +kernel
theorem dL_law_26 : decode cL_law 26 = .ok (.iconst 0, 1) := by decide +kernel
theorem dL_law_27 : decode cL_law 27 = .ok (.invokevirtual 28, 3) := by decide +kernel
theorem dL_law_30 : decode cL_law 30 = .ok (.istore 5, 2) := by decide +kernel
theorem dL_law_32 : decode cL_law 32 = .ok (.aload_n 1, 1) := by decide +kernel
theorem dL_law_33 : decode cL_law 33 = .ok (.aload_n 0, 1) := by decide +kernel
theorem dL_law_34 : decode cL_law 34 = .ok (.iload_n 3, 1) := by decide +kernel
theorem dL_law_35 : decode cL_law 35 = .ok (.invokestatic 102, 3) := by decide +kernel
theorem dL_law_38 : decode cL_law 38 = .ok (.ldc 106, 2) := by decide +kernel
theorem dL_law_40 : decode cL_law 40 = .ok (.invokestatic 107, 3) := by decide +kernel
theorem dL_law_43 : decode cL_law 43 = .ok (.iconst 1, 1) := by decide +kernel
theorem dL_law_44 : decode cL_law 44 = .ok (.aload_n 0, 1) := by decide +kernel
theorem dL_law_45 : decode cL_law 45 = .ok (.iload_n 3, 1) := by decide +kernel
theorem dL_law_46 : decode cL_law 46 = .ok (.iconst 1, 1) := by decide +kernel
theorem dL_law_47 : decode cL_law 47 = .ok (.iadd, 1) := by decide +kernel
theorem dL_law_48 : decode cL_law 48 = .ok (.invokestatic 102, 3) := by decide +kernel
theorem dL_law_51 : decode cL_law 51 = .ok (.iconst 3, 1) := by decide +kernel
theorem dL_law_52 : decode cL_law 52 = .ok (.invokestatic 107, 3) := by decide +kernel
theorem dL_law_55 : decode cL_law 55 = .ok (.iadd, 1) := by decide +kernel
theorem dL_law_56 : decode cL_law 56 = .ok (.invokevirtual 110, 3) := by decide +kernel
theorem dL_law_59 : decode cL_law 59 = .ok (.istore 6, 2) := by decide +kernel
theorem dL_law_61 : decode cL_law 61 = .ok (.aload_n 1, 1) := by decide +kernel
theorem dL_law_62 : decode cL_law 62 = .ok (.iload 6, 2) := by decide +kernel
theorem dL_law_64 : decode cL_law 64 = .ok (.aload_n 0, 1) := by decide +kernel
theorem dL_law_65 : decode cL_law 65 = .ok (.iload_n 3, 1) := by decide +kernel
theorem dL_law_66 : decode cL_law 66 = .ok (.iconst 2, 1) := by decide +kernel
theorem dL_law_67 : decode cL_law 67 = .ok (.iadd, 1) := by decide +kernel
theorem dL_law_68 : decode cL_law 68 = .ok (.invokestatic 102, 3) := by decide +kernel
theorem dL_law_71 : decode cL_law 71 = .ok (.ldc 106, 2) := by decide +kernel
theorem dL_law_73 : decode cL_law 73 = .ok (.invokestatic 107, 3) := by decide +kernel
theorem dL_law_76 : decode cL_law 76 = .ok (.invokestatic 113, 3) := by decide +kernel
theorem dL_law_79 : decode cL_law 79 = .ok (.istore 7, 2) := by decide +kernel
theorem dL_law_81 : decode cL_law 81 = .ok (.aload_n 1, 1) := by decide +kernel
theorem dL_law_82 : decode cL_law 82 = .ok (.iload 6, 2) := by decide +kernel
theorem dL_law_84 : decode cL_law 84 = .ok (.aload_n 0, 1) := by decide +kernel
theorem dL_law_85 : decode cL_law 85 = .ok (.iload_n 3, 1) := by decide +kernel
theorem dL_law_86 : decode cL_law 86 = .ok (.iconst 3, 1) := by decide +kernel
theorem dL_law_87 : decode cL_law 87 = .ok (.iadd, 1) := by decide +kernel
theorem dL_law_88 : decode cL_law 88 = .ok (.invokestatic 102, 3) := by decide +kernel
theorem dL_law_91 : decode cL_law 91 = .ok (.ldc 106, 2) := by decide +kernel
theorem dL_law_93 : decode cL_law 93 = .ok (.invokestatic 107, 3) := by decide +kernel
theorem dL_law_96 : decode cL_law 96 = .ok (.invokestatic 113, 3) := by decide +kernel
theorem dL_law_99 : decode cL_law 99 = .ok (.istore 8, 2) := by decide +kernel
theorem dL_law_101 : decode cL_law 101 = .ok (.iload 6, 2) := by decide +kernel
theorem dL_law_103 : decode cL_law 103 = .ok (.iload 5, 2) := by decide +kernel
theorem dL_law_105 : decode cL_law 105 = .ok (.if_icmp .ne 37, 3) := by decide +kernel
theorem dL_law_108 : decode cL_law 108 = .ok (.iload 7, 2) := by decide +kernel
theorem dL_law_110 : decode cL_law 110 = .ok (.iload 6, 2) := by decide +kernel
theorem dL_law_112 : decode cL_law 112 = .ok (.iconst 1, 1) := by decide +kernel
theorem dL_law_113 : decode cL_law 113 = .ok (.iadd, 1) := by decide +kernel
theorem dL_law_114 : decode cL_law 114 = .ok (.if_icmp .ne 28, 3) := by decide +kernel
theorem dL_law_117 : decode cL_law 117 = .ok (.iload 8, 2) := by decide +kernel
theorem dL_law_119 : decode cL_law 119 = .ok (.iload 7, 2) := by decide +kernel
theorem dL_law_121 : decode cL_law 121 = .ok (.iconst 1, 1) := by decide +kernel
theorem dL_law_122 : decode cL_law 122 = .ok (.iadd, 1) := by decide +kernel
theorem dL_law_123 : decode cL_law 123 = .ok (.if_icmp .ne 19, 3) := by decide +kernel
theorem dL_law_126 : decode cL_law 126 = .ok (.aload_n 1, 1) := by decide +kernel
theorem dL_law_127 : decode cL_law 127 = .ok (.iconst 0, 1) := by decide +kernel
theorem dL_law_128 : decode cL_law 128 = .ok (.invokevirtual 28, 3) := by decide +kernel
theorem dL_law_131 : decode cL_law 131 = .ok (.iload 5, 2) := by decide +kernel
theorem dL_law_133 : decode cL_law 133 = .ok (.iconst 3, 1) := by decide +kernel
theorem dL_law_134 : decode cL_law 134 = .ok (.iadd, 1) := by decide +kernel
theorem dL_law_135 : decode cL_law 135 = .ok (.if_icmp .ne 7, 3) := by decide +kernel
theorem dL_law_138 : decode cL_law 138 = .ok (.iconst 1, 1) := by decide +kernel
theorem dL_law_139 : decode cL_law 139 = .ok (.goto 4, 3) := by decide +kernel
theorem dL_law_142 : decode cL_law 142 = .ok (.iconst 0, 1) := by decide +kernel
theorem dL_law_143 : decode cL_law 143 = .ok (.istore_n 2, 1) := by decide +kernel
theorem dL_law_144 : decode cL_law 144 = .ok (.iload_n 2, 1) := by decide +kernel
theorem dL_law_145 : decode cL_law 145 = .ok (.ifCond .eq 71, 3) := by decide +kernel
theorem dL_law_148 : decode cL_law 148 = .ok (.aload_n 1, 1) := by decide +kernel
theorem dL_law_149 : decode cL_law 149 = .ok (.iload 6, 2) := by decide +kernel
theorem dL_law_151 : decode cL_law 151 = .ok (.invokestatic 116, 3) := by decide +kernel
theorem dL_law_154 : decode cL_law 154 = .ok (.ifCond .eq 62, 3) := by decide +kernel
theorem dL_law_157 : decode cL_law 157 = .ok (.aload_n 1, 1) := by decide +kernel
theorem dL_law_158 : decode cL_law 158 = .ok (.iload 7, 2) := by decide +kernel
theorem dL_law_160 : decode cL_law 160 = .ok (.invokestatic 116, 3) := by decide +kernel
theorem dL_law_163 : decode cL_law 163 = .ok (.ifCond .eq 53, 3) := by decide +kernel
theorem dL_law_166 : decode cL_law 166 = .ok (.aload_n 1, 1) := by decide +kernel
theorem dL_law_167 : decode cL_law 167 = .ok (.iload 6, 2) := by decide +kernel
theorem dL_law_169 : decode cL_law 169 = .ok (.iload 7, 2) := by decide +kernel
theorem dL_law_171 : decode cL_law 171 = .ok (.invokestatic 120, 3) := by decide +kernel
theorem dL_law_174 : decode cL_law 174 = .ok (.ifCond .eq 42, 3) := by decide +kernel
theorem dL_law_177 : decode cL_law 177 = .ok (.aload_n 1, 1) := by decide +kernel
theorem dL_law_178 : decode cL_law 178 = .ok (.iload 7, 2) := by decide +kernel
theorem dL_law_180 : decode cL_law 180 = .ok (.iload 8, 2) := by decide +kernel
theorem dL_law_182 : decode cL_law 182 = .ok (.invokestatic 120, 3) := by decide +kernel
theorem dL_law_185 : decode cL_law 185 = .ok (.ifCond .eq 31, 3) := by decide +kernel
theorem dL_law_188 : decode cL_law 188 = .ok (.aload_n 1, 1) := by decide +kernel
theorem dL_law_189 : decode cL_law 189 = .ok (.iload 8, 2) := by decide +kernel
theorem dL_law_191 : decode cL_law 191 = .ok (.iload 8, 2) := by decide +kernel
theorem dL_law_193 : decode cL_law 193 = .ok (.invokestatic 120, 3) := by decide +kernel
theorem dL_law_196 : decode cL_law 196 = .ok (.ifCond .eq 20, 3) := by decide +kernel
theorem dL_law_199 : decode cL_law 199 = .ok (.aload_n 1, 1) := by decide +kernel
theorem dL_law_200 : decode cL_law 200 = .ok (.iload 6, 2) := by decide +kernel
theorem dL_law_202 : decode cL_law 202 = .ok (.iload 7, 2) := by decide +kernel
theorem dL_law_204 : decode cL_law 204 = .ok (.iload 8, 2) := by decide +kernel
theorem dL_law_206 : decode cL_law 206 = .ok (.invokestatic 124, 3) := by decide +kernel
theorem dL_law_209 : decode cL_law 209 = .ok (.ifCond .eq 7, 3) := by decide +kernel
theorem dL_law_212 : decode cL_law 212 = .ok (.iconst 1, 1) := by decide +kernel
theorem dL_law_213 : decode cL_law 213 = .ok (.goto 4, 3) := by decide +kernel
theorem dL_law_216 : decode cL_law 216 = .ok (.iconst 0, 1) := by decide +kernel
theorem dL_law_217 : decode cL_law 217 = .ok (.istore_n 2, 1) := by decide +kernel
theorem dL_law_218 : decode cL_law 218 = .ok (.iload_n 2, 1) := by decide +kernel
theorem dL_law_219 : decode cL_law 219 = .ok (.ifCond .eq 61, 3) := by decide +kernel
theorem dL_law_222 : decode cL_law 222 = .ok (.aload_n 1, 1) := by decide +kernel
theorem dL_law_223 : decode cL_law 223 = .ok (.iload 6, 2) := by decide +kernel
theorem dL_law_225 : decode cL_law 225 = .ok (.aload_n 0, 1) := by decide +kernel
theorem dL_law_226 : decode cL_law 226 = .ok (.iload_n 3, 1) := by decide +kernel
theorem dL_law_227 : decode cL_law 227 = .ok (.iconst 4, 1) := by decide +kernel
theorem dL_law_228 : decode cL_law 228 = .ok (.iadd, 1) := by decide +kernel
theorem dL_law_229 : decode cL_law 229 = .ok (.invokestatic 102, 3) := by decide +kernel
theorem dL_law_232 : decode cL_law 232 = .ok (.aload_n 1, 1) := by decide +kernel
theorem dL_law_233 : decode cL_law 233 = .ok (.iload 6, 2) := by decide +kernel
theorem dL_law_235 : decode cL_law 235 = .ok (.iconst 0, 1) := by decide +kernel
theorem dL_law_236 : decode cL_law 236 = .ok (.iconst 2, 1) := by decide +kernel
theorem dL_law_237 : decode cL_law 237 = .ok (.invokevirtual 63, 3) := by decide +kernel
theorem dL_law_240 : decode cL_law 240 = .ok (.invokestatic 107, 3) := by decide +kernel
theorem dL_law_243 : decode cL_law 243 = .ok (.invokestatic 128, 3) := by decide +kernel
theorem dL_law_246 : decode cL_law 246 = .ok (.ifCond .eq 34, 3) := by decide +kernel
theorem dL_law_249 : decode cL_law 249 = .ok (.aload_n 1, 1) := by decide +kernel
theorem dL_law_250 : decode cL_law 250 = .ok (.iload 8, 2) := by decide +kernel
theorem dL_law_252 : decode cL_law 252 = .ok (.aload_n 0, 1) := by decide +kernel
theorem dL_law_253 : decode cL_law 253 = .ok (.iload_n 3, 1) := by decide +kernel
theorem dL_law_254 : decode cL_law 254 = .ok (.iconst 5, 1) := by decide +kernel
theorem dL_law_255 : decode cL_law 255 = .ok (.iadd, 1) := by decide +kernel
theorem dL_law_256 : decode cL_law 256 = .ok (.invokestatic 102, 3) := by decide +kernel
theorem dL_law_259 : decode cL_law 259 = .ok (.aload_n 1, 1) := by decide +kernel
theorem dL_law_260 : decode cL_law 260 = .ok (.iload 8, 2) := by decide +kernel
theorem dL_law_262 : decode cL_law 262 = .ok (.iconst 0, 1) := by decide +kernel
theorem dL_law_263 : decode cL_law 263 = .ok (.iconst 2, 1) := by decide +kernel
theorem dL_law_264 : decode cL_law 264 = .ok (.invokevirtual 63, 3) := by decide +kernel
theorem dL_law_267 : decode cL_law 267 = .ok (.invokestatic 107, 3) := by decide +kernel
theorem dL_law_270 : decode cL_law 270 = .ok (.invokestatic 128, 3) := by decide +kernel
theorem dL_law_273 : decode cL_law 273 = .ok (.ifCond .eq 7, 3) := by decide +kernel
theorem dL_law_276 : decode cL_law 276 = .ok (.iconst 1, 1) := by decide +kernel
theorem dL_law_277 : decode cL_law 277 = .ok (.goto 4, 3) := by decide +kernel
theorem dL_law_280 : decode cL_law 280 = .ok (.iconst 0, 1) := by decide +kernel
theorem dL_law_281 : decode cL_law 281 = .ok (.istore_n 2, 1) := by decide +kernel
theorem dL_law_282 : decode cL_law 282 = .ok (.iload_n 2, 1) := by decide +kernel
theorem dL_law_283 : decode cL_law 283 = .ok (.ifCond .eq 73, 3) := by decide +kernel
theorem dL_law_286 : decode cL_law 286 = .ok (.aload_n 1, 1) := by decide +kernel
theorem dL_law_287 : decode cL_law 287 = .ok (.iload 6, 2) := by decide +kernel
theorem dL_law_289 : decode cL_law 289 = .ok (.iload 6, 2) := by decide +kernel
theorem dL_law_291 : decode cL_law 291 = .ok (.invokevirtual 56, 3) := by decide +kernel
theorem dL_law_294 : decode cL_law 294 = .ok (.ifCond .eq 62, 3) := by decide +kernel
theorem dL_law_297 : decode cL_law 297 = .ok (.aload_n 1, 1) := by decide +kernel
theorem dL_law_298 : decode cL_law 298 = .ok (.iload 6, 2) := by decide +kernel
theorem dL_law_300 : decode cL_law 300 = .ok (.iconst 0, 1) := by decide +kernel
theorem dL_law_301 : decode cL_law 301 = .ok (.invokevirtual 60, 3) := by decide +kernel
theorem dL_law_304 : decode cL_law 304 = .ok (.aload_n 1, 1) := by decide +kernel
theorem dL_law_305 : decode cL_law 305 = .ok (.iload 7, 2) := by decide +kernel
theorem dL_law_307 : decode cL_law 307 = .ok (.iconst 0, 1) := by decide +kernel
theorem dL_law_308 : decode cL_law 308 = .ok (.invokevirtual 60, 3) := by decide +kernel
theorem dL_law_311 : decode cL_law 311 = .ok (.if_icmp .eq 14, 3) := by decide +kernel
theorem dL_law_314 : decode cL_law 314 = .ok (.aload_n 1, 1) := by decide +kernel
theorem dL_law_315 : decode cL_law 315 = .ok (.iload 6, 2) := by decide +kernel
theorem dL_law_317 : decode cL_law 317 = .ok (.iload 7, 2) := by decide +kernel
theorem dL_law_319 : decode cL_law 319 = .ok (.invokevirtual 56, 3) := by decide +kernel
theorem dL_law_322 : decode cL_law 322 = .ok (.ifCond .ne 34, 3) := by decide +kernel
theorem dL_law_325 : decode cL_law 325 = .ok (.aload_n 1, 1) := by decide +kernel
theorem dL_law_326 : decode cL_law 326 = .ok (.iload 6, 2) := by decide +kernel
theorem dL_law_328 : decode cL_law 328 = .ok (.invokevirtual 131, 3) := by decide +kernel
theorem dL_law_331 : decode cL_law 331 = .ok (.ifCond .eq 25, 3) := by decide +kernel
theorem dL_law_334 : decode cL_law 334 = .ok (.aload_n 1, 1) := by decide +kernel
theorem dL_law_335 : decode cL_law 335 = .ok (.iload 7, 2) := by decide +kernel
theorem dL_law_337 : decode cL_law 337 = .ok (.invokevirtual 131, 3) := by decide +kernel
theorem dL_law_340 : decode cL_law 340 = .ok (.ifCond .eq 16, 3) := by decide +kernel
theorem dL_law_343 : decode cL_law 343 = .ok (.aload_n 1, 1) := by decide +kernel
theorem dL_law_344 : decode cL_law 344 = .ok (.iload 8, 2) := by decide +kernel
theorem dL_law_346 : decode cL_law 346 = .ok (.invokevirtual 131, 3) := by decide +kernel
theorem dL_law_349 : decode cL_law 349 = .ok (.ifCond .eq 7, 3) := by decide +kernel
theorem dL_law_352 : decode cL_law 352 = .ok (.iconst 1, 1) := by decide +kernel
theorem dL_law_353 : decode cL_law 353 = .ok (.goto 4, 3) := by decide +kernel
theorem dL_law_356 : decode cL_law 356 = .ok (.iconst 0, 1) := by decide +kernel
theorem dL_law_357 : decode cL_law 357 = .ok (.istore_n 2, 1) := by decide +kernel
theorem dL_law_358 : decode cL_law 358 = .ok (.iinc 3 6, 3) := by decide +kernel
theorem dL_law_361 : decode cL_law 361 = .ok (.iinc 4 1, 3) := by decide +kernel
theorem dL_law_364 : decode cL_law 364 = .ok (.goto (-349), 3) := by decide +kernel
theorem dL_law_367 : decode cL_law 367 = .ok (.aload_n 1, 1) := by decide +kernel
theorem dL_law_368 : decode cL_law 368 = .ok (.invokevirtual 135, 3) := by decide +kernel
theorem dL_law_371 : decode cL_law 371 = .ok (.istore 4, 2) := by decide +kernel
theorem dL_law_373 : decode cL_law 373 = .ok (.iload_n 2, 1) := by decide +kernel
theorem dL_law_374 : decode cL_law 374 = .ok (.ifCond .eq 37, 3) := by decide +kernel
theorem dL_law_377 : decode cL_law 377 = .ok (.aload_n 1, 1) := by decide +kernel
theorem dL_law_378 : decode cL_law 378 = .ok (.iload 4, 2) := by decide +kernel
theorem dL_law_380 : decode cL_law 380 = .ok (.iload 4, 2) := by decide +kernel
theorem dL_law_382 : decode cL_law 382 = .ok (.invokevirtual 138, 3) := by decide +kernel
theorem dL_law_385 : decode cL_law 385 = .ok (.ifCond .ne 26, 3) := by decide +kernel
theorem dL_law_388 : decode cL_law 388 = .ok (.aload_n 1, 1) := by decide +kernel
theorem dL_law_389 : decode cL_law 389 = .ok (.iload 4, 2) := by decide +kernel
theorem dL_law_391 : decode cL_law 391 = .ok (.iconst 0, 1) := by decide +kernel
theorem dL_law_392 : decode cL_law 392 = .ok (.invokevirtual 138, 3) := by decide +kernel
theorem dL_law_395 : decode cL_law 395 = .ok (.ifCond .lt 16, 3) := by decide +kernel
theorem dL_law_398 : decode cL_law 398 = .ok (.aload_n 1, 1) := by decide +kernel
theorem dL_law_399 : decode cL_law 399 = .ok (.iload 4, 2) := by decide +kernel
theorem dL_law_401 : decode cL_law 401 = .ok (.invokevirtual 131, 3) := by decide +kernel
theorem dL_law_404 : decode cL_law 404 = .ok (.ifCond .eq 7, 3) := by decide +kernel
theorem dL_law_407 : decode cL_law 407 = .ok (.iconst 1, 1) := by decide +kernel
theorem dL_law_408 : decode cL_law 408 = .ok (.goto 4, 3) := by decide +kernel
theorem dL_law_411 : decode cL_law 411 = .ok (.iconst 0, 1) := by decide +kernel
theorem dL_law_412 : decode cL_law 412 = .ok (.ireturn, 1) := by decide +kernel
