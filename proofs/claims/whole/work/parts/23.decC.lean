theorem dX11_init_0 : decode cX11_init 0 = .ok (.aload_n 0, 1) := by decide +kernel
theorem dX11_init_1 : decode cX11_init 1 = .ok (.invokespecial 1, 3) := by decide +kernel
theorem dX11_init_4 : decode cX11_init 4 = .ok (.aload_n 0, 1) := by decide +kernel
theorem dX11_init_5 : decode cX11_init 5 = .ok (.new 7, 3) := by decide +kernel
theorem dX11_init_8 : decode cX11_init 8 = .ok (.dup, 1) := by decide +kernel
theorem dX11_init_9 : decode cX11_init 9 = .ok (.sipush 400, 3) := by decide +kernel
theorem dX11_init_12 : decode cX11_init 12 = .ok (.invokespecial 11, 3) := by decide +kernel
theorem dX11_init_15 : decode cX11_init 15 = .ok (.putfield 14, 3) := by decide +kernel
theorem dX11_init_18 : decode cX11_init 18 = .ok (.aload_n 0, 1) := by decide +kernel
theorem dX11_init_19 : decode cX11_init 19 = .ok (.new 7, 3) := by decide +kernel
theorem dX11_init_22 : decode cX11_init 22 = .ok (.dup, 1) := by decide +kernel
theorem dX11_init_23 : decode cX11_init 23 = .ok (.ldc 18, 2) := by decide +kernel
theorem dX11_init_25 : decode cX11_init 25 = .ok (.invokespecial 11, 3) := by decide +kernel
theorem dX11_init_28 : decode cX11_init 28 = .ok (.putfield 19, 3) := by decide +kernel
theorem dX11_init_31 : decode cX11_init 31 = .ok (.aload_n 0, 1) := by decide +kernel
theorem dX11_init_32 : decode cX11_init 32 = .ok (.new 7, 3) := by decide +kernel
theorem dX11_init_35 : decode cX11_init 35 = .ok (.dup, 1) := by decide +kernel
theorem dX11_init_36 : decode cX11_init 36 = .ok (.ldc 18, 2) := by decide +kernel
theorem dX11_init_38 : decode cX11_init 38 = .ok (.invokespecial 11, 3) := by decide +kernel
theorem dX11_init_41 : decode cX11_init 41 = .ok (.putfield 22, 3) := by decide +kernel
theorem dX11_init_44 : decode cX11_init 44 = .ok (.aload_n 0, 1) := by decide +kernel
theorem dX11_init_45 : decode cX11_init 45 = .ok (.bipush 40, 2) := by decide +kernel
theorem dX11_init_47 : decode cX11_init 47 = .ok (.anewarray 25, 3) := by decide +kernel
theorem dX11_init_50 : decode cX11_init 50 = .ok (.putfield 27, 3) := by decide +kernel
theorem dX11_init_53 : decode cX11_init 53 = .ok (.aload_n 0, 1) := by decide +kernel
theorem dX11_init_54 : decode cX11_init 54 = .ok (.new 25, 3) := by decide +kernel
theorem dX11_init_57 : decode cX11_init 57 = .ok (.dup, 1) := by decide +kernel
theorem dX11_init_58 : decode cX11_init 58 = .ok (.invokespecial 31, 3) := by decide +kernel
theorem dX11_init_61 : decode cX11_init 61 = .ok (.putfield 32, 3) := by decide +kernel
theorem dX11_init_64 : decode cX11_init 64 = .ok (.aload_n 0, 1) := by decide +kernel
theorem dX11_init_65 : decode cX11_init 65 = .ok (.new 25, 3) := by decide +kernel
theorem dX11_init_68 : decode cX11_init 68 = .ok (.dup, 1) := by decide +kernel
theorem dX11_init_69 : decode cX11_init 69 = .ok (.invokespecial 31, 3) := by decide +kernel
theorem dX11_init_72 : decode cX11_init 72 = .ok (.putfield 36, 3) := by decide +kernel
theorem dX11_init_75 : decode cX11_init 75 = .ok (.aload_n 0, 1) := by decide +kernel
theorem dX11_init_76 : decode cX11_init 76 = .ok (.new 39, 3) := by decide +kernel
theorem dX11_init_79 : decode cX11_init 79 = .ok (.dup, 1) := by decide +kernel
theorem dX11_init_80 : decode cX11_init 80 = .ok (.invokespecial 41, 3) := by decide +kernel
theorem dX11_init_83 : decode cX11_init 83 = .ok (.putfield 42, 3) := by decide +kernel
theorem dX11_init_86 : decode cX11_init 86 = .ok (.aload_n 0, 1) := by decide +kernel
theorem dX11_init_87 : decode cX11_init 87 = .ok (.new 46, 3) := by decide +kernel
theorem dX11_init_90 : decode cX11_init 90 = .ok (.dup, 1) := by decide +kernel
theorem dX11_init_91 : decode cX11_init 91 = .ok (.invokespecial 48, 3) := by decide +kernel
theorem dX11_init_94 : decode cX11_init 94 = .ok (.putfield 49, 3) := by decide +kernel
theorem dX11_init_97 : decode cX11_init 97 = .ok (.aload_n 0, 1) := by decide +kernel
theorem dX11_init_98 : decode cX11_init 98 = .ok (.new 53, 3) := by decide +kernel
theorem dX11_init_101 : decode cX11_init 101 = .ok (.dup, 1) := by decide +kernel
theorem dX11_init_102 : decode cX11_init 102 = .ok (.invokespecial 55, 3) := by decide +kernel
theorem dX11_init_105 : decode cX11_init 105 = .ok (.putfield 56, 3) := by decide +kernel
theorem dX11_init_108 : decode cX11_init 108 = .ok (.aload_n 0, 1) := by decide +kernel
theorem dX11_init_109 : decode cX11_init 109 = .ok (.new 60, 3) := by decide +kernel
theorem dX11_init_112 : decode cX11_init 112 = .ok (.dup, 1) := by decide +kernel
theorem dX11_init_113 : decode cX11_init 113 = .ok (.invokespecial 62, 3) := by decide +kernel
theorem dX11_init_116 : decode cX11_init 116 = .ok (.putfield 63, 3) := by decide +kernel
theorem dX11_init_119 : decode cX11_init 119 = .ok (.aload_n 0, 1) := by decide +kernel
theorem dX11_init_120 : decode cX11_init 120 = .ok (.new 67, 3) := by decide +kernel
theorem dX11_init_123 : decode cX11_init 123 = .ok (.dup, 1) := by decide +kernel
theorem dX11_init_124 : decode cX11_init 124 = .ok (.invokespecial 69, 3) := by decide +kernel
theorem dX11_init_127 : decode cX11_init 127 = .ok (.putfield 70, 3) := by decide +kernel
theorem dX11_init_130 : decode cX11_init 130 = .ok (.aload_n 0, 1) := by decide +kernel
theorem dX11_init_131 : decode cX11_init 131 = .ok (.new 74, 3) := by decide +kernel
theorem dX11_init_134 : decode cX11_init 134 = .ok (.dup, 1) := by decide +kernel
theorem dX11_init_135 : decode cX11_init 135 = .ok (.invokespecial 76, 3) := by decide +kernel
theorem dX11_init_138 : decode cX11_init 138 = .ok (.putfield 77, 3) := by decide +kernel
theorem dX11_init_141 : decode cX11_init 141 = .ok (.aload_n 0, 1) := by decide +kernel
theorem dX11_init_142 : decode cX11_init 142 = .ok (.new 81, 3) := by decide +kernel
theorem dX11_init_145 : decode cX11_init 145 = .ok (.dup, 1) := by decide +kernel
theorem dX11_init_146 : decode cX11_init 146 = .ok (.invokespecial 83, 3) := by decide +kernel
theorem dX11_init_149 : decode cX11_init 149 = .ok (.putfield 84, 3) := by decide +kernel
theorem dX11_init_152 : decode cX11_init 152 = .ok (.aload_n 0, 1) := by decide +kernel
theorem dX11_init_153 : decode cX11_init 153 = .ok (.new 88, 3) := by decide +kernel
theorem dX11_init_156 : decode cX11_init 156 = .ok (.dup, 1) := by decide +kernel
theorem dX11_init_157 : decode cX11_init 157 = .ok (.invokespecial 90, 3) := by decide +kernel
theorem dX11_init_160 : decode cX11_init 160 = .ok (.putfield 91, 3) := by decide +kernel
theorem dX11_init_163 : decode cX11_init 163 = .ok (.iconst 0, 1) := by decide +kernel
theorem dX11_init_164 : decode cX11_init 164 = .ok (.istore_n 1, 1) := by decide +kernel
theorem dX11_init_165 : decode cX11_init 165 = .ok (.iload_n 1, 1) := by decide +kernel
theorem dX11_init_166 : decode cX11_init 166 = .ok (.aload_n 0, 1) := by decide +kernel
theorem dX11_init_167 : decode cX11_init 167 = .ok (.getfield 27, 3) := by decide +kernel
theorem dX11_init_170 : decode cX11_init 170 = .ok (.arraylength, 1) := by decide +kernel
theorem dX11_init_171 : decode cX11_init 171 = .ok (.if_icmp .ge 22, 3) := by decide +kernel
theorem dX11_init_174 : decode cX11_init 174 = .ok (.aload_n 0, 1) := by decide +kernel
theorem dX11_init_175 : decode cX11_init 175 = .ok (.getfield 27, 3) := by decide +kernel
theorem dX11_init_178 : decode cX11_init 178 = .ok (.iload_n 1, 1) := by decide +kernel
theorem dX11_init_179 : decode cX11_init 179 = .ok (.new 25, 3) := by decide +kernel
theorem dX11_init_182 : decode cX11_init 182 = .ok (.dup, 1) := by decide +kernel
theorem dX11_init_183 : decode cX11_init 183 = .ok (.invokespecial 31, 3) := by decide +kernel
theorem dX11_init_186 : decode cX11_init 186 = .ok (.aastore, 1) := by decide +kernel
theorem dX11_init_187 : decode cX11_init 187 = .ok (.iinc 1 1, 3) := by decide +kernel
theorem dX11_init_190 : decode cX11_init 190 = .ok (.goto (-25), 3) := by decide +kernel
theorem dX11_init_193 : decode cX11_init 193 = .ok (.aload_n 0, 1) := by decide +kernel
theorem dX11_init_194 : decode cX11_init 194 = .ok (.getfield 22, 3) := by decide +kernel
theorem dX11_init_197 : decode cX11_init 197 = .ok (.invokestatic 95, 3) := by decide +kernel
theorem dX11_init_200 : decode cX11_init 200 = .ok (.aload_n 0, 1) := by decide +kernel
theorem dX11_init_201 : decode cX11_init 201 = .ok (.getfield 42, 3) := by decide +kernel
theorem dX11_init_204 : decode cX11_init 204 = .ok (.aload_n 0, 1) := by decide +kernel
theorem dX11_init_205 : decode cX11_init 205 = .ok (.getfield 22, 3) := by decide +kernel
theorem dX11_init_208 : decode cX11_init 208 = .ok (.iconst 0, 1) := by decide +kernel
theorem dX11_init_209 : decode cX11_init 209 = .ok (.invokevirtual 101, 3) := by decide +kernel
theorem dX11_init_212 : decode cX11_init 212 = .ok (.pop, 1) := by decide +kernel
theorem dX11_init_213 : decode cX11_init 213 = .ok (.aload_n 0, 1) := by decide +kernel
theorem dX11_init_214 : decode cX11_init 214 = .ok (.getfield 36, 3) := by decide +kernel
theorem dX11_init_217 : decode cX11_init 217 = .ok (.aload_n 0, 1) := by decide +kernel
theorem dX11_init_218 : decode cX11_init 218 = .ok (.getfield 42, 3) := by decide +kernel
theorem dX11_init_221 : decode cX11_init 221 = .ok (.invokevirtual 105, 3) := by decide +kernel
theorem dX11_init_224 : decode cX11_init 224 = .ok (.iconst 0, 1) := by decide +kernel
theorem dX11_init_225 : decode cX11_init 225 = .ok (.invokevirtual 109, 3) := by decide +kernel
theorem dX11_init_228 : decode cX11_init 228 = .ok (.return_, 1) := by decide +kernel
theorem dX11_write_0 : decode cX11_write 0 = .ok (.iload_n 1, 1) := by decide +kernel
theorem dX11_write_1 : decode cX11_write 1 = .ok (.iconst 1, 1) := by decide +kernel
theorem dX11_write_2 : decode cX11_write 2 = .ok (.if_icmp .lt 17, 3) := by decide +kernel
theorem dX11_write_5 : decode cX11_write 5 = .ok (.iload_n 1, 1) := by decide +kernel
theorem dX11_write_6 : decode cX11_write 6 = .ok (.bipush 8, 2) := by decide +kernel
theorem dX11_write_8 : decode cX11_write 8 = .ok (.if_icmp .gt 11, 3) := by decide +kernel
theorem dX11_write_11 : decode cX11_write 11 = .ok (.iload_n 1, 1) := by decide +kernel
theorem dX11_write_12 : decode cX11_write 12 = .ok (.lload_n 2, 1) := by decide +kernel
theorem dX11_write_13 : decode cX11_write 13 = .ok (.invokestatic 113, 3) := by decide +kernel
theorem dX11_write_16 : decode cX11_write 16 = .ok (.ifCond .ne 11, 3) := by decide +kernel
theorem dX11_write_19 : decode cX11_write 19 = .ok (.new 117, 3) := by decide +kernel
theorem dX11_write_22 : decode cX11_write 22 = .ok (.dup, 1) := by decide +kernel
theorem dX11_write_23 : decode cX11_write 23 = .ok (.invokespecial 119, 3) := by decide +kernel
theorem dX11_write_26 : decode cX11_write 26 = .ok (.athrow, 1) := by decide +kernel
theorem dX11_write_27 : decode cX11_write 27 = .ok (.aload_n 0, 1) := by decide +kernel
theorem dX11_write_28 : decode cX11_write 28 = .ok (.getfield 14, 3) := by decide +kernel
theorem dX11_write_31 : decode cX11_write 31 = .ok (.invokevirtual 120, 3) := by decide +kernel
theorem dX11_write_34 : decode cX11_write 34 = .ok (.iload_n 1, 1) := by decide +kernel
theorem dX11_write_35 : decode cX11_write 35 = .ok (.iadd, 1) := by decide +kernel
theorem dX11_write_36 : decode cX11_write 36 = .ok (.sipush 400, 3) := by decide +kernel
theorem dX11_write_39 : decode cX11_write 39 = .ok (.if_icmp .le 11, 3) := by decide +kernel
theorem dX11_write_42 : decode cX11_write 42 = .ok (.new 124, 3) := by decide +kernel
theorem dX11_write_45 : decode cX11_write 45 = .ok (.dup, 1) := by decide +kernel
theorem dX11_write_46 : decode cX11_write 46 = .ok (.invokespecial 126, 3) := by decide +kernel
theorem dX11_write_49 : decode cX11_write 49 = .ok (.athrow, 1) := by decide +kernel
theorem dX11_write_50 : decode cX11_write 50 = .ok (.iload_n 1, 1) := by decide +kernel
theorem dX11_write_51 : decode cX11_write 51 = .ok (.iconst 1, 1) := by decide +kernel
theorem dX11_write_52 : decode cX11_write 52 = .ok (.isub, 1) := by decide +kernel
theorem dX11_write_53 : decode cX11_write 53 = .ok (.istore 4, 2) := by decide +kernel
theorem dX11_write_55 : decode cX11_write 55 = .ok (.iload 4, 2) := by decide +kernel
theorem dX11_write_57 : decode cX11_write 57 = .ok (.ifCond .lt 22, 3) := by decide +kernel
theorem dX11_write_60 : decode cX11_write 60 = .ok (.aload_n 0, 1) := by decide +kernel
theorem dX11_write_61 : decode cX11_write 61 = .ok (.getfield 14, 3) := by decide +kernel
theorem dX11_write_64 : decode cX11_write 64 = .ok (.lload_n 2, 1) := by decide +kernel
theorem dX11_write_65 : decode cX11_write 65 = .ok (.iload 4, 2) := by decide +kernel
theorem dX11_write_67 : decode cX11_write 67 = .ok (.invokestatic 127, 3) := by decide +kernel
theorem dX11_write_70 : decode cX11_write 70 = .ok (.invokevirtual 131, 3) := by decide +kernel
theorem dX11_write_73 : decode cX11_write 73 = .ok (.iinc 4 (-1), 3) := by decide +kernel
theorem dX11_write_76 : decode cX11_write 76 = .ok (.goto (-21), 3) := by decide +kernel
theorem dX11_write_79 : decode cX11_write 79 = .ok (.aload_n 0, 1) := by decide +kernel
theorem dX11_write_80 : decode cX11_write 80 = .ok (.getfield 14, 3) := by decide +kernel
theorem dX11_write_83 : decode cX11_write 83 = .ok (.invokevirtual 120, 3) := by decide +kernel
theorem dX11_write_86 : decode cX11_write 86 = .ok (.ireturn, 1) := by decide +kernel
theorem dX11_wipe_0 : decode cX11_wipe 0 = .ok (.aload_n 0, 1) := by decide +kernel
theorem dX11_wipe_1 : decode cX11_wipe 1 = .ok (.getfield 14, 3) := by decide +kernel
theorem dX11_wipe_4 : decode cX11_wipe 4 = .ok (.invokevirtual 120, 3) := by decide +kernel
theorem dX11_wipe_7 : decode cX11_wipe 7 = .ok (.istore_n 1, 1) := by decide +kernel
theorem dX11_wipe_8 : decode cX11_wipe 8 = .ok (.aload_n 0, 1) := by decide +kernel
theorem dX11_wipe_9 : decode cX11_wipe 9 = .ok (.getfield 14, 3) := by decide +kernel
theorem dX11_wipe_12 : decode cX11_wipe 12 = .ok (.invokevirtual 134, 3) := by decide +kernel
theorem dX11_wipe_15 : decode cX11_wipe 15 = .ok (.iload_n 1, 1) := by decide +kernel
theorem dX11_wipe_16 : decode cX11_wipe 16 = .ok (.ireturn, 1) := by decide +kernel
theorem dX11_paper_0 : decode cX11_paper 0 = .ok (.iload_n 1, 1) := by decide +kernel
theorem dX11_paper_1 : decode cX11_paper 1 = .ok (.ifCond .lt 14, 3) := by decide +kernel
theorem dX11_paper_4 : decode cX11_paper 4 = .ok (.iload_n 1, 1) := by decide +kernel
theorem dX11_paper_5 : decode cX11_paper 5 = .ok (.aload_n 0, 1) := by decide +kernel
theorem dX11_paper_6 : decode cX11_paper 6 = .ok (.getfield 19, 3) := by decide +kernel
theorem dX11_paper_9 : decode cX11_paper 9 = .ok (.invokevirtual 120, 3) := by decide +kernel
theorem dX11_paper_12 : decode cX11_paper 12 = .ok (.if_icmp .lt 11, 3) := by decide +kernel
theorem dX11_paper_15 : decode cX11_paper 15 = .ok (.new 137, 3) := by decide +kernel
theorem dX11_paper_18 : decode cX11_paper 18 = .ok (.dup, 1) := by decide +kernel
theorem dX11_paper_19 : decode cX11_paper 19 = .ok (.invokespecial 139, 3) := by decide +kernel
theorem dX11_paper_22 : decode cX11_paper 22 = .ok (.athrow, 1) := by decide +kernel
theorem dX11_paper_23 : decode cX11_paper 23 = .ok (.iload_n 2, 1) := by decide +kernel
theorem dX11_paper_24 : decode cX11_paper 24 = .ok (.iconst 1, 1) := by decide +kernel
theorem dX11_paper_25 : decode cX11_paper 25 = .ok (.if_icmp .lt 22, 3) := by decide +kernel
theorem dX11_paper_28 : decode cX11_paper 28 = .ok (.iload_n 2, 1) := by decide +kernel
theorem dX11_paper_29 : decode cX11_paper 29 = .ok (.bipush 7, 2) := by decide +kernel
theorem dX11_paper_31 : decode cX11_paper 31 = .ok (.if_icmp .gt 16, 3) := by decide +kernel
theorem dX11_paper_34 : decode cX11_paper 34 = .ok (.iload_n 2, 1) := by decide +kernel
theorem dX11_paper_35 : decode cX11_paper 35 = .ok (.aload_n 0, 1) := by decide +kernel
theorem dX11_paper_36 : decode cX11_paper 36 = .ok (.getfield 19, 3) := by decide +kernel
theorem dX11_paper_39 : decode cX11_paper 39 = .ok (.invokevirtual 120, 3) := by decide +kernel
theorem dX11_paper_42 : decode cX11_paper 42 = .ok (.iload_n 1, 1) := by decide +kernel
theorem dX11_paper_43 : decode cX11_paper 43 = .ok (.isub, 1) := by decide +kernel
theorem dX11_paper_44 : decode cX11_paper 44 = .ok (.if_icmp .le 11, 3) := by decide +kernel
theorem dX11_paper_47 : decode cX11_paper 47 = .ok (.new 117, 3) := by decide +kernel
theorem dX11_paper_50 : decode cX11_paper 50 = .ok (.dup, 1) := by decide +kernel
theorem dX11_paper_51 : decode cX11_paper 51 = .ok (.invokespecial 119, 3) := by decide +kernel
theorem dX11_paper_54 : decode cX11_paper 54 = .ok (.athrow, 1) := by decide +kernel
theorem dX11_paper_55 : decode cX11_paper 55 = .ok (.lconst 0, 1) := by decide +kernel
theorem dX11_paper_56 : decode cX11_paper 56 = .ok (.lstore_n 3, 1) := by decide +kernel
theorem dX11_paper_57 : decode cX11_paper 57 = .ok (.iconst 0, 1) := by decide +kernel
theorem dX11_paper_58 : decode cX11_paper 58 = .ok (.istore 5, 2) := by decide +kernel
theorem dX11_paper_60 : decode cX11_paper 60 = .ok (.iload 5, 2) := by decide +kernel
theorem dX11_paper_62 : decode cX11_paper 62 = .ok (.iload_n 2, 1) := by decide +kernel
theorem dX11_paper_63 : decode cX11_paper 63 = .ok (.if_icmp .ge 28, 3) := by decide +kernel
theorem dX11_paper_66 : decode cX11_paper 66 = .ok (.lload_n 3, 1) := by decide +kernel
theorem dX11_paper_67 : decode cX11_paper 67 = .ok (.ldc2_w 140, 3) := by decide +kernel
theorem dX11_paper_70 : decode cX11_paper 70 = .ok (.lmul, 1) := by decide +kernel
theorem dX11_paper_71 : decode cX11_paper 71 = .ok (.aload_n 0, 1) := by decide +kernel
theorem dX11_paper_72 : decode cX11_paper 72 = .ok (.getfield 19, 3) := by decide +kernel
theorem dX11_paper_75 : decode cX11_paper 75 = .ok (.iload_n 1, 1) := by decide +kernel
theorem dX11_paper_76 : decode cX11_paper 76 = .ok (.iload 5, 2) := by decide +kernel
theorem dX11_paper_78 : decode cX11_paper 78 = .ok (.iadd, 1) := by decide +kernel
theorem dX11_paper_79 : decode cX11_paper 79 = .ok (.invokevirtual 142, 3) := by decide +kernel
theorem dX11_paper_82 : decode cX11_paper 82 = .ok (.i2l, 1) := by decide +kernel
theorem dX11_paper_83 : decode cX11_paper 83 = .ok (.ladd, 1) := by decide +kernel
theorem dX11_paper_84 : decode cX11_paper 84 = .ok (.lstore_n 3, 1) := by decide +kernel
theorem dX11_paper_85 : decode cX11_paper 85 = .ok (.iinc 5 1, 3) := by decide +kernel
theorem dX11_paper_88 : decode cX11_paper 88 = .ok (.goto (-28), 3) := by decide +kernel
theorem dX11_paper_91 : decode cX11_paper 91 = .ok (.lload_n 3, 1) := by decide +kernel
theorem dX11_paper_92 : decode cX11_paper 92 = .ok (.lreturn, 1) := by decide +kernel
theorem dX11_rule_0 : decode cX11_rule 0 = .ok (.iload_n 1, 1) := by decide +kernel
theorem dX11_rule_1 : decode cX11_rule 1 = .ok (.ifCond .lt 8, 3) := by decide +kernel
theorem dX11_rule_4 : decode cX11_rule 4 = .ok (.iload_n 1, 1) := by decide +kernel
theorem dX11_rule_5 : decode cX11_rule 5 = .ok (.iconst 2, 1) := by decide +kernel
theorem dX11_rule_6 : decode cX11_rule 6 = .ok (.if_icmp .le 11, 3) := by decide +kernel
theorem dX11_rule_9 : decode cX11_rule 9 = .ok (.new 117, 3) := by decide +kernel
theorem dX11_rule_12 : decode cX11_rule 12 = .ok (.dup, 1) := by decide +kernel
theorem dX11_rule_13 : decode cX11_rule 13 = .ok (.invokespecial 119, 3) := by decide +kernel
theorem dX11_rule_16 : decode cX11_rule 16 = .ok (.athrow, 1) := by decide +kernel
theorem dX11_rule_17 : decode cX11_rule 17 = .ok (.aload_n 0, 1) := by decide +kernel
theorem dX11_rule_18 : decode cX11_rule 18 = .ok (.getfield 146, 3) := by decide +kernel
theorem dX11_rule_21 : decode cX11_rule 21 = .ok (.istore_n 2, 1) := by decide +kernel
theorem dX11_rule_22 : decode cX11_rule 22 = .ok (.aload_n 0, 1) := by decide +kernel
theorem dX11_rule_23 : decode cX11_rule 23 = .ok (.iload_n 1, 1) := by decide +kernel
theorem dX11_rule_24 : decode cX11_rule 24 = .ok (.putfield 146, 3) := by decide +kernel
theorem dX11_rule_27 : decode cX11_rule 27 = .ok (.iload_n 2, 1) := by decide +kernel
theorem dX11_rule_28 : decode cX11_rule 28 = .ok (.ireturn, 1) := by decide +kernel
theorem dX11_read_0 : decode cX11_read 0 = .ok (.aload_n 0, 1) := by decide +kernel
theorem dX11_read_1 : decode cX11_read 1 = .ok (.getfield 150, 3) := by decide +kernel
theorem dX11_read_4 : decode cX11_read 4 = .ok (.bipush 40, 2) := by decide +kernel
theorem dX11_read_6 : decode cX11_read 6 = .ok (.if_icmp .lt 11, 3) := by decide +kernel
theorem dX11_read_9 : decode cX11_read 9 = .ok (.new 124, 3) := by decide +kernel
theorem dX11_read_12 : decode cX11_read 12 = .ok (.dup, 1) := by decide +kernel
theorem dX11_read_13 : decode cX11_read 13 = .ok (.invokespecial 126, 3) := by decide +kernel
theorem dX11_read_16 : decode cX11_read 16 = .ok (.athrow, 1) := by decide +kernel
theorem dX11_read_17 : decode cX11_read 17 = .ok (.aload_n 0, 1) := by decide +kernel
theorem dX11_read_18 : decode cX11_read 18 = .ok (.getfield 42, 3) := by decide +kernel
theorem dX11_read_21 : decode cX11_read 21 = .ok (.aload_n 0, 1) := by decide +kernel
theorem dX11_read_22 : decode cX11_read 22 = .ok (.getfield 14, 3) := by decide +kernel
theorem dX11_read_25 : decode cX11_read 25 = .ok (.aload_n 0, 1) := by decide +kernel
theorem dX11_read_26 : decode cX11_read 26 = .ok (.getfield 146, 3) := by decide +kernel
theorem dX11_read_29 : decode cX11_read 29 = .ok (.invokevirtual 101, 3) := by decide +kernel
theorem dX11_read_32 : decode cX11_read 32 = .ok (.istore_n 1, 1) := by decide +kernel
theorem dX11_read_33 : decode cX11_read 33 = .ok (.aload_n 0, 1) := by decide +kernel
theorem dX11_read_34 : decode cX11_read 34 = .ok (.getfield 14, 3) := by decide +kernel
theorem dX11_read_37 : decode cX11_read 37 = .ok (.invokevirtual 134, 3) := by decide +kernel
theorem dX11_read_40 : decode cX11_read 40 = .ok (.iload_n 1, 1) := by decide +kernel
theorem dX11_read_41 : decode cX11_read 41 = .ok (.iconst (-1), 1) := by decide +kernel
theorem dX11_read_42 : decode cX11_read 42 = .ok (.if_icmp .eq 8, 3) := by decide +kernel
theorem dX11_read_45 : decode cX11_read 45 = .ok (.bipush (-2), 2) := by decide +kernel
theorem dX11_read_47 : decode cX11_read 47 = .ok (.iload_n 1, 1) := by decide +kernel
theorem dX11_read_48 : decode cX11_read 48 = .ok (.isub, 1) := by decide +kernel
theorem dX11_read_49 : decode cX11_read 49 = .ok (.ireturn, 1) := by decide +kernel
theorem dX11_read_50 : decode cX11_read 50 = .ok (.aload_n 0, 1) := by decide +kernel
theorem dX11_read_51 : decode cX11_read 51 = .ok (.aload_n 0, 1) := by decide +kernel
theorem dX11_read_52 : decode cX11_read 52 = .ok (.getfield 42, 3) := by decide +kernel
theorem dX11_read_55 : decode cX11_read 55 = .ok (.invokevirtual 105, 3) := by decide +kernel
theorem dX11_read_58 : decode cX11_read 58 = .ok (.invokevirtual 153, 3) := by decide +kernel
theorem dX11_read_61 : decode cX11_read 61 = .ok (.ireturn, 1) := by decide +kernel
theorem dX11_print_0 : decode cX11_print 0 = .ok (.aload_n 0, 1) := by decide +kernel
theorem dX11_print_1 : decode cX11_print 1 = .ok (.iload_n 1, 1) := by decide +kernel
theorem dX11_print_2 : decode cX11_print 2 = .ok (.invokevirtual 157, 3) := by decide +kernel
theorem dX11_print_5 : decode cX11_print 5 = .ok (.astore_n 3, 1) := by decide +kernel
theorem dX11_print_6 : decode cX11_print 6 = .ok (.iload_n 2, 1) := by decide +kernel
theorem dX11_print_7 : decode cX11_print 7 = .ok (.ifCond .lt 8, 3) := by decide +kernel
theorem dX11_print_10 : decode cX11_print 10 = .ok (.iload_n 2, 1) := by decide +kernel
theorem dX11_print_11 : decode cX11_print 11 = .ok (.iconst 2, 1) := by decide +kernel
theorem dX11_print_12 : decode cX11_print 12 = .ok (.if_icmp .le 11, 3) := by decide +kernel
theorem dX11_print_15 : decode cX11_print 15 = .ok (.new 117, 3) := by decide +kernel
theorem dX11_print_18 : decode cX11_print 18 = .ok (.dup, 1) := by decide +kernel
theorem dX11_print_19 : decode cX11_print 19 = .ok (.invokespecial 119, 3) := by decide +kernel
theorem dX11_print_22 : decode cX11_print 22 = .ok (.athrow, 1) := by decide +kernel
theorem dX11_print_23 : decode cX11_print 23 = .ok (.aload_n 0, 1) := by decide +kernel
theorem dX11_print_24 : decode cX11_print 24 = .ok (.getfield 19, 3) := by decide +kernel
theorem dX11_print_27 : decode cX11_print 27 = .ok (.invokevirtual 134, 3) := by decide +kernel
theorem dX11_print_30 : decode cX11_print 30 = .ok (.aload_n 3, 1) := by decide +kernel
theorem dX11_print_31 : decode cX11_print 31 = .ok (.iconst 0, 1) := by decide +kernel
theorem dX11_print_32 : decode cX11_print 32 = .ok (.iload_n 2, 1) := by decide +kernel
theorem dX11_print_33 : decode cX11_print 33 = .ok (.iconst 0, 1) := by decide +kernel
theorem dX11_print_34 : decode cX11_print 34 = .ok (.aload_n 0, 1) := by decide +kernel
theorem dX11_print_35 : decode cX11_print 35 = .ok (.getfield 19, 3) := by decide +kernel
theorem dX11_print_38 : decode cX11_print 38 = .ok (.invokestatic 161, 3) := by decide +kernel
theorem dX11_print_41 : decode cX11_print 41 = .ok (.aload_n 0, 1) := by decide +kernel
theorem dX11_print_42 : decode cX11_print 42 = .ok (.getfield 19, 3) := by decide +kernel
theorem dX11_print_45 : decode cX11_print 45 = .ok (.invokevirtual 120, 3) := by decide +kernel
theorem dX11_print_48 : decode cX11_print 48 = .ok (.ireturn, 1) := by decide +kernel
theorem dX11_node_0 : decode cX11_node 0 = .ok (.aload_n 0, 1) := by decide +kernel
theorem dX11_node_1 : decode cX11_node 1 = .ok (.iload_n 1, 1) := by decide +kernel
theorem dX11_node_2 : decode cX11_node 2 = .ok (.iload_n 2, 1) := by decide +kernel
theorem dX11_node_3 : decode cX11_node 3 = .ok (.invokevirtual 165, 3) := by decide +kernel
theorem dX11_node_6 : decode cX11_node 6 = .ok (.astore 4, 2) := by decide +kernel
theorem dX11_node_8 : decode cX11_node 8 = .ok (.iload_n 3, 1) := by decide +kernel
theorem dX11_node_9 : decode cX11_node 9 = .ok (.ifCond .lt 9, 3) := by decide +kernel
theorem dX11_node_12 : decode cX11_node 12 = .ok (.iload_n 3, 1) := by decide +kernel
theorem dX11_node_13 : decode cX11_node 13 = .ok (.bipush 9, 2) := by decide +kernel
theorem dX11_node_15 : decode cX11_node 15 = .ok (.if_icmp .le 11, 3) := by decide +kernel
theorem dX11_node_18 : decode cX11_node 18 = .ok (.new 117, 3) := by decide +kernel
theorem dX11_node_21 : decode cX11_node 21 = .ok (.dup, 1) := by decide +kernel
theorem dX11_node_22 : decode cX11_node 22 = .ok (.invokespecial 119, 3) := by decide +kernel
theorem dX11_node_25 : decode cX11_node 25 = .ok (.athrow, 1) := by decide +kernel
theorem dX11_node_26 : decode cX11_node 26 = .ok (.aload 4, 2) := by decide +kernel
theorem dX11_node_28 : decode cX11_node 28 = .ok (.iload_n 2, 1) := by decide +kernel
theorem dX11_node_29 : decode cX11_node 29 = .ok (.iload_n 3, 1) := by decide +kernel
theorem dX11_node_30 : decode cX11_node 30 = .ok (.invokevirtual 169, 3) := by decide +kernel
theorem dX11_node_33 : decode cX11_node 33 = .ok (.ireturn, 1) := by decide +kernel
theorem dX11_tell_0 : decode cX11_tell 0 = .ok (.aload_n 0, 1) := by decide +kernel
theorem dX11_tell_1 : decode cX11_tell 1 = .ok (.iload_n 1, 1) := by decide +kernel
theorem dX11_tell_2 : decode cX11_tell 2 = .ok (.iload_n 2, 1) := by decide +kernel
theorem dX11_tell_3 : decode cX11_tell 3 = .ok (.invokevirtual 165, 3) := by decide +kernel
theorem dX11_tell_6 : decode cX11_tell 6 = .ok (.astore 4, 2) := by decide +kernel
theorem dX11_tell_8 : decode cX11_tell 8 = .ok (.iload_n 3, 1) := by decide +kernel
theorem dX11_tell_9 : decode cX11_tell 9 = .ok (.ifCond .lt 8, 3) := by decide +kernel
theorem dX11_tell_12 : decode cX11_tell 12 = .ok (.iload_n 3, 1) := by decide +kernel
theorem dX11_tell_13 : decode cX11_tell 13 = .ok (.iconst 3, 1) := by decide +kernel
theorem dX11_tell_14 : decode cX11_tell 14 = .ok (.if_icmp .le 11, 3) := by decide +kernel
theorem dX11_tell_17 : decode cX11_tell 17 = .ok (.new 117, 3) := by decide +kernel
theorem dX11_tell_20 : decode cX11_tell 20 = .ok (.dup, 1) := by decide +kernel
theorem dX11_tell_21 : decode cX11_tell 21 = .ok (.invokespecial 119, 3) := by decide +kernel
theorem dX11_tell_24 : decode cX11_tell 24 = .ok (.athrow, 1) := by decide +kernel
theorem dX11_tell_25 : decode cX11_tell 25 = .ok (.aload 4, 2) := by decide +kernel
theorem dX11_tell_27 : decode cX11_tell 27 = .ok (.iload_n 2, 1) := by decide +kernel
theorem dX11_tell_28 : decode cX11_tell 28 = .ok (.iload_n 3, 1) := by decide +kernel
theorem dX11_tell_29 : decode cX11_tell 29 = .ok (.invokestatic 173, 3) := by decide +kernel
theorem dX11_tell_32 : decode cX11_tell 32 = .ok (.ifCond .ne 11, 3) := by decide +kernel
theorem dX11_tell_35 : decode cX11_tell 35 = .ok (.new 124, 3) := by decide +kernel
theorem dX11_tell_38 : decode cX11_tell 38 = .ok (.dup, 1) := by decide +kernel
theorem dX11_tell_39 : decode cX11_tell 39 = .ok (.invokespecial 126, 3) := by decide +kernel
theorem dX11_tell_42 : decode cX11_tell 42 = .ok (.athrow, 1) := by decide +kernel
theorem dX11_tell_43 : decode cX11_tell 43 = .ok (.aload_n 0, 1) := by decide +kernel
theorem dX11_tell_44 : decode cX11_tell 44 = .ok (.getfield 19, 3) := by decide +kernel
theorem dX11_tell_47 : decode cX11_tell 47 = .ok (.invokevirtual 134, 3) := by decide +kernel
theorem dX11_tell_50 : decode cX11_tell 50 = .ok (.iload_n 3, 1) := by decide +kernel
theorem dX11_tell_51 : decode cX11_tell 51 = .ok (.iconst 2, 1) := by decide +kernel
theorem dX11_tell_52 : decode cX11_tell 52 = .ok (.if_icmp .ge 16, 3) := by decide +kernel
theorem dX11_tell_55 : decode cX11_tell 55 = .ok (.aload 4, 2) := by decide +kernel
theorem dX11_tell_57 : decode cX11_tell 57 = .ok (.iload_n 2, 1) := by decide +kernel
theorem dX11_tell_58 : decode cX11_tell 58 = .ok (.aload_n 0, 1) := by decide +kernel
theorem dX11_tell_59 : decode cX11_tell 59 = .ok (.getfield 19, 3) := by decide +kernel
theorem dX11_tell_62 : decode cX11_tell 62 = .ok (.invokevirtual 177, 3) := by decide +kernel
theorem dX11_tell_65 : decode cX11_tell 65 = .ok (.goto 31, 3) := by decide +kernel
theorem dX11_tell_68 : decode cX11_tell 68 = .ok (.iload_n 3, 1) := by decide +kernel
theorem dX11_tell_69 : decode cX11_tell 69 = .ok (.iconst 2, 1) := by decide +kernel
theorem dX11_tell_70 : decode cX11_tell 70 = .ok (.if_icmp .ne 16, 3) := by decide +kernel
theorem dX11_tell_73 : decode cX11_tell 73 = .ok (.aload 4, 2) := by decide +kernel
theorem dX11_tell_75 : decode cX11_tell 75 = .ok (.iload_n 2, 1) := by decide +kernel
theorem dX11_tell_76 : decode cX11_tell 76 = .ok (.aload_n 0, 1) := by decide +kernel
theorem dX11_tell_77 : decode cX11_tell 77 = .ok (.getfield 19, 3) := by decide +kernel
theorem dX11_tell_80 : decode cX11_tell 80 = .ok (.invokevirtual 181, 3) := by decide +kernel
theorem dX11_tell_83 : decode cX11_tell 83 = .ok (.goto 13, 3) := by decide +kernel
theorem dX11_tell_86 : decode cX11_tell 86 = .ok (.aload 4, 2) := by decide +kernel
theorem dX11_tell_88 : decode cX11_tell 88 = .ok (.iload_n 2, 1) := by decide +kernel
theorem dX11_tell_89 : decode cX11_tell 89 = .ok (.aload_n 0, 1) := by decide +kernel
theorem dX11_tell_90 : decode cX11_tell 90 = .ok (.getfield 19, 3) := by decide +kernel
theorem dX11_tell_93 : decode cX11_tell 93 = .ok (.invokevirtual 184, 3) := by decide +kernel
theorem dX11_tell_96 : decode cX11_tell 96 = .ok (.aload_n 0, 1) := by decide +kernel
theorem dX11_tell_97 : decode cX11_tell 97 = .ok (.getfield 19, 3) := by decide +kernel
theorem dX11_tell_100 : decode cX11_tell 100 = .ok (.invokevirtual 120, 3) := by decide +kernel
theorem dX11_tell_103 : decode cX11_tell 103 = .ok (.ireturn, 1) := by decide +kernel
theorem dX11_equal_0 : decode cX11_equal 0 = .ok (.aload_n 0, 1) := by decide +kernel
theorem dX11_equal_1 : decode cX11_equal 1 = .ok (.iload_n 1, 1) := by decide +kernel
theorem dX11_equal_2 : decode cX11_equal 2 = .ok (.invokevirtual 157, 3) := by decide +kernel
theorem dX11_equal_5 : decode cX11_equal 5 = .ok (.astore_n 3, 1) := by decide +kernel
theorem dX11_equal_6 : decode cX11_equal 6 = .ok (.aload_n 0, 1) := by decide +kernel
theorem dX11_equal_7 : decode cX11_equal 7 = .ok (.iload_n 2, 1) := by decide +kernel
theorem dX11_equal_8 : decode cX11_equal 8 = .ok (.invokevirtual 157, 3) := by decide +kernel
theorem dX11_equal_11 : decode cX11_equal 11 = .ok (.astore 4, 2) := by decide +kernel
theorem dX11_equal_13 : decode cX11_equal 13 = .ok (.aload_n 3, 1) := by decide +kernel
theorem dX11_equal_14 : decode cX11_equal 14 = .ok (.iconst 0, 1) := by decide +kernel
theorem dX11_equal_15 : decode cX11_equal 15 = .ok (.aload 4, 2) := by decide +kernel
theorem dX11_equal_17 : decode cX11_equal 17 = .ok (.iconst 0, 1) := by decide +kernel
theorem dX11_equal_18 : decode cX11_equal 18 = .ok (.iconst 0, 1) := by decide +kernel
theorem dX11_equal_19 : decode cX11_equal 19 = .ok (.invokevirtual 187, 3) := by decide +kernel
theorem dX11_equal_22 : decode cX11_equal 22 = .ok (.ireturn, 1) := by decide +kernel
theorem dX11_compare_0 : decode cX11_compare 0 = .ok (.aload_n 0, 1) := by decide +kernel
theorem dX11_compare_1 : decode cX11_compare 1 = .ok (.iload_n 1, 1) := by decide +kernel
theorem dX11_compare_2 : decode cX11_compare 2 = .ok (.invokevirtual 157, 3) := by decide +kernel
theorem dX11_compare_5 : decode cX11_compare 5 = .ok (.astore_n 3, 1) := by decide +kernel
theorem dX11_compare_6 : decode cX11_compare 6 = .ok (.aload_n 0, 1) := by decide +kernel
theorem dX11_compare_7 : decode cX11_compare 7 = .ok (.iload_n 2, 1) := by decide +kernel
theorem dX11_compare_8 : decode cX11_compare 8 = .ok (.invokevirtual 157, 3) := by decide +kernel
theorem dX11_compare_11 : decode cX11_compare 11 = .ok (.astore 4, 2) := by decide +kernel
theorem dX11_compare_13 : decode cX11_compare 13 = .ok (.aload_n 3, 1) := by decide +kernel
theorem dX11_compare_14 : decode cX11_compare 14 = .ok (.iconst 0, 1) := by decide +kernel
theorem dX11_compare_15 : decode cX11_compare 15 = .ok (.iconst 2, 1) := by decide +kernel
theorem dX11_compare_16 : decode cX11_compare 16 = .ok (.invokevirtual 191, 3) := by decide +kernel
theorem dX11_compare_19 : decode cX11_compare 19 = .ok (.ifCond .eq 13, 3) := by decide +kernel
theorem dX11_compare_22 : decode cX11_compare 22 = .ok (.aload 4, 2) := by decide +kernel
theorem dX11_compare_24 : decode cX11_compare 24 = .ok (.iconst 0, 1) := by decide +kernel
theorem dX11_compare_25 : decode cX11_compare 25 = .ok (.iconst 2, 1) := by decide +kernel
theorem dX11_compare_26 : decode cX11_compare 26 = .ok (.invokevirtual 191, 3) := by decide +kernel
theorem dX11_compare_29 : decode cX11_compare 29 = .ok (.ifCond .ne 11, 3) := by decide +kernel
theorem dX11_compare_32 : decode cX11_compare 32 = .ok (.new 124, 3) := by decide +kernel
theorem dX11_compare_35 : decode cX11_compare 35 = .ok (.dup, 1) := by decide +kernel
theorem dX11_compare_36 : decode cX11_compare 36 = .ok (.invokespecial 126, 3) := by decide +kernel
theorem dX11_compare_39 : decode cX11_compare 39 = .ok (.athrow, 1) := by decide +kernel
theorem dX11_compare_40 : decode cX11_compare 40 = .ok (.aload_n 3, 1) := by decide +kernel
theorem dX11_compare_41 : decode cX11_compare 41 = .ok (.iconst 0, 1) := by decide +kernel
theorem dX11_compare_42 : decode cX11_compare 42 = .ok (.aload 4, 2) := by decide +kernel
theorem dX11_compare_44 : decode cX11_compare 44 = .ok (.iconst 0, 1) := by decide +kernel
theorem dX11_compare_45 : decode cX11_compare 45 = .ok (.invokevirtual 195, 3) := by decide +kernel
theorem dX11_compare_48 : decode cX11_compare 48 = .ok (.ireturn, 1) := by decide +kernel
theorem dX11_digest_0 : decode cX11_digest 0 = .ok (.aload_n 0, 1) := by decide +kernel
theorem dX11_digest_1 : decode cX11_digest 1 = .ok (.iload_n 1, 1) := by decide +kernel
theorem dX11_digest_2 : decode cX11_digest 2 = .ok (.iload_n 2, 1) := by decide +kernel
theorem dX11_digest_3 : decode cX11_digest 3 = .ok (.invokevirtual 165, 3) := by decide +kernel
theorem dX11_digest_6 : decode cX11_digest 6 = .ok (.astore_n 3, 1) := by decide +kernel
theorem dX11_digest_7 : decode cX11_digest 7 = .ok (.aload_n 0, 1) := by decide +kernel
theorem dX11_digest_8 : decode cX11_digest 8 = .ok (.getfield 22, 3) := by decide +kernel
theorem dX11_digest_11 : decode cX11_digest 11 = .ok (.invokevirtual 134, 3) := by decide +kernel
theorem dX11_digest_14 : decode cX11_digest 14 = .ok (.aload_n 3, 1) := by decide +kernel
theorem dX11_digest_15 : decode cX11_digest 15 = .ok (.iload_n 2, 1) := by decide +kernel
theorem dX11_digest_16 : decode cX11_digest 16 = .ok (.iconst 1, 1) := by decide +kernel
theorem dX11_digest_17 : decode cX11_digest 17 = .ok (.iconst 0, 1) := by decide +kernel
theorem dX11_digest_18 : decode cX11_digest 18 = .ok (.aload_n 0, 1) := by decide +kernel
theorem dX11_digest_19 : decode cX11_digest 19 = .ok (.getfield 22, 3) := by decide +kernel
theorem dX11_digest_22 : decode cX11_digest 22 = .ok (.invokestatic 161, 3) := by decide +kernel
theorem dX11_digest_25 : decode cX11_digest 25 = .ok (.aload_n 0, 1) := by decide +kernel
theorem dX11_digest_26 : decode cX11_digest 26 = .ok (.getfield 22, 3) := by decide +kernel
theorem dX11_digest_29 : decode cX11_digest 29 = .ok (.invokevirtual 199, 3) := by decide +kernel
theorem dX11_digest_32 : decode cX11_digest 32 = .ok (.ireturn, 1) := by decide +kernel
theorem dX11_take_0 : decode cX11_take 0 = .ok (.aload_n 0, 1) := by decide +kernel
theorem dX11_take_1 : decode cX11_take 1 = .ok (.iload_n 1, 1) := by decide +kernel
theorem dX11_take_2 : decode cX11_take 2 = .ok (.iload_n 2, 1) := by decide +kernel
theorem dX11_take_3 : decode cX11_take 3 = .ok (.invokevirtual 165, 3) := by decide +kernel
theorem dX11_take_6 : decode cX11_take 6 = .ok (.astore_n 3, 1) := by decide +kernel
theorem dX11_take_7 : decode cX11_take 7 = .ok (.aload_n 0, 1) := by decide +kernel
theorem dX11_take_8 : decode cX11_take 8 = .ok (.getfield 32, 3) := by decide +kernel
theorem dX11_take_11 : decode cX11_take 11 = .ok (.aload_n 3, 1) := by decide +kernel
theorem dX11_take_12 : decode cX11_take 12 = .ok (.iload_n 2, 1) := by decide +kernel
theorem dX11_take_13 : decode cX11_take 13 = .ok (.invokevirtual 109, 3) := by decide +kernel
theorem dX11_take_16 : decode cX11_take 16 = .ok (.aload_n 0, 1) := by decide +kernel
theorem dX11_take_17 : decode cX11_take 17 = .ok (.aload_n 0, 1) := by decide +kernel
theorem dX11_take_18 : decode cX11_take 18 = .ok (.getfield 32, 3) := by decide +kernel
theorem dX11_take_21 : decode cX11_take 21 = .ok (.invokevirtual 153, 3) := by decide +kernel
theorem dX11_take_24 : decode cX11_take 24 = .ok (.ireturn, 1) := by decide +kernel
theorem dX11_sorted_0 : decode cX11_sorted 0 = .ok (.aload_n 0, 1) := by decide +kernel
theorem dX11_sorted_1 : decode cX11_sorted 1 = .ok (.iload_n 1, 1) := by decide +kernel
theorem dX11_sorted_2 : decode cX11_sorted 2 = .ok (.invokevirtual 157, 3) := by decide +kernel
theorem dX11_sorted_5 : decode cX11_sorted 5 = .ok (.astore_n 2, 1) := by decide +kernel
theorem dX11_sorted_6 : decode cX11_sorted 6 = .ok (.aload_n 0, 1) := by decide +kernel
theorem dX11_sorted_7 : decode cX11_sorted 7 = .ok (.getfield 32, 3) := by decide +kernel
theorem dX11_sorted_10 : decode cX11_sorted 10 = .ok (.invokevirtual 202, 3) := by decide +kernel
theorem dX11_sorted_13 : decode cX11_sorted 13 = .ok (.aload_n 0, 1) := by decide +kernel
theorem dX11_sorted_14 : decode cX11_sorted 14 = .ok (.getfield 32, 3) := by decide +kernel
theorem dX11_sorted_17 : decode cX11_sorted 17 = .ok (.aload_n 2, 1) := by decide +kernel
theorem dX11_sorted_18 : decode cX11_sorted 18 = .ok (.iconst 0, 1) := by decide +kernel
theorem dX11_sorted_19 : decode cX11_sorted 19 = .ok (.iconst 0, 1) := by decide +kernel
theorem dX11_sorted_20 : decode cX11_sorted 20 = .ok (.invokevirtual 203, 3) := by decide +kernel
theorem dX11_sorted_23 : decode cX11_sorted 23 = .ok (.aload_n 0, 1) := by decide +kernel
theorem dX11_sorted_24 : decode cX11_sorted 24 = .ok (.aload_n 0, 1) := by decide +kernel
theorem dX11_sorted_25 : decode cX11_sorted 25 = .ok (.getfield 32, 3) := by decide +kernel
theorem dX11_sorted_28 : decode cX11_sorted 28 = .ok (.invokevirtual 153, 3) := by decide +kernel
theorem dX11_sorted_31 : decode cX11_sorted 31 = .ok (.ireturn, 1) := by decide +kernel
theorem dX11_both_0 : decode cX11_both 0 = .ok (.aload_n 0, 1) := by decide +kernel
theorem dX11_both_1 : decode cX11_both 1 = .ok (.iload_n 1, 1) := by decide +kernel
theorem dX11_both_2 : decode cX11_both 2 = .ok (.invokevirtual 157, 3) := by decide +kernel
theorem dX11_both_5 : decode cX11_both 5 = .ok (.astore_n 3, 1) := by decide +kernel
theorem dX11_both_6 : decode cX11_both 6 = .ok (.aload_n 0, 1) := by decide +kernel
theorem dX11_both_7 : decode cX11_both 7 = .ok (.iload_n 2, 1) := by decide +kernel
theorem dX11_both_8 : decode cX11_both 8 = .ok (.invokevirtual 157, 3) := by decide +kernel
theorem dX11_both_11 : decode cX11_both 11 = .ok (.astore 4, 2) := by decide +kernel
theorem dX11_both_13 : decode cX11_both 13 = .ok (.aload_n 0, 1) := by decide +kernel
theorem dX11_both_14 : decode cX11_both 14 = .ok (.getfield 32, 3) := by decide +kernel
theorem dX11_both_17 : decode cX11_both 17 = .ok (.invokevirtual 202, 3) := by decide +kernel
theorem dX11_both_20 : decode cX11_both 20 = .ok (.aload_n 0, 1) := by decide +kernel
theorem dX11_both_21 : decode cX11_both 21 = .ok (.getfield 32, 3) := by decide +kernel
theorem dX11_both_24 : decode cX11_both 24 = .ok (.iconst 4, 1) := by decide +kernel
theorem dX11_both_25 : decode cX11_both 25 = .ok (.invokevirtual 207, 3) := by decide +kernel
theorem dX11_both_28 : decode cX11_both 28 = .ok (.istore 5, 2) := by decide +kernel
theorem dX11_both_30 : decode cX11_both 30 = .ok (.aload_n 0, 1) := by decide +kernel
theorem dX11_both_31 : decode cX11_both 31 = .ok (.getfield 32, 3) := by decide +kernel
theorem dX11_both_34 : decode cX11_both 34 = .ok (.aload_n 3, 1) := by decide +kernel
theorem dX11_both_35 : decode cX11_both 35 = .ok (.iconst 0, 1) := by decide +kernel
theorem dX11_both_36 : decode cX11_both 36 = .ok (.invokevirtual 209, 3) := by decide +kernel
theorem dX11_both_39 : decode cX11_both 39 = .ok (.pop, 1) := by decide +kernel
theorem dX11_both_40 : decode cX11_both 40 = .ok (.aload_n 0, 1) := by decide +kernel
theorem dX11_both_41 : decode cX11_both 41 = .ok (.getfield 32, 3) := by decide +kernel
theorem dX11_both_44 : decode cX11_both 44 = .ok (.aload 4, 2) := by decide +kernel
theorem dX11_both_46 : decode cX11_both 46 = .ok (.iconst 0, 1) := by decide +kernel
theorem dX11_both_47 : decode cX11_both 47 = .ok (.invokevirtual 209, 3) := by decide +kernel
theorem dX11_both_50 : decode cX11_both 50 = .ok (.pop, 1) := by decide +kernel
theorem dX11_both_51 : decode cX11_both 51 = .ok (.aload_n 0, 1) := by decide +kernel
theorem dX11_both_52 : decode cX11_both 52 = .ok (.getfield 32, 3) := by decide +kernel
theorem dX11_both_55 : decode cX11_both 55 = .ok (.iload 5, 2) := by decide +kernel
theorem dX11_both_57 : decode cX11_both 57 = .ok (.invokevirtual 213, 3) := by decide +kernel
theorem dX11_both_60 : decode cX11_both 60 = .ok (.aload_n 0, 1) := by decide +kernel
theorem dX11_both_61 : decode cX11_both 61 = .ok (.aload_n 0, 1) := by decide +kernel
theorem dX11_both_62 : decode cX11_both 62 = .ok (.getfield 32, 3) := by decide +kernel
theorem dX11_both_65 : decode cX11_both 65 = .ok (.invokevirtual 153, 3) := by decide +kernel
theorem dX11_both_68 : decode cX11_both 68 = .ok (.ireturn, 1) := by decide +kernel
theorem dX11_undo_0 : decode cX11_undo 0 = .ok (.aload_n 0, 1) := by decide +kernel
theorem dX11_undo_1 : decode cX11_undo 1 = .ok (.getfield 150, 3) := by decide +kernel
theorem dX11_undo_4 : decode cX11_undo 4 = .ok (.iconst 1, 1) := by decide +kernel
theorem dX11_undo_5 : decode cX11_undo 5 = .ok (.if_icmp .ge 11, 3) := by decide +kernel
theorem dX11_undo_8 : decode cX11_undo 8 = .ok (.new 124, 3) := by decide +kernel
theorem dX11_undo_11 : decode cX11_undo 11 = .ok (.dup, 1) := by decide +kernel
theorem dX11_undo_12 : decode cX11_undo 12 = .ok (.invokespecial 126, 3) := by decide +kernel
theorem dX11_undo_15 : decode cX11_undo 15 = .ok (.athrow, 1) := by decide +kernel
theorem dX11_undo_16 : decode cX11_undo 16 = .ok (.aload_n 0, 1) := by decide +kernel
theorem dX11_undo_17 : decode cX11_undo 17 = .ok (.dup, 1) := by decide +kernel
theorem dX11_undo_18 : decode cX11_undo 18 = .ok (.getfield 150, 3) := by decide +kernel
theorem dX11_undo_21 : decode cX11_undo 21 = .ok (.iconst 1, 1) := by decide +kernel
theorem dX11_undo_22 : decode cX11_undo 22 = .ok (.isub, 1) := by decide +kernel
theorem dX11_undo_23 : decode cX11_undo 23 = .ok (.putfield 150, 3) := by decide +kernel
theorem dX11_undo_26 : decode cX11_undo 26 = .ok (.aload_n 0, 1) := by decide +kernel
theorem dX11_undo_27 : decode cX11_undo 27 = .ok (.getfield 150, 3) := by decide +kernel
theorem dX11_undo_30 : decode cX11_undo 30 = .ok (.ireturn, 1) := by decide +kernel
theorem dX11_select_0 : decode cX11_select 0 = .ok (.aload_n 0, 1) := by decide +kernel
theorem dX11_select_1 : decode cX11_select 1 = .ok (.iload_n 1, 1) := by decide +kernel
theorem dX11_select_2 : decode cX11_select 2 = .ok (.invokevirtual 157, 3) := by decide +kernel
theorem dX11_select_5 : decode cX11_select 5 = .ok (.astore_n 2, 1) := by decide +kernel
theorem dX11_select_6 : decode cX11_select 6 = .ok (.aload_n 0, 1) := by decide +kernel
theorem dX11_select_7 : decode cX11_select 7 = .ok (.invokevirtual 216, 3) := by decide +kernel
theorem dX11_select_10 : decode cX11_select 10 = .ok (.aload_n 0, 1) := by decide +kernel
theorem dX11_select_11 : decode cX11_select 11 = .ok (.getfield 14, 3) := by decide +kernel
theorem dX11_select_14 : decode cX11_select 14 = .ok (.invokevirtual 134, 3) := by decide +kernel
theorem dX11_select_17 : decode cX11_select 17 = .ok (.aload_n 0, 1) := by decide +kernel
theorem dX11_select_18 : decode cX11_select 18 = .ok (.getfield 56, 3) := by decide +kernel
theorem dX11_select_21 : decode cX11_select 21 = .ok (.aload_n 2, 1) := by decide +kernel
theorem dX11_select_22 : decode cX11_select 22 = .ok (.aload_n 0, 1) := by decide +kernel
theorem dX11_select_23 : decode cX11_select 23 = .ok (.getfield 49, 3) := by decide +kernel
theorem dX11_select_26 : decode cX11_select 26 = .ok (.invokevirtual 219, 3) := by decide +kernel
theorem dX11_select_29 : decode cX11_select 29 = .ok (.aload_n 0, 1) := by decide +kernel
theorem dX11_select_30 : decode cX11_select 30 = .ok (.getfield 56, 3) := by decide +kernel
theorem dX11_select_33 : decode cX11_select 33 = .ok (.invokevirtual 223, 3) := by decide +kernel
theorem dX11_select_36 : decode cX11_select 36 = .ok (.ireturn, 1) := by decide +kernel
theorem dX11_find_0 : decode cX11_find 0 = .ok (.iload_n 1, 1) := by decide +kernel
theorem dX11_find_1 : decode cX11_find 1 = .ok (.ifCond .lt 14, 3) := by decide +kernel
theorem dX11_find_4 : decode cX11_find 4 = .ok (.iload_n 1, 1) := by decide +kernel
theorem dX11_find_5 : decode cX11_find 5 = .ok (.aload_n 0, 1) := by decide +kernel
theorem dX11_find_6 : decode cX11_find 6 = .ok (.getfield 56, 3) := by decide +kernel
theorem dX11_find_9 : decode cX11_find 9 = .ok (.invokevirtual 223, 3) := by decide +kernel
theorem dX11_find_12 : decode cX11_find 12 = .ok (.if_icmp .lt 11, 3) := by decide +kernel
theorem dX11_find_15 : decode cX11_find 15 = .ok (.new 137, 3) := by decide +kernel
theorem dX11_find_18 : decode cX11_find 18 = .ok (.dup, 1) := by decide +kernel
theorem dX11_find_19 : decode cX11_find 19 = .ok (.invokespecial 139, 3) := by decide +kernel
theorem dX11_find_22 : decode cX11_find 22 = .ok (.athrow, 1) := by decide +kernel
theorem dX11_find_23 : decode cX11_find 23 = .ok (.aload_n 0, 1) := by decide +kernel
theorem dX11_find_24 : decode cX11_find 24 = .ok (.getfield 56, 3) := by decide +kernel
theorem dX11_find_27 : decode cX11_find 27 = .ok (.iload_n 1, 1) := by decide +kernel
theorem dX11_find_28 : decode cX11_find 28 = .ok (.invokevirtual 225, 3) := by decide +kernel
theorem dX11_find_31 : decode cX11_find 31 = .ok (.ireturn, 1) := by decide +kernel
theorem dX11_put_0 : decode cX11_put 0 = .ok (.aload_n 0, 1) := by decide +kernel
theorem dX11_put_1 : decode cX11_put 1 = .ok (.iload_n 1, 1) := by decide +kernel
theorem dX11_put_2 : decode cX11_put 2 = .ok (.invokevirtual 157, 3) := by decide +kernel
theorem dX11_put_5 : decode cX11_put 5 = .ok (.astore_n 3, 1) := by decide +kernel
theorem dX11_put_6 : decode cX11_put 6 = .ok (.aload_n 0, 1) := by decide +kernel
theorem dX11_put_7 : decode cX11_put 7 = .ok (.iload_n 2, 1) := by decide +kernel
theorem dX11_put_8 : decode cX11_put 8 = .ok (.invokevirtual 157, 3) := by decide +kernel
theorem dX11_put_11 : decode cX11_put 11 = .ok (.astore 4, 2) := by decide +kernel
theorem dX11_put_13 : decode cX11_put 13 = .ok (.aload_n 0, 1) := by decide +kernel
theorem dX11_put_14 : decode cX11_put 14 = .ok (.invokevirtual 216, 3) := by decide +kernel
theorem dX11_put_17 : decode cX11_put 17 = .ok (.aload_n 0, 1) := by decide +kernel
theorem dX11_put_18 : decode cX11_put 18 = .ok (.getfield 70, 3) := by decide +kernel
theorem dX11_put_21 : decode cX11_put 21 = .ok (.aload_n 3, 1) := by decide +kernel
theorem dX11_put_22 : decode cX11_put 22 = .ok (.iconst 0, 1) := by decide +kernel
theorem dX11_put_23 : decode cX11_put 23 = .ok (.invokevirtual 226, 3) := by decide +kernel
theorem dX11_put_26 : decode cX11_put 26 = .ok (.aload_n 0, 1) := by decide +kernel
theorem dX11_put_27 : decode cX11_put 27 = .ok (.getfield 70, 3) := by decide +kernel
theorem dX11_put_30 : decode cX11_put 30 = .ok (.aload_n 0, 1) := by decide +kernel
theorem dX11_put_31 : decode cX11_put 31 = .ok (.getfield 49, 3) := by decide +kernel
theorem dX11_put_34 : decode cX11_put 34 = .ok (.aload 4, 2) := by decide +kernel
theorem dX11_put_36 : decode cX11_put 36 = .ok (.iconst 0, 1) := by decide +kernel
theorem dX11_put_37 : decode cX11_put 37 = .ok (.invokevirtual 230, 3) := by decide +kernel
theorem dX11_put_40 : decode cX11_put 40 = .ok (.ifCond .ne 11, 3) := by decide +kernel
theorem dX11_put_43 : decode cX11_put 43 = .ok (.new 124, 3) := by decide +kernel
theorem dX11_put_46 : decode cX11_put 46 = .ok (.dup, 1) := by decide +kernel
theorem dX11_put_47 : decode cX11_put 47 = .ok (.invokespecial 126, 3) := by decide +kernel
theorem dX11_put_50 : decode cX11_put 50 = .ok (.athrow, 1) := by decide +kernel
theorem dX11_put_51 : decode cX11_put 51 = .ok (.aload_n 0, 1) := by decide +kernel
theorem dX11_put_52 : decode cX11_put 52 = .ok (.aload_n 0, 1) := by decide +kernel
theorem dX11_put_53 : decode cX11_put 53 = .ok (.getfield 70, 3) := by decide +kernel
theorem dX11_put_56 : decode cX11_put 56 = .ok (.invokevirtual 234, 3) := by decide +kernel
theorem dX11_put_59 : decode cX11_put 59 = .ok (.invokevirtual 235, 3) := by decide +kernel
theorem dX11_put_62 : decode cX11_put 62 = .ok (.ireturn, 1) := by decide +kernel
theorem dX11_cut_0 : decode cX11_cut 0 = .ok (.aload_n 0, 1) := by decide +kernel
theorem dX11_cut_1 : decode cX11_cut 1 = .ok (.iload_n 1, 1) := by decide +kernel
theorem dX11_cut_2 : decode cX11_cut 2 = .ok (.invokevirtual 157, 3) := by decide +kernel
theorem dX11_cut_5 : decode cX11_cut 5 = .ok (.astore_n 2, 1) := by decide +kernel
theorem dX11_cut_6 : decode cX11_cut 6 = .ok (.aload_n 0, 1) := by decide +kernel
theorem dX11_cut_7 : decode cX11_cut 7 = .ok (.invokevirtual 216, 3) := by decide +kernel
theorem dX11_cut_10 : decode cX11_cut 10 = .ok (.aload_n 0, 1) := by decide +kernel
theorem dX11_cut_11 : decode cX11_cut 11 = .ok (.getfield 70, 3) := by decide +kernel
theorem dX11_cut_14 : decode cX11_cut 14 = .ok (.aload_n 2, 1) := by decide +kernel
theorem dX11_cut_15 : decode cX11_cut 15 = .ok (.iconst 0, 1) := by decide +kernel
theorem dX11_cut_16 : decode cX11_cut 16 = .ok (.invokevirtual 226, 3) := by decide +kernel
theorem dX11_cut_19 : decode cX11_cut 19 = .ok (.aload_n 0, 1) := by decide +kernel
theorem dX11_cut_20 : decode cX11_cut 20 = .ok (.getfield 70, 3) := by decide +kernel
theorem dX11_cut_23 : decode cX11_cut 23 = .ok (.aload_n 0, 1) := by decide +kernel
theorem dX11_cut_24 : decode cX11_cut 24 = .ok (.getfield 49, 3) := by decide +kernel
theorem dX11_cut_27 : decode cX11_cut 27 = .ok (.invokevirtual 238, 3) := by decide +kernel
theorem dX11_cut_30 : decode cX11_cut 30 = .ok (.ifCond .ne 11, 3) := by decide +kernel
theorem dX11_cut_33 : decode cX11_cut 33 = .ok (.new 124, 3) := by decide +kernel
theorem dX11_cut_36 : decode cX11_cut 36 = .ok (.dup, 1) := by decide +kernel
theorem dX11_cut_37 : decode cX11_cut 37 = .ok (.invokespecial 126, 3) := by decide +kernel
theorem dX11_cut_40 : decode cX11_cut 40 = .ok (.athrow, 1) := by decide +kernel
theorem dX11_cut_41 : decode cX11_cut 41 = .ok (.aload_n 0, 1) := by decide +kernel
theorem dX11_cut_42 : decode cX11_cut 42 = .ok (.aload_n 0, 1) := by decide +kernel
theorem dX11_cut_43 : decode cX11_cut 43 = .ok (.getfield 70, 3) := by decide +kernel
theorem dX11_cut_46 : decode cX11_cut 46 = .ok (.invokevirtual 234, 3) := by decide +kernel
theorem dX11_cut_49 : decode cX11_cut 49 = .ok (.invokevirtual 235, 3) := by decide +kernel
theorem dX11_cut_52 : decode cX11_cut 52 = .ok (.ireturn, 1) := by decide +kernel
theorem dX11_lay_0 : decode cX11_lay 0 = .ok (.aload_n 0, 1) := by decide +kernel
theorem dX11_lay_1 : decode cX11_lay 1 = .ok (.iload_n 1, 1) := by decide +kernel
theorem dX11_lay_2 : decode cX11_lay 2 = .ok (.invokevirtual 157, 3) := by decide +kernel
theorem dX11_lay_5 : decode cX11_lay 5 = .ok (.astore_n 3, 1) := by decide +kernel
theorem dX11_lay_6 : decode cX11_lay 6 = .ok (.aload_n 0, 1) := by decide +kernel
theorem dX11_lay_7 : decode cX11_lay 7 = .ok (.iload_n 2, 1) := by decide +kernel
theorem dX11_lay_8 : decode cX11_lay 8 = .ok (.invokevirtual 157, 3) := by decide +kernel
theorem dX11_lay_11 : decode cX11_lay 11 = .ok (.astore 4, 2) := by decide +kernel
theorem dX11_lay_13 : decode cX11_lay 13 = .ok (.aload 4, 2) := by decide +kernel
theorem dX11_lay_15 : decode cX11_lay 15 = .ok (.iconst 0, 1) := by decide +kernel
theorem dX11_lay_16 : decode cX11_lay 16 = .ok (.iconst 4, 1) := by decide +kernel
theorem dX11_lay_17 : decode cX11_lay 17 = .ok (.invokevirtual 191, 3) := by decide +kernel
theorem dX11_lay_20 : decode cX11_lay 20 = .ok (.ifCond .ne 5, 3) := by decide +kernel
theorem dX11_lay_23 : decode cX11_lay 23 = .ok (.iconst (-1), 1) := by decide +kernel
theorem dX11_lay_24 : decode cX11_lay 24 = .ok (.ireturn, 1) := by decide +kernel
theorem dX11_lay_25 : decode cX11_lay 25 = .ok (.aload_n 0, 1) := by decide +kernel
theorem dX11_lay_26 : decode cX11_lay 26 = .ok (.getfield 70, 3) := by decide +kernel
theorem dX11_lay_29 : decode cX11_lay 29 = .ok (.aload_n 3, 1) := by decide +kernel
theorem dX11_lay_30 : decode cX11_lay 30 = .ok (.iconst 0, 1) := by decide +kernel
theorem dX11_lay_31 : decode cX11_lay 31 = .ok (.invokevirtual 226, 3) := by decide +kernel
theorem dX11_lay_34 : decode cX11_lay 34 = .ok (.aload_n 0, 1) := by decide +kernel
theorem dX11_lay_35 : decode cX11_lay 35 = .ok (.getfield 70, 3) := by decide +kernel
theorem dX11_lay_38 : decode cX11_lay 38 = .ok (.aload 4, 2) := by decide +kernel
theorem dX11_lay_40 : decode cX11_lay 40 = .ok (.invokevirtual 242, 3) := by decide +kernel
theorem dX11_lay_43 : decode cX11_lay 43 = .ok (.istore 5, 2) := by decide +kernel
theorem dX11_lay_45 : decode cX11_lay 45 = .ok (.iload 5, 2) := by decide +kernel
theorem dX11_lay_47 : decode cX11_lay 47 = .ok (.iconst (-1), 1) := by decide +kernel
theorem dX11_lay_48 : decode cX11_lay 48 = .ok (.if_icmp .eq 9, 3) := by decide +kernel
theorem dX11_lay_51 : decode cX11_lay 51 = .ok (.bipush (-2), 2) := by decide +kernel
theorem dX11_lay_53 : decode cX11_lay 53 = .ok (.iload 5, 2) := by decide +kernel
theorem dX11_lay_55 : decode cX11_lay 55 = .ok (.isub, 1) := by decide +kernel
theorem dX11_lay_56 : decode cX11_lay 56 = .ok (.ireturn, 1) := by decide +kernel
theorem dX11_lay_57 : decode cX11_lay 57 = .ok (.aload_n 0, 1) := by decide +kernel
theorem dX11_lay_58 : decode cX11_lay 58 = .ok (.aload_n 0, 1) := by decide +kernel
theorem dX11_lay_59 : decode cX11_lay 59 = .ok (.getfield 70, 3) := by decide +kernel
theorem dX11_lay_62 : decode cX11_lay 62 = .ok (.invokevirtual 234, 3) := by decide +kernel
theorem dX11_lay_65 : decode cX11_lay 65 = .ok (.invokevirtual 153, 3) := by decide +kernel
theorem dX11_lay_68 : decode cX11_lay 68 = .ok (.ireturn, 1) := by decide +kernel
theorem dX11_patch_0 : decode cX11_patch 0 = .ok (.aload_n 0, 1) := by decide +kernel
theorem dX11_patch_1 : decode cX11_patch 1 = .ok (.iload_n 1, 1) := by decide +kernel
theorem dX11_patch_2 : decode cX11_patch 2 = .ok (.invokevirtual 157, 3) := by decide +kernel
theorem dX11_patch_5 : decode cX11_patch 5 = .ok (.astore_n 3, 1) := by decide +kernel
theorem dX11_patch_6 : decode cX11_patch 6 = .ok (.aload_n 0, 1) := by decide +kernel
theorem dX11_patch_7 : decode cX11_patch 7 = .ok (.iload_n 2, 1) := by decide +kernel
theorem dX11_patch_8 : decode cX11_patch 8 = .ok (.invokevirtual 157, 3) := by decide +kernel
theorem dX11_patch_11 : decode cX11_patch 11 = .ok (.astore 4, 2) := by decide +kernel
theorem dX11_patch_13 : decode cX11_patch 13 = .ok (.aload_n 0, 1) := by decide +kernel
theorem dX11_patch_14 : decode cX11_patch 14 = .ok (.getfield 63, 3) := by decide +kernel
theorem dX11_patch_17 : decode cX11_patch 17 = .ok (.aload_n 3, 1) := by decide +kernel
theorem dX11_patch_18 : decode cX11_patch 18 = .ok (.aload 4, 2) := by decide +kernel
theorem dX11_patch_20 : decode cX11_patch 20 = .ok (.aload_n 0, 1) := by decide +kernel
theorem dX11_patch_21 : decode cX11_patch 21 = .ok (.getfield 32, 3) := by decide +kernel
theorem dX11_patch_24 : decode cX11_patch 24 = .ok (.invokevirtual 245, 3) := by decide +kernel
theorem dX11_patch_27 : decode cX11_patch 27 = .ok (.aload_n 0, 1) := by decide +kernel
theorem dX11_patch_28 : decode cX11_patch 28 = .ok (.aload_n 0, 1) := by decide +kernel
theorem dX11_patch_29 : decode cX11_patch 29 = .ok (.getfield 32, 3) := by decide +kernel
theorem dX11_patch_32 : decode cX11_patch 32 = .ok (.invokevirtual 153, 3) := by decide +kernel
theorem dX11_patch_35 : decode cX11_patch 35 = .ok (.ireturn, 1) := by decide +kernel
theorem dX11_turn_0 : decode cX11_turn 0 = .ok (.aload_n 0, 1) := by decide +kernel
theorem dX11_turn_1 : decode cX11_turn 1 = .ok (.iload_n 1, 1) := by decide +kernel
theorem dX11_turn_2 : decode cX11_turn 2 = .ok (.invokevirtual 157, 3) := by decide +kernel
theorem dX11_turn_5 : decode cX11_turn 5 = .ok (.astore_n 3, 1) := by decide +kernel
theorem dX11_turn_6 : decode cX11_turn 6 = .ok (.aload_n 0, 1) := by decide +kernel
theorem dX11_turn_7 : decode cX11_turn 7 = .ok (.iload_n 2, 1) := by decide +kernel
theorem dX11_turn_8 : decode cX11_turn 8 = .ok (.invokevirtual 157, 3) := by decide +kernel
theorem dX11_turn_11 : decode cX11_turn 11 = .ok (.astore 4, 2) := by decide +kernel
theorem dX11_turn_13 : decode cX11_turn 13 = .ok (.aload 4, 2) := by decide +kernel
theorem dX11_turn_15 : decode cX11_turn 15 = .ok (.iconst 0, 1) := by decide +kernel
theorem dX11_turn_16 : decode cX11_turn 16 = .ok (.iconst 4, 1) := by decide +kernel
theorem dX11_turn_17 : decode cX11_turn 17 = .ok (.invokevirtual 191, 3) := by decide +kernel
theorem dX11_turn_20 : decode cX11_turn 20 = .ok (.ifCond .ne 11, 3) := by decide +kernel
theorem dX11_turn_23 : decode cX11_turn 23 = .ok (.new 124, 3) := by decide +kernel
theorem dX11_turn_26 : decode cX11_turn 26 = .ok (.dup, 1) := by decide +kernel
theorem dX11_turn_27 : decode cX11_turn 27 = .ok (.invokespecial 126, 3) := by decide +kernel
theorem dX11_turn_30 : decode cX11_turn 30 = .ok (.athrow, 1) := by decide +kernel
theorem dX11_turn_31 : decode cX11_turn 31 = .ok (.aload_n 0, 1) := by decide +kernel
theorem dX11_turn_32 : decode cX11_turn 32 = .ok (.getfield 70, 3) := by decide +kernel
theorem dX11_turn_35 : decode cX11_turn 35 = .ok (.aload_n 3, 1) := by decide +kernel
theorem dX11_turn_36 : decode cX11_turn 36 = .ok (.iconst 1, 1) := by decide +kernel
theorem dX11_turn_37 : decode cX11_turn 37 = .ok (.invokevirtual 226, 3) := by decide +kernel
theorem dX11_turn_40 : decode cX11_turn 40 = .ok (.aload_n 0, 1) := by decide +kernel
theorem dX11_turn_41 : decode cX11_turn 41 = .ok (.getfield 70, 3) := by decide +kernel
theorem dX11_turn_44 : decode cX11_turn 44 = .ok (.aload 4, 2) := by decide +kernel
theorem dX11_turn_46 : decode cX11_turn 46 = .ok (.invokevirtual 242, 3) := by decide +kernel
theorem dX11_turn_49 : decode cX11_turn 49 = .ok (.iconst (-1), 1) := by decide +kernel
theorem dX11_turn_50 : decode cX11_turn 50 = .ok (.if_icmp .eq 11, 3) := by decide +kernel
theorem dX11_turn_53 : decode cX11_turn 53 = .ok (.new 124, 3) := by decide +kernel
theorem dX11_turn_56 : decode cX11_turn 56 = .ok (.dup, 1) := by decide +kernel
theorem dX11_turn_57 : decode cX11_turn 57 = .ok (.invokespecial 126, 3) := by decide +kernel
theorem dX11_turn_60 : decode cX11_turn 60 = .ok (.athrow, 1) := by decide +kernel
theorem dX11_turn_61 : decode cX11_turn 61 = .ok (.aload_n 0, 1) := by decide +kernel
theorem dX11_turn_62 : decode cX11_turn 62 = .ok (.aload_n 0, 1) := by decide +kernel
theorem dX11_turn_63 : decode cX11_turn 63 = .ok (.getfield 70, 3) := by decide +kernel
theorem dX11_turn_66 : decode cX11_turn 66 = .ok (.invokevirtual 249, 3) := by decide +kernel
theorem dX11_turn_69 : decode cX11_turn 69 = .ok (.invokevirtual 153, 3) := by decide +kernel
theorem dX11_turn_72 : decode cX11_turn 72 = .ok (.ireturn, 1) := by decide +kernel
theorem dX11_join_0 : decode cX11_join 0 = .ok (.aload_n 0, 1) := by decide +kernel
theorem dX11_join_1 : decode cX11_join 1 = .ok (.iload_n 1, 1) := by decide +kernel
theorem dX11_join_2 : decode cX11_join 2 = .ok (.invokevirtual 157, 3) := by decide +kernel
theorem dX11_join_5 : decode cX11_join 5 = .ok (.astore 4, 2) := by decide +kernel
theorem dX11_join_7 : decode cX11_join 7 = .ok (.aload_n 0, 1) := by decide +kernel
theorem dX11_join_8 : decode cX11_join 8 = .ok (.iload_n 2, 1) := by decide +kernel
theorem dX11_join_9 : decode cX11_join 9 = .ok (.invokevirtual 157, 3) := by decide +kernel
theorem dX11_join_12 : decode cX11_join 12 = .ok (.astore 5, 2) := by decide +kernel
theorem dX11_join_14 : decode cX11_join 14 = .ok (.aload_n 0, 1) := by decide +kernel
theorem dX11_join_15 : decode cX11_join 15 = .ok (.iload_n 3, 1) := by decide +kernel
theorem dX11_join_16 : decode cX11_join 16 = .ok (.invokevirtual 157, 3) := by decide +kernel
theorem dX11_join_19 : decode cX11_join 19 = .ok (.astore 6, 2) := by decide +kernel
theorem dX11_join_21 : decode cX11_join 21 = .ok (.aload_n 0, 1) := by decide +kernel
theorem dX11_join_22 : decode cX11_join 22 = .ok (.getfield 77, 3) := by decide +kernel
theorem dX11_join_25 : decode cX11_join 25 = .ok (.aload 4, 2) := by decide +kernel
theorem dX11_join_27 : decode cX11_join 27 = .ok (.aload 5, 2) := by decide +kernel
theorem dX11_join_29 : decode cX11_join 29 = .ok (.aload 6, 2) := by decide +kernel
theorem dX11_join_31 : decode cX11_join 31 = .ok (.invokevirtual 252, 3) := by decide +kernel
theorem dX11_join_34 : decode cX11_join 34 = .ok (.ifCond .ne 5, 3) := by decide +kernel
theorem dX11_join_37 : decode cX11_join 37 = .ok (.iconst (-1), 1) := by decide +kernel
theorem dX11_join_38 : decode cX11_join 38 = .ok (.ireturn, 1) := by decide +kernel
theorem dX11_join_39 : decode cX11_join 39 = .ok (.aload_n 0, 1) := by decide +kernel
theorem dX11_join_40 : decode cX11_join 40 = .ok (.aload_n 0, 1) := by decide +kernel
theorem dX11_join_41 : decode cX11_join 41 = .ok (.getfield 77, 3) := by decide +kernel
theorem dX11_join_44 : decode cX11_join 44 = .ok (.invokevirtual 256, 3) := by decide +kernel
theorem dX11_join_47 : decode cX11_join 47 = .ok (.invokevirtual 153, 3) := by decide +kernel
theorem dX11_join_50 : decode cX11_join 50 = .ok (.istore 7, 2) := by decide +kernel
theorem dX11_join_52 : decode cX11_join 52 = .ok (.aload_n 0, 1) := by decide +kernel
theorem dX11_join_53 : decode cX11_join 53 = .ok (.getfield 77, 3) := by decide +kernel
theorem dX11_join_56 : decode cX11_join 56 = .ok (.invokevirtual 257, 3) := by decide +kernel
theorem dX11_join_59 : decode cX11_join 59 = .ok (.iload 7, 2) := by decide +kernel
theorem dX11_join_61 : decode cX11_join 61 = .ok (.ireturn, 1) := by decide +kernel
theorem dX11_quarrels_0 : decode cX11_quarrels 0 = .ok (.aload_n 0, 1) := by decide +kernel
theorem dX11_quarrels_1 : decode cX11_quarrels 1 = .ok (.getfield 77, 3) := by decide +kernel
theorem dX11_quarrels_4 : decode cX11_quarrels 4 = .ok (.invokevirtual 260, 3) := by decide +kernel
theorem dX11_quarrels_7 : decode cX11_quarrels 7 = .ok (.ireturn, 1) := by decide +kernel
theorem dX11_quarrel_0 : decode cX11_quarrel 0 = .ok (.iload_n 1, 1) := by decide +kernel
theorem dX11_quarrel_1 : decode cX11_quarrel 1 = .ok (.ifCond .lt 14, 3) := by decide +kernel
theorem dX11_quarrel_4 : decode cX11_quarrel 4 = .ok (.iload_n 1, 1) := by decide +kernel
theorem dX11_quarrel_5 : decode cX11_quarrel 5 = .ok (.aload_n 0, 1) := by decide +kernel
theorem dX11_quarrel_6 : decode cX11_quarrel 6 = .ok (.getfield 77, 3) := by decide +kernel
theorem dX11_quarrel_9 : decode cX11_quarrel 9 = .ok (.invokevirtual 260, 3) := by decide +kernel
theorem dX11_quarrel_12 : decode cX11_quarrel 12 = .ok (.if_icmp .lt 11, 3) := by decide +kernel
theorem dX11_quarrel_15 : decode cX11_quarrel 15 = .ok (.new 137, 3) := by decide +kernel
theorem dX11_quarrel_18 : decode cX11_quarrel 18 = .ok (.dup, 1) := by decide +kernel
theorem dX11_quarrel_19 : decode cX11_quarrel 19 = .ok (.invokespecial 139, 3) := by decide +kernel
theorem dX11_quarrel_22 : decode cX11_quarrel 22 = .ok (.athrow, 1) := by decide +kernel
theorem dX11_quarrel_23 : decode cX11_quarrel 23 = .ok (.aload_n 0, 1) := by decide +kernel
theorem dX11_quarrel_24 : decode cX11_quarrel 24 = .ok (.getfield 19, 3) := by decide +kernel
theorem dX11_quarrel_27 : decode cX11_quarrel 27 = .ok (.invokevirtual 134, 3) := by decide +kernel
theorem dX11_quarrel_30 : decode cX11_quarrel 30 = .ok (.aload_n 0, 1) := by decide +kernel
theorem dX11_quarrel_31 : decode cX11_quarrel 31 = .ok (.getfield 77, 3) := by decide +kernel
theorem dX11_quarrel_34 : decode cX11_quarrel 34 = .ok (.iload_n 1, 1) := by decide +kernel
theorem dX11_quarrel_35 : decode cX11_quarrel 35 = .ok (.aload_n 0, 1) := by decide +kernel
theorem dX11_quarrel_36 : decode cX11_quarrel 36 = .ok (.getfield 19, 3) := by decide +kernel
theorem dX11_quarrel_39 : decode cX11_quarrel 39 = .ok (.invokevirtual 261, 3) := by decide +kernel
theorem dX11_quarrel_42 : decode cX11_quarrel 42 = .ok (.aload_n 0, 1) := by decide +kernel
theorem dX11_quarrel_43 : decode cX11_quarrel 43 = .ok (.getfield 19, 3) := by decide +kernel
theorem dX11_quarrel_46 : decode cX11_quarrel 46 = .ok (.invokevirtual 120, 3) := by decide +kernel
theorem dX11_quarrel_49 : decode cX11_quarrel 49 = .ok (.ireturn, 1) := by decide +kernel
theorem dX11_standard_0 : decode cX11_standard 0 = .ok (.aload_n 0, 1) := by decide +kernel
theorem dX11_standard_1 : decode cX11_standard 1 = .ok (.aload_n 0, 1) := by decide +kernel
theorem dX11_standard_2 : decode cX11_standard 2 = .ok (.getfield 36, 3) := by decide +kernel
theorem dX11_standard_5 : decode cX11_standard 5 = .ok (.invokevirtual 153, 3) := by decide +kernel
theorem dX11_standard_8 : decode cX11_standard 8 = .ok (.ireturn, 1) := by decide +kernel
theorem dX11_check_0 : decode cX11_check 0 = .ok (.aload_n 0, 1) := by decide +kernel
theorem dX11_check_1 : decode cX11_check 1 = .ok (.iload_n 1, 1) := by decide +kernel
theorem dX11_check_2 : decode cX11_check 2 = .ok (.invokevirtual 157, 3) := by decide +kernel
theorem dX11_check_5 : decode cX11_check 5 = .ok (.astore_n 3, 1) := by decide +kernel
theorem dX11_check_6 : decode cX11_check 6 = .ok (.aload_n 0, 1) := by decide +kernel
theorem dX11_check_7 : decode cX11_check 7 = .ok (.iload_n 2, 1) := by decide +kernel
theorem dX11_check_8 : decode cX11_check 8 = .ok (.invokevirtual 157, 3) := by decide +kernel
theorem dX11_check_11 : decode cX11_check 11 = .ok (.astore 4, 2) := by decide +kernel
theorem dX11_check_13 : decode cX11_check 13 = .ok (.aload_n 0, 1) := by decide +kernel
theorem dX11_check_14 : decode cX11_check 14 = .ok (.getfield 84, 3) := by decide +kernel
theorem dX11_check_17 : decode cX11_check 17 = .ok (.aload_n 0, 1) := by decide +kernel
theorem dX11_check_18 : decode cX11_check 18 = .ok (.getfield 36, 3) := by decide +kernel
theorem dX11_check_21 : decode cX11_check 21 = .ok (.aload_n 3, 1) := by decide +kernel
theorem dX11_check_22 : decode cX11_check 22 = .ok (.invokevirtual 262, 3) := by decide +kernel
theorem dX11_check_25 : decode cX11_check 25 = .ok (.ifCond .eq 16, 3) := by decide +kernel
theorem dX11_check_28 : decode cX11_check 28 = .ok (.aload_n 0, 1) := by decide +kernel
theorem dX11_check_29 : decode cX11_check 29 = .ok (.getfield 84, 3) := by decide +kernel
theorem dX11_check_32 : decode cX11_check 32 = .ok (.aload_n 3, 1) := by decide +kernel
theorem dX11_check_33 : decode cX11_check 33 = .ok (.aload 4, 2) := by decide +kernel
theorem dX11_check_35 : decode cX11_check 35 = .ok (.invokevirtual 266, 3) := by decide +kernel
theorem dX11_check_38 : decode cX11_check 38 = .ok (.ifCond .ne 11, 3) := by decide +kernel
theorem dX11_check_41 : decode cX11_check 41 = .ok (.new 124, 3) := by decide +kernel
theorem dX11_check_44 : decode cX11_check 44 = .ok (.dup, 1) := by decide +kernel
theorem dX11_check_45 : decode cX11_check 45 = .ok (.invokespecial 126, 3) := by decide +kernel
theorem dX11_check_48 : decode cX11_check 48 = .ok (.athrow, 1) := by decide +kernel
theorem dX11_check_49 : decode cX11_check 49 = .ok (.aload_n 0, 1) := by decide +kernel
theorem dX11_check_50 : decode cX11_check 50 = .ok (.getfield 84, 3) := by decide +kernel
theorem dX11_check_53 : decode cX11_check 53 = .ok (.invokevirtual 269, 3) := by decide +kernel
theorem dX11_check_56 : decode cX11_check 56 = .ok (.ireturn, 1) := by decide +kernel
theorem dX11_complaint_0 : decode cX11_complaint 0 = .ok (.iload_n 1, 1) := by decide +kernel
theorem dX11_complaint_1 : decode cX11_complaint 1 = .ok (.ifCond .lt 14, 3) := by decide +kernel
theorem dX11_complaint_4 : decode cX11_complaint 4 = .ok (.iload_n 1, 1) := by decide +kernel
theorem dX11_complaint_5 : decode cX11_complaint 5 = .ok (.aload_n 0, 1) := by decide +kernel
theorem dX11_complaint_6 : decode cX11_complaint 6 = .ok (.getfield 84, 3) := by decide +kernel
theorem dX11_complaint_9 : decode cX11_complaint 9 = .ok (.invokevirtual 269, 3) := by decide +kernel
theorem dX11_complaint_12 : decode cX11_complaint 12 = .ok (.if_icmp .lt 11, 3) := by decide +kernel
theorem dX11_complaint_15 : decode cX11_complaint 15 = .ok (.new 137, 3) := by decide +kernel
theorem dX11_complaint_18 : decode cX11_complaint 18 = .ok (.dup, 1) := by decide +kernel
theorem dX11_complaint_19 : decode cX11_complaint 19 = .ok (.invokespecial 139, 3) := by decide +kernel
theorem dX11_complaint_22 : decode cX11_complaint 22 = .ok (.athrow, 1) := by decide +kernel
theorem dX11_complaint_23 : decode cX11_complaint 23 = .ok (.iload_n 2, 1) := by decide +kernel
theorem dX11_complaint_24 : decode cX11_complaint 24 = .ok (.ifCond .lt 8, 3) := by decide +kernel
theorem dX11_complaint_27 : decode cX11_complaint 27 = .ok (.iload_n 2, 1) := by decide +kernel
theorem dX11_complaint_28 : decode cX11_complaint 28 = .ok (.iconst 1, 1) := by decide +kernel
theorem dX11_complaint_29 : decode cX11_complaint 29 = .ok (.if_icmp .le 11, 3) := by decide +kernel
theorem dX11_complaint_32 : decode cX11_complaint 32 = .ok (.new 117, 3) := by decide +kernel
theorem dX11_complaint_35 : decode cX11_complaint 35 = .ok (.dup, 1) := by decide +kernel
theorem dX11_complaint_36 : decode cX11_complaint 36 = .ok (.invokespecial 119, 3) := by decide +kernel
theorem dX11_complaint_39 : decode cX11_complaint 39 = .ok (.athrow, 1) := by decide +kernel
theorem dX11_complaint_40 : decode cX11_complaint 40 = .ok (.iload_n 2, 1) := by decide +kernel
theorem dX11_complaint_41 : decode cX11_complaint 41 = .ok (.ifCond .ne 14, 3) := by decide +kernel
theorem dX11_complaint_44 : decode cX11_complaint 44 = .ok (.aload_n 0, 1) := by decide +kernel
theorem dX11_complaint_45 : decode cX11_complaint 45 = .ok (.getfield 84, 3) := by decide +kernel
theorem dX11_complaint_48 : decode cX11_complaint 48 = .ok (.iload_n 1, 1) := by decide +kernel
theorem dX11_complaint_49 : decode cX11_complaint 49 = .ok (.invokevirtual 270, 3) := by decide +kernel
theorem dX11_complaint_52 : decode cX11_complaint 52 = .ok (.goto 11, 3) := by decide +kernel
theorem dX11_complaint_55 : decode cX11_complaint 55 = .ok (.aload_n 0, 1) := by decide +kernel
theorem dX11_complaint_56 : decode cX11_complaint 56 = .ok (.getfield 84, 3) := by decide +kernel
theorem dX11_complaint_59 : decode cX11_complaint 59 = .ok (.iload_n 1, 1) := by decide +kernel
theorem dX11_complaint_60 : decode cX11_complaint 60 = .ok (.invokevirtual 273, 3) := by decide +kernel
theorem dX11_complaint_63 : decode cX11_complaint 63 = .ok (.ireturn, 1) := by decide +kernel
theorem dX11_columns_0 : decode cX11_columns 0 = .ok (.aload_n 0, 1) := by decide +kernel
theorem dX11_columns_1 : decode cX11_columns 1 = .ok (.iload_n 1, 1) := by decide +kernel
theorem dX11_columns_2 : decode cX11_columns 2 = .ok (.invokevirtual 157, 3) := by decide +kernel
theorem dX11_columns_5 : decode cX11_columns 5 = .ok (.astore_n 2, 1) := by decide +kernel
theorem dX11_columns_6 : decode cX11_columns 6 = .ok (.aload_n 2, 1) := by decide +kernel
theorem dX11_columns_7 : decode cX11_columns 7 = .ok (.iconst 0, 1) := by decide +kernel
theorem dX11_columns_8 : decode cX11_columns 8 = .ok (.iconst 4, 1) := by decide +kernel
theorem dX11_columns_9 : decode cX11_columns 9 = .ok (.invokevirtual 191, 3) := by decide +kernel
theorem dX11_columns_12 : decode cX11_columns 12 = .ok (.ifCond .eq 12, 3) := by decide +kernel
theorem dX11_columns_15 : decode cX11_columns 15 = .ok (.aload_n 2, 1) := by decide +kernel
theorem dX11_columns_16 : decode cX11_columns 16 = .ok (.iconst 0, 1) := by decide +kernel
theorem dX11_columns_17 : decode cX11_columns 17 = .ok (.iconst 5, 1) := by decide +kernel
theorem dX11_columns_18 : decode cX11_columns 18 = .ok (.invokevirtual 276, 3) := by decide +kernel
theorem dX11_columns_21 : decode cX11_columns 21 = .ok (.ifCond .ne 11, 3) := by decide +kernel
theorem dX11_columns_24 : decode cX11_columns 24 = .ok (.new 124, 3) := by decide +kernel
theorem dX11_columns_27 : decode cX11_columns 27 = .ok (.dup, 1) := by decide +kernel
theorem dX11_columns_28 : decode cX11_columns 28 = .ok (.invokespecial 126, 3) := by decide +kernel
theorem dX11_columns_31 : decode cX11_columns 31 = .ok (.athrow, 1) := by decide +kernel
theorem dX11_columns_32 : decode cX11_columns 32 = .ok (.aload_n 2, 1) := by decide +kernel
theorem dX11_columns_33 : decode cX11_columns 33 = .ok (.aload_n 0, 1) := by decide +kernel
theorem dX11_columns_34 : decode cX11_columns 34 = .ok (.getfield 32, 3) := by decide +kernel
theorem dX11_columns_37 : decode cX11_columns 37 = .ok (.invokestatic 279, 3) := by decide +kernel
theorem dX11_columns_40 : decode cX11_columns 40 = .ok (.aload_n 0, 1) := by decide +kernel
theorem dX11_columns_41 : decode cX11_columns 41 = .ok (.aload_n 0, 1) := by decide +kernel
theorem dX11_columns_42 : decode cX11_columns 42 = .ok (.getfield 32, 3) := by decide +kernel
theorem dX11_columns_45 : decode cX11_columns 45 = .ok (.invokevirtual 153, 3) := by decide +kernel
theorem dX11_columns_48 : decode cX11_columns 48 = .ok (.ireturn, 1) := by decide +kernel
theorem dX11_rows_0 : decode cX11_rows 0 = .ok (.aload_n 0, 1) := by decide +kernel
theorem dX11_rows_1 : decode cX11_rows 1 = .ok (.iload_n 1, 1) := by decide +kernel
theorem dX11_rows_2 : decode cX11_rows 2 = .ok (.invokevirtual 157, 3) := by decide +kernel
theorem dX11_rows_5 : decode cX11_rows 5 = .ok (.astore_n 2, 1) := by decide +kernel
theorem dX11_rows_6 : decode cX11_rows 6 = .ok (.aload_n 2, 1) := by decide +kernel
theorem dX11_rows_7 : decode cX11_rows 7 = .ok (.invokestatic 283, 3) := by decide +kernel
theorem dX11_rows_10 : decode cX11_rows 10 = .ok (.ifCond .ne 11, 3) := by decide +kernel
theorem dX11_rows_13 : decode cX11_rows 13 = .ok (.new 124, 3) := by decide +kernel
theorem dX11_rows_16 : decode cX11_rows 16 = .ok (.dup, 1) := by decide +kernel
theorem dX11_rows_17 : decode cX11_rows 17 = .ok (.invokespecial 126, 3) := by decide +kernel
theorem dX11_rows_20 : decode cX11_rows 20 = .ok (.athrow, 1) := by decide +kernel
theorem dX11_rows_21 : decode cX11_rows 21 = .ok (.aload_n 2, 1) := by decide +kernel
theorem dX11_rows_22 : decode cX11_rows 22 = .ok (.aload_n 0, 1) := by decide +kernel
theorem dX11_rows_23 : decode cX11_rows 23 = .ok (.getfield 32, 3) := by decide +kernel
theorem dX11_rows_26 : decode cX11_rows 26 = .ok (.invokestatic 287, 3) := by decide +kernel
theorem dX11_rows_29 : decode cX11_rows 29 = .ok (.aload_n 0, 1) := by decide +kernel
theorem dX11_rows_30 : decode cX11_rows 30 = .ok (.aload_n 0, 1) := by decide +kernel
theorem dX11_rows_31 : decode cX11_rows 31 = .ok (.getfield 32, 3) := by decide +kernel
theorem dX11_rows_34 : decode cX11_rows 34 = .ok (.invokevirtual 153, 3) := by decide +kernel
theorem dX11_rows_37 : decode cX11_rows 37 = .ok (.ireturn, 1) := by decide +kernel
theorem dX11_grow_0 : decode cX11_grow 0 = .ok (.iload_n 1, 1) := by decide +kernel
theorem dX11_grow_1 : decode cX11_grow 1 = .ok (.ifCond .lt 20, 3) := by decide +kernel
theorem dX11_grow_4 : decode cX11_grow 4 = .ok (.iload_n 1, 1) := by decide +kernel
theorem dX11_grow_5 : decode cX11_grow 5 = .ok (.ldc_w 290, 3) := by decide +kernel
theorem dX11_grow_8 : decode cX11_grow 8 = .ok (.if_icmp .ge 13, 3) := by decide +kernel
theorem dX11_grow_11 : decode cX11_grow 11 = .ok (.iload_n 2, 1) := by decide +kernel
theorem dX11_grow_12 : decode cX11_grow 12 = .ok (.iconst 1, 1) := by decide +kernel
theorem dX11_grow_13 : decode cX11_grow 13 = .ok (.if_icmp .lt 8, 3) := by decide +kernel
theorem dX11_grow_16 : decode cX11_grow 16 = .ok (.iload_n 2, 1) := by decide +kernel
theorem dX11_grow_17 : decode cX11_grow 17 = .ok (.iconst 3, 1) := by decide +kernel
theorem dX11_grow_18 : decode cX11_grow 18 = .ok (.if_icmp .le 11, 3) := by decide +kernel
theorem dX11_grow_21 : decode cX11_grow 21 = .ok (.new 117, 3) := by decide +kernel
theorem dX11_grow_24 : decode cX11_grow 24 = .ok (.dup, 1) := by decide +kernel
theorem dX11_grow_25 : decode cX11_grow 25 = .ok (.invokespecial 119, 3) := by decide +kernel
theorem dX11_grow_28 : decode cX11_grow 28 = .ok (.athrow, 1) := by decide +kernel
theorem dX11_grow_29 : decode cX11_grow 29 = .ok (.aload_n 0, 1) := by decide +kernel
theorem dX11_grow_30 : decode cX11_grow 30 = .ok (.getfield 91, 3) := by decide +kernel
theorem dX11_grow_33 : decode cX11_grow 33 = .ok (.iload_n 1, 1) := by decide +kernel
theorem dX11_grow_34 : decode cX11_grow 34 = .ok (.invokevirtual 291, 3) := by decide +kernel
theorem dX11_grow_37 : decode cX11_grow 37 = .ok (.aload_n 0, 1) := by decide +kernel
theorem dX11_grow_38 : decode cX11_grow 38 = .ok (.getfield 91, 3) := by decide +kernel
theorem dX11_grow_41 : decode cX11_grow 41 = .ok (.iconst 0, 1) := by decide +kernel
theorem dX11_grow_42 : decode cX11_grow 42 = .ok (.iload_n 2, 1) := by decide +kernel
theorem dX11_grow_43 : decode cX11_grow 43 = .ok (.invokevirtual 293, 3) := by decide +kernel
theorem dX11_grow_46 : decode cX11_grow 46 = .ok (.pop, 1) := by decide +kernel
theorem dX11_grow_47 : decode cX11_grow 47 = .ok (.aload_n 0, 1) := by decide +kernel
theorem dX11_grow_48 : decode cX11_grow 48 = .ok (.aload_n 0, 1) := by decide +kernel
theorem dX11_grow_49 : decode cX11_grow 49 = .ok (.getfield 91, 3) := by decide +kernel
theorem dX11_grow_52 : decode cX11_grow 52 = .ok (.invokevirtual 296, 3) := by decide +kernel
theorem dX11_grow_55 : decode cX11_grow 55 = .ok (.invokevirtual 153, 3) := by decide +kernel
theorem dX11_grow_58 : decode cX11_grow 58 = .ok (.ireturn, 1) := by decide +kernel
theorem dX11_vary_0 : decode cX11_vary 0 = .ok (.aload_n 0, 1) := by decide +kernel
theorem dX11_vary_1 : decode cX11_vary 1 = .ok (.iload_n 1, 1) := by decide +kernel
theorem dX11_vary_2 : decode cX11_vary 2 = .ok (.invokevirtual 157, 3) := by decide +kernel
theorem dX11_vary_5 : decode cX11_vary 5 = .ok (.astore_n 3, 1) := by decide +kernel
theorem dX11_vary_6 : decode cX11_vary 6 = .ok (.iload_n 2, 1) := by decide +kernel
theorem dX11_vary_7 : decode cX11_vary 7 = .ok (.ifCond .lt 10, 3) := by decide +kernel
theorem dX11_vary_10 : decode cX11_vary 10 = .ok (.iload_n 2, 1) := by decide +kernel
theorem dX11_vary_11 : decode cX11_vary 11 = .ok (.ldc_w 290, 3) := by decide +kernel
theorem dX11_vary_14 : decode cX11_vary 14 = .ok (.if_icmp .lt 11, 3) := by decide +kernel
theorem dX11_vary_17 : decode cX11_vary 17 = .ok (.new 117, 3) := by decide +kernel
theorem dX11_vary_20 : decode cX11_vary 20 = .ok (.dup, 1) := by decide +kernel
theorem dX11_vary_21 : decode cX11_vary 21 = .ok (.invokespecial 119, 3) := by decide +kernel
theorem dX11_vary_24 : decode cX11_vary 24 = .ok (.athrow, 1) := by decide +kernel
theorem dX11_vary_25 : decode cX11_vary 25 = .ok (.aload_n 0, 1) := by decide +kernel
theorem dX11_vary_26 : decode cX11_vary 26 = .ok (.getfield 91, 3) := by decide +kernel
theorem dX11_vary_29 : decode cX11_vary 29 = .ok (.iload_n 2, 1) := by decide +kernel
theorem dX11_vary_30 : decode cX11_vary 30 = .ok (.invokevirtual 291, 3) := by decide +kernel
theorem dX11_vary_33 : decode cX11_vary 33 = .ok (.aload_n 0, 1) := by decide +kernel
theorem dX11_vary_34 : decode cX11_vary 34 = .ok (.getfield 91, 3) := by decide +kernel
theorem dX11_vary_37 : decode cX11_vary 37 = .ok (.aload_n 3, 1) := by decide +kernel
theorem dX11_vary_38 : decode cX11_vary 38 = .ok (.invokevirtual 297, 3) := by decide +kernel
theorem dX11_vary_41 : decode cX11_vary 41 = .ok (.invokevirtual 298, 3) := by decide +kernel
theorem dX11_vary_44 : decode cX11_vary 44 = .ok (.istore 4, 2) := by decide +kernel
theorem dX11_vary_46 : decode cX11_vary 46 = .ok (.aload_n 0, 1) := by decide +kernel
theorem dX11_vary_47 : decode cX11_vary 47 = .ok (.getfield 91, 3) := by decide +kernel
theorem dX11_vary_50 : decode cX11_vary 50 = .ok (.iconst 2, 1) := by decide +kernel
theorem dX11_vary_51 : decode cX11_vary 51 = .ok (.iconst 2, 1) := by decide +kernel
theorem dX11_vary_52 : decode cX11_vary 52 = .ok (.invokevirtual 293, 3) := by decide +kernel
theorem dX11_vary_55 : decode cX11_vary 55 = .ok (.pop, 1) := by decide +kernel
theorem dX11_vary_56 : decode cX11_vary 56 = .ok (.aload_n 0, 1) := by decide +kernel
theorem dX11_vary_57 : decode cX11_vary 57 = .ok (.getfield 32, 3) := by decide +kernel
theorem dX11_vary_60 : decode cX11_vary 60 = .ok (.aload_n 3, 1) := by decide +kernel
theorem dX11_vary_61 : decode cX11_vary 61 = .ok (.iconst 0, 1) := by decide +kernel
theorem dX11_vary_62 : decode cX11_vary 62 = .ok (.invokevirtual 109, 3) := by decide +kernel
theorem dX11_vary_65 : decode cX11_vary 65 = .ok (.aload_n 0, 1) := by decide +kernel
theorem dX11_vary_66 : decode cX11_vary 66 = .ok (.getfield 32, 3) := by decide +kernel
theorem dX11_vary_69 : decode cX11_vary 69 = .ok (.iload 4, 2) := by decide +kernel
theorem dX11_vary_71 : decode cX11_vary 71 = .ok (.aload_n 0, 1) := by decide +kernel
theorem dX11_vary_72 : decode cX11_vary 72 = .ok (.getfield 91, 3) := by decide +kernel
theorem dX11_vary_75 : decode cX11_vary 75 = .ok (.invokevirtual 296, 3) := by decide +kernel
theorem dX11_vary_78 : decode cX11_vary 78 = .ok (.iconst 0, 1) := by decide +kernel
theorem dX11_vary_79 : decode cX11_vary 79 = .ok (.invokevirtual 301, 3) := by decide +kernel
theorem dX11_vary_82 : decode cX11_vary 82 = .ok (.aload_n 0, 1) := by decide +kernel
theorem dX11_vary_83 : decode cX11_vary 83 = .ok (.aload_n 0, 1) := by decide +kernel
theorem dX11_vary_84 : decode cX11_vary 84 = .ok (.getfield 32, 3) := by decide +kernel
theorem dX11_vary_87 : decode cX11_vary 87 = .ok (.invokevirtual 153, 3) := by decide +kernel
theorem dX11_vary_90 : decode cX11_vary 90 = .ok (.ireturn, 1) := by decide +kernel
theorem dX11_sum_0 : decode cX11_sum 0 = .ok (.iload_n 1, 1) := by decide +kernel
theorem dX11_sum_1 : decode cX11_sum 1 = .ok (.ifCond .lt 9, 3) := by decide +kernel
theorem dX11_sum_4 : decode cX11_sum 4 = .ok (.iload_n 1, 1) := by decide +kernel
theorem dX11_sum_5 : decode cX11_sum 5 = .ok (.bipush 6, 2) := by decide +kernel
theorem dX11_sum_7 : decode cX11_sum 7 = .ok (.if_icmp .le 11, 3) := by decide +kernel
theorem dX11_sum_10 : decode cX11_sum 10 = .ok (.new 117, 3) := by decide +kernel
theorem dX11_sum_13 : decode cX11_sum 13 = .ok (.dup, 1) := by decide +kernel
theorem dX11_sum_14 : decode cX11_sum 14 = .ok (.invokespecial 119, 3) := by decide +kernel
theorem dX11_sum_17 : decode cX11_sum 17 = .ok (.athrow, 1) := by decide +kernel
theorem dX11_sum_18 : decode cX11_sum 18 = .ok (.iload_n 1, 1) := by decide +kernel
theorem dX11_sum_19 : decode cX11_sum 19 = .ok (.tableswitch 79 0 5 #[37, 42, 50, 58, 63, 71], 37) := by decide +kernel
theorem dX11_sum_56 : decode cX11_sum 56 = .ok (.aload_n 0, 1) := by decide +kernel
theorem dX11_sum_57 : decode cX11_sum 57 = .ok (.getfield 150, 3) := by decide +kernel
theorem dX11_sum_60 : decode cX11_sum 60 = .ok (.ireturn, 1) := by decide +kernel
theorem dX11_sum_61 : decode cX11_sum 61 = .ok (.aload_n 0, 1) := by decide +kernel
theorem dX11_sum_62 : decode cX11_sum 62 = .ok (.getfield 14, 3) := by decide +kernel
theorem dX11_sum_65 : decode cX11_sum 65 = .ok (.invokevirtual 120, 3) := by decide +kernel
theorem dX11_sum_68 : decode cX11_sum 68 = .ok (.ireturn, 1) := by decide +kernel
theorem dX11_sum_69 : decode cX11_sum 69 = .ok (.aload_n 0, 1) := by decide +kernel
theorem dX11_sum_70 : decode cX11_sum 70 = .ok (.getfield 19, 3) := by decide +kernel
theorem dX11_sum_73 : decode cX11_sum 73 = .ok (.invokevirtual 120, 3) := by decide +kernel
theorem dX11_sum_76 : decode cX11_sum 76 = .ok (.ireturn, 1) := by decide +kernel
theorem dX11_sum_77 : decode cX11_sum 77 = .ok (.aload_n 0, 1) := by decide +kernel
theorem dX11_sum_78 : decode cX11_sum 78 = .ok (.getfield 146, 3) := by decide +kernel
theorem dX11_sum_81 : decode cX11_sum 81 = .ok (.ireturn, 1) := by decide +kernel
theorem dX11_sum_82 : decode cX11_sum 82 = .ok (.aload_n 0, 1) := by decide +kernel
theorem dX11_sum_83 : decode cX11_sum 83 = .ok (.getfield 56, 3) := by decide +kernel
theorem dX11_sum_86 : decode cX11_sum 86 = .ok (.invokevirtual 223, 3) := by decide +kernel
theorem dX11_sum_89 : decode cX11_sum 89 = .ok (.ireturn, 1) := by decide +kernel
theorem dX11_sum_90 : decode cX11_sum 90 = .ok (.aload_n 0, 1) := by decide +kernel
theorem dX11_sum_91 : decode cX11_sum 91 = .ok (.getfield 84, 3) := by decide +kernel
theorem dX11_sum_94 : decode cX11_sum 94 = .ok (.invokevirtual 269, 3) := by decide +kernel
theorem dX11_sum_97 : decode cX11_sum 97 = .ok (.ireturn, 1) := by decide +kernel
theorem dX11_sum_98 : decode cX11_sum 98 = .ok (.aload_n 0, 1) := by decide +kernel
theorem dX11_sum_99 : decode cX11_sum 99 = .ok (.invokevirtual 305, 3) := by decide +kernel
theorem dX11_sum_102 : decode cX11_sum 102 = .ok (.ireturn, 1) := by decide +kernel
theorem dX11_isSound_0 : decode cX11_isSound 0 = .ok (.aload_n 0, 1) := by decide +kernel
theorem dX11_isSound_1 : decode cX11_isSound 1 = .ok (.iload_n 1, 1) := by decide +kernel
theorem dX11_isSound_2 : decode cX11_isSound 2 = .ok (.invokevirtual 157, 3) := by decide +kernel
theorem dX11_isSound_5 : decode cX11_isSound 5 = .ok (.astore_n 2, 1) := by decide +kernel
theorem dX11_isSound_6 : decode cX11_isSound 6 = .ok (.aload_n 2, 1) := by decide +kernel
theorem dX11_isSound_7 : decode cX11_isSound 7 = .ok (.invokevirtual 308, 3) := by decide +kernel
theorem dX11_isSound_10 : decode cX11_isSound 10 = .ok (.ifCond .eq 14, 3) := by decide +kernel
theorem dX11_isSound_13 : decode cX11_isSound 13 = .ok (.aload_n 2, 1) := by decide +kernel
theorem dX11_isSound_14 : decode cX11_isSound 14 = .ok (.invokevirtual 312, 3) := by decide +kernel
theorem dX11_isSound_17 : decode cX11_isSound 17 = .ok (.ifCond .eq 7, 3) := by decide +kernel
theorem dX11_isSound_20 : decode cX11_isSound 20 = .ok (.iconst 1, 1) := by decide +kernel
theorem dX11_isSound_21 : decode cX11_isSound 21 = .ok (.goto 4, 3) := by decide +kernel
theorem dX11_isSound_24 : decode cX11_isSound 24 = .ok (.iconst 0, 1) := by decide +kernel
theorem dX11_isSound_25 : decode cX11_isSound 25 = .ok (.istore_n 3, 1) := by decide +kernel
theorem dX11_isSound_26 : decode cX11_isSound 26 = .ok (.iconst 0, 1) := by decide +kernel
theorem dX11_isSound_27 : decode cX11_isSound 27 = .ok (.istore 4, 2) := by decide +kernel
theorem dX11_isSound_29 : decode cX11_isSound 29 = .ok (.iload 4, 2) := by decide +kernel
theorem dX11_isSound_31 : decode cX11_isSound 31 = .ok (.iconst 2, 1) := by decide +kernel
theorem dX11_isSound_32 : decode cX11_isSound 32 = .ok (.if_icmp .gt 71, 3) := by decide +kernel
theorem dX11_isSound_35 : decode cX11_isSound 35 = .ok (.iload_n 3, 1) := by decide +kernel
theorem dX11_isSound_36 : decode cX11_isSound 36 = .ok (.ifCond .eq 67, 3) := by decide +kernel
theorem dX11_isSound_39 : decode cX11_isSound 39 = .ok (.aload_n 0, 1) := by decide +kernel
theorem dX11_isSound_40 : decode cX11_isSound 40 = .ok (.getfield 22, 3) := by decide +kernel
theorem dX11_isSound_43 : decode cX11_isSound 43 = .ok (.invokevirtual 134, 3) := by decide +kernel
theorem dX11_isSound_46 : decode cX11_isSound 46 = .ok (.aload_n 2, 1) := by decide +kernel
theorem dX11_isSound_47 : decode cX11_isSound 47 = .ok (.iconst 0, 1) := by decide +kernel
theorem dX11_isSound_48 : decode cX11_isSound 48 = .ok (.iload 4, 2) := by decide +kernel
theorem dX11_isSound_50 : decode cX11_isSound 50 = .ok (.iconst 0, 1) := by decide +kernel
theorem dX11_isSound_51 : decode cX11_isSound 51 = .ok (.aload_n 0, 1) := by decide +kernel
theorem dX11_isSound_52 : decode cX11_isSound 52 = .ok (.getfield 22, 3) := by decide +kernel
theorem dX11_isSound_55 : decode cX11_isSound 55 = .ok (.invokestatic 161, 3) := by decide +kernel
theorem dX11_isSound_58 : decode cX11_isSound 58 = .ok (.aload_n 0, 1) := by decide +kernel
theorem dX11_isSound_59 : decode cX11_isSound 59 = .ok (.getfield 42, 3) := by decide +kernel
theorem dX11_isSound_62 : decode cX11_isSound 62 = .ok (.aload_n 0, 1) := by decide +kernel
theorem dX11_isSound_63 : decode cX11_isSound 63 = .ok (.getfield 22, 3) := by decide +kernel
theorem dX11_isSound_66 : decode cX11_isSound 66 = .ok (.iconst 0, 1) := by decide +kernel
theorem dX11_isSound_67 : decode cX11_isSound 67 = .ok (.invokevirtual 101, 3) := by decide +kernel
theorem dX11_isSound_70 : decode cX11_isSound 70 = .ok (.iconst (-1), 1) := by decide +kernel
theorem dX11_isSound_71 : decode cX11_isSound 71 = .ok (.if_icmp .ne 24, 3) := by decide +kernel
theorem dX11_isSound_74 : decode cX11_isSound 74 = .ok (.aload_n 0, 1) := by decide +kernel
theorem dX11_isSound_75 : decode cX11_isSound 75 = .ok (.getfield 42, 3) := by decide +kernel
theorem dX11_isSound_78 : decode cX11_isSound 78 = .ok (.invokevirtual 105, 3) := by decide +kernel
theorem dX11_isSound_81 : decode cX11_isSound 81 = .ok (.iconst 0, 1) := by decide +kernel
theorem dX11_isSound_82 : decode cX11_isSound 82 = .ok (.aload_n 2, 1) := by decide +kernel
theorem dX11_isSound_83 : decode cX11_isSound 83 = .ok (.iconst 0, 1) := by decide +kernel
theorem dX11_isSound_84 : decode cX11_isSound 84 = .ok (.iconst 0, 1) := by decide +kernel
theorem dX11_isSound_85 : decode cX11_isSound 85 = .ok (.invokevirtual 187, 3) := by decide +kernel
theorem dX11_isSound_88 : decode cX11_isSound 88 = .ok (.ifCond .eq 7, 3) := by decide +kernel
theorem dX11_isSound_91 : decode cX11_isSound 91 = .ok (.iconst 1, 1) := by decide +kernel
theorem dX11_isSound_92 : decode cX11_isSound 92 = .ok (.goto 4, 3) := by decide +kernel
theorem dX11_isSound_95 : decode cX11_isSound 95 = .ok (.iconst 0, 1) := by decide +kernel
theorem dX11_isSound_96 : decode cX11_isSound 96 = .ok (.istore_n 3, 1) := by decide +kernel
theorem dX11_isSound_97 : decode cX11_isSound 97 = .ok (.iinc 4 1, 3) := by decide +kernel
theorem dX11_isSound_100 : decode cX11_isSound 100 = .ok (.goto (-71), 3) := by decide +kernel
theorem dX11_isSound_103 : decode cX11_isSound 103 = .ok (.iload_n 3, 1) := by decide +kernel
theorem dX11_isSound_104 : decode cX11_isSound 104 = .ok (.ireturn, 1) := by decide +kernel
theorem dX11_letterAt_0 : decode cX11_letterAt 0 = .ok (.lload_n 0, 1) := by decide +kernel
theorem dX11_letterAt_1 : decode cX11_letterAt 1 = .ok (.bipush 8, 2) := by decide +kernel
theorem dX11_letterAt_3 : decode cX11_letterAt 3 = .ok (.iload_n 2, 1) := by decide +kernel
theorem dX11_letterAt_4 : decode cX11_letterAt 4 = .ok (.imul, 1) := by decide +kernel
theorem dX11_letterAt_5 : decode cX11_letterAt 5 = .ok (.lushr, 1) := by decide +kernel
theorem dX11_letterAt_6 : decode cX11_letterAt 6 = .ok (.l2i, 1) := by decide +kernel
theorem dX11_letterAt_7 : decode cX11_letterAt 7 = .ok (.sipush 255, 3) := by decide +kernel
theorem dX11_letterAt_10 : decode cX11_letterAt 10 = .ok (.iand, 1) := by decide +kernel
theorem dX11_letterAt_11 : decode cX11_letterAt 11 = .ok (.ireturn, 1) := by decide +kernel
theorem dX11_areSigns_0 : decode cX11_areSigns 0 = .ok (.iload_n 0, 1) := by decide +kernel
theorem dX11_areSigns_1 : decode cX11_areSigns 1 = .ok (.bipush 8, 2) := by decide +kernel
theorem dX11_areSigns_3 : decode cX11_areSigns 3 = .ok (.if_icmp .ge 16, 3) := by decide +kernel
theorem dX11_areSigns_6 : decode cX11_areSigns 6 = .ok (.lload_n 1, 1) := by decide +kernel
theorem dX11_areSigns_7 : decode cX11_areSigns 7 = .ok (.bipush 8, 2) := by decide +kernel
theorem dX11_areSigns_9 : decode cX11_areSigns 9 = .ok (.iload_n 0, 1) := by decide +kernel
theorem dX11_areSigns_10 : decode cX11_areSigns 10 = .ok (.imul, 1) := by decide +kernel
theorem dX11_areSigns_11 : decode cX11_areSigns 11 = .ok (.lushr, 1) := by decide +kernel
theorem dX11_areSigns_12 : decode cX11_areSigns 12 = .ok (.lconst 0, 1) := by decide +kernel
theorem dX11_areSigns_13 : decode cX11_areSigns 13 = .ok (.lcmp, 1) := by decide +kernel
theorem dX11_areSigns_14 : decode cX11_areSigns 14 = .ok (.ifCond .eq 5, 3) := by decide +kernel
theorem dX11_areSigns_17 : decode cX11_areSigns 17 = .ok (.iconst 0, 1) := by decide +kernel
theorem dX11_areSigns_18 : decode cX11_areSigns 18 = .ok (.ireturn, 1) := by decide +kernel
theorem dX11_areSigns_19 : decode cX11_areSigns 19 = .ok (.iconst 0, 1) := by decide +kernel
theorem dX11_areSigns_20 : decode cX11_areSigns 20 = .ok (.istore_n 3, 1) := by decide +kernel
theorem dX11_areSigns_21 : decode cX11_areSigns 21 = .ok (.iload_n 3, 1) := by decide +kernel
theorem dX11_areSigns_22 : decode cX11_areSigns 22 = .ok (.iload_n 0, 1) := by decide +kernel
theorem dX11_areSigns_23 : decode cX11_areSigns 23 = .ok (.if_icmp .ge 39, 3) := by decide +kernel
theorem dX11_areSigns_26 : decode cX11_areSigns 26 = .ok (.lload_n 1, 1) := by decide +kernel
theorem dX11_areSigns_27 : decode cX11_areSigns 27 = .ok (.iload_n 3, 1) := by decide +kernel
theorem dX11_areSigns_28 : decode cX11_areSigns 28 = .ok (.invokestatic 127, 3) := by decide +kernel
theorem dX11_areSigns_31 : decode cX11_areSigns 31 = .ok (.istore 4, 2) := by decide +kernel
theorem dX11_areSigns_33 : decode cX11_areSigns 33 = .ok (.iload 4, 2) := by decide +kernel
theorem dX11_areSigns_35 : decode cX11_areSigns 35 = .ok (.bipush 10, 2) := by decide +kernel
theorem dX11_areSigns_37 : decode cX11_areSigns 37 = .ok (.if_icmp .eq 19, 3) := by decide +kernel
theorem dX11_areSigns_40 : decode cX11_areSigns 40 = .ok (.iload 4, 2) := by decide +kernel
theorem dX11_areSigns_42 : decode cX11_areSigns 42 = .ok (.bipush 32, 2) := by decide +kernel
theorem dX11_areSigns_44 : decode cX11_areSigns 44 = .ok (.if_icmp .lt 10, 3) := by decide +kernel
theorem dX11_areSigns_47 : decode cX11_areSigns 47 = .ok (.iload 4, 2) := by decide +kernel
theorem dX11_areSigns_49 : decode cX11_areSigns 49 = .ok (.bipush 126, 2) := by decide +kernel
theorem dX11_areSigns_51 : decode cX11_areSigns 51 = .ok (.if_icmp .le 5, 3) := by decide +kernel
theorem dX11_areSigns_54 : decode cX11_areSigns 54 = .ok (.iconst 0, 1) := by decide +kernel
theorem dX11_areSigns_55 : decode cX11_areSigns 55 = .ok (.ireturn, 1) := by decide +kernel
theorem dX11_areSigns_56 : decode cX11_areSigns 56 = .ok (.iinc 3 1, 3) := by decide +kernel
theorem dX11_areSigns_59 : decode cX11_areSigns 59 = .ok (.goto (-38), 3) := by decide +kernel
theorem dX11_areSigns_62 : decode cX11_areSigns 62 = .ok (.iconst 1, 1) := by decide +kernel
theorem dX11_areSigns_63 : decode cX11_areSigns 63 = .ok (.ireturn, 1) := by decide +kernel
theorem dX11_canTell_0 : decode cX11_canTell 0 = .ok (.iload_n 2, 1) := by decide +kernel
theorem dX11_canTell_1 : decode cX11_canTell 1 = .ok (.tableswitch 52 0 2 #[27, 34, 41], 27) := by decide +kernel
theorem dX11_canTell_28 : decode cX11_canTell 28 = .ok (.aload_n 0, 1) := by decide +kernel
theorem dX11_canTell_29 : decode cX11_canTell 29 = .ok (.iload_n 1, 1) := by decide +kernel
theorem dX11_canTell_30 : decode cX11_canTell 30 = .ok (.iconst 3, 1) := by decide +kernel
theorem dX11_canTell_31 : decode cX11_canTell 31 = .ok (.invokevirtual 191, 3) := by decide +kernel
theorem dX11_canTell_34 : decode cX11_canTell 34 = .ok (.ireturn, 1) := by decide +kernel
theorem dX11_canTell_35 : decode cX11_canTell 35 = .ok (.aload_n 0, 1) := by decide +kernel
theorem dX11_canTell_36 : decode cX11_canTell 36 = .ok (.iload_n 1, 1) := by decide +kernel
theorem dX11_canTell_37 : decode cX11_canTell 37 = .ok (.iconst 2, 1) := by decide +kernel
theorem dX11_canTell_38 : decode cX11_canTell 38 = .ok (.invokevirtual 191, 3) := by decide +kernel
theorem dX11_canTell_41 : decode cX11_canTell 41 = .ok (.ireturn, 1) := by decide +kernel
theorem dX11_canTell_42 : decode cX11_canTell 42 = .ok (.aload_n 0, 1) := by decide +kernel
theorem dX11_canTell_43 : decode cX11_canTell 43 = .ok (.aload_n 0, 1) := by decide +kernel
theorem dX11_canTell_44 : decode cX11_canTell 44 = .ok (.iload_n 1, 1) := by decide +kernel
theorem dX11_canTell_45 : decode cX11_canTell 45 = .ok (.invokevirtual 315, 3) := by decide +kernel
theorem dX11_canTell_48 : decode cX11_canTell 48 = .ok (.iconst 5, 1) := by decide +kernel
theorem dX11_canTell_49 : decode cX11_canTell 49 = .ok (.invokevirtual 191, 3) := by decide +kernel
theorem dX11_canTell_52 : decode cX11_canTell 52 = .ok (.ireturn, 1) := by decide +kernel
theorem dX11_canTell_53 : decode cX11_canTell 53 = .ok (.iconst 1, 1) := by decide +kernel
theorem dX11_canTell_54 : decode cX11_canTell 54 = .ok (.ireturn, 1) := by decide +kernel
theorem dX11_document_0 : decode cX11_document 0 = .ok (.iload_n 1, 1) := by decide +kernel
theorem dX11_document_1 : decode cX11_document 1 = .ok (.ifCond .lt 29, 3) := by decide +kernel
theorem dX11_document_4 : decode cX11_document 4 = .ok (.iload_n 1, 1) := by decide +kernel
theorem dX11_document_5 : decode cX11_document 5 = .ok (.aload_n 0, 1) := by decide +kernel
theorem dX11_document_6 : decode cX11_document 6 = .ok (.getfield 150, 3) := by decide +kernel
theorem dX11_document_9 : decode cX11_document 9 = .ok (.if_icmp .ge 21, 3) := by decide +kernel
theorem dX11_document_12 : decode cX11_document 12 = .ok (.iload_n 1, 1) := by decide +kernel
theorem dX11_document_13 : decode cX11_document 13 = .ok (.aload_n 0, 1) := by decide +kernel
theorem dX11_document_14 : decode cX11_document 14 = .ok (.getfield 27, 3) := by decide +kernel
theorem dX11_document_17 : decode cX11_document 17 = .ok (.arraylength, 1) := by decide +kernel
theorem dX11_document_18 : decode cX11_document 18 = .ok (.if_icmp .ge 12, 3) := by decide +kernel
theorem dX11_document_21 : decode cX11_document 21 = .ok (.aload_n 0, 1) := by decide +kernel
theorem dX11_document_22 : decode cX11_document 22 = .ok (.getfield 27, 3) := by decide +kernel
theorem dX11_document_25 : decode cX11_document 25 = .ok (.iload_n 1, 1) := by decide +kernel
theorem dX11_document_26 : decode cX11_document 26 = .ok (.aaload, 1) := by decide +kernel
theorem dX11_document_27 : decode cX11_document 27 = .ok (.goto 4, 3) := by decide +kernel
theorem dX11_document_30 : decode cX11_document 30 = .ok (.aconst_null, 1) := by decide +kernel
theorem dX11_document_31 : decode cX11_document 31 = .ok (.astore_n 2, 1) := by decide +kernel
theorem dX11_document_32 : decode cX11_document 32 = .ok (.aload_n 2, 1) := by decide +kernel
theorem dX11_document_33 : decode cX11_document 33 = .ok (.ifnonnull 11, 3) := by decide +kernel
theorem dX11_document_36 : decode cX11_document 36 = .ok (.new 137, 3) := by decide +kernel
theorem dX11_document_39 : decode cX11_document 39 = .ok (.dup, 1) := by decide +kernel
theorem dX11_document_40 : decode cX11_document 40 = .ok (.invokespecial 139, 3) := by decide +kernel
theorem dX11_document_43 : decode cX11_document 43 = .ok (.athrow, 1) := by decide +kernel
theorem dX11_document_44 : decode cX11_document 44 = .ok (.aload_n 2, 1) := by decide +kernel
theorem dX11_document_45 : decode cX11_document 45 = .ok (.areturn, 1) := by decide +kernel
theorem dX11_documentWith_0 : decode cX11_documentWith 0 = .ok (.aload_n 0, 1) := by decide +kernel
theorem dX11_documentWith_1 : decode cX11_documentWith 1 = .ok (.iload_n 1, 1) := by decide +kernel
theorem dX11_documentWith_2 : decode cX11_documentWith 2 = .ok (.invokevirtual 157, 3) := by decide +kernel
theorem dX11_documentWith_5 : decode cX11_documentWith 5 = .ok (.astore_n 3, 1) := by decide +kernel
theorem dX11_documentWith_6 : decode cX11_documentWith 6 = .ok (.aload_n 3, 1) := by decide +kernel
theorem dX11_documentWith_7 : decode cX11_documentWith 7 = .ok (.iload_n 2, 1) := by decide +kernel
theorem dX11_documentWith_8 : decode cX11_documentWith 8 = .ok (.invokevirtual 318, 3) := by decide +kernel
theorem dX11_documentWith_11 : decode cX11_documentWith 11 = .ok (.ifCond .ne 11, 3) := by decide +kernel
theorem dX11_documentWith_14 : decode cX11_documentWith 14 = .ok (.new 137, 3) := by decide +kernel
theorem dX11_documentWith_17 : decode cX11_documentWith 17 = .ok (.dup, 1) := by decide +kernel
theorem dX11_documentWith_18 : decode cX11_documentWith 18 = .ok (.invokespecial 139, 3) := by decide +kernel
theorem dX11_documentWith_21 : decode cX11_documentWith 21 = .ok (.athrow, 1) := by decide +kernel
theorem dX11_documentWith_22 : decode cX11_documentWith 22 = .ok (.aload_n 3, 1) := by decide +kernel
theorem dX11_documentWith_23 : decode cX11_documentWith 23 = .ok (.areturn, 1) := by decide +kernel
theorem dX11_loadPage_0 : decode cX11_loadPage 0 = .ok (.aload_n 0, 1) := by decide +kernel
theorem dX11_loadPage_1 : decode cX11_loadPage 1 = .ok (.getfield 49, 3) := by decide +kernel
theorem dX11_loadPage_4 : decode cX11_loadPage 4 = .ok (.aload_n 0, 1) := by decide +kernel
theorem dX11_loadPage_5 : decode cX11_loadPage 5 = .ok (.getfield 14, 3) := by decide +kernel
theorem dX11_loadPage_8 : decode cX11_loadPage 8 = .ok (.invokevirtual 322, 3) := by decide +kernel
theorem dX11_loadPage_11 : decode cX11_loadPage 11 = .ok (.ifCond .ne 11, 3) := by decide +kernel
theorem dX11_loadPage_14 : decode cX11_loadPage 14 = .ok (.new 124, 3) := by decide +kernel
theorem dX11_loadPage_17 : decode cX11_loadPage 17 = .ok (.dup, 1) := by decide +kernel
theorem dX11_loadPage_18 : decode cX11_loadPage 18 = .ok (.invokespecial 126, 3) := by decide +kernel
theorem dX11_loadPage_21 : decode cX11_loadPage 21 = .ok (.athrow, 1) := by decide +kernel
theorem dX11_loadPage_22 : decode cX11_loadPage 22 = .ok (.return_, 1) := by decide +kernel
theorem dX11_admit_0 : decode cX11_admit 0 = .ok (.aload_n 0, 1) := by decide +kernel
theorem dX11_admit_1 : decode cX11_admit 1 = .ok (.getfield 150, 3) := by decide +kernel
theorem dX11_admit_4 : decode cX11_admit 4 = .ok (.ifCond .lt 27, 3) := by decide +kernel
theorem dX11_admit_7 : decode cX11_admit 7 = .ok (.aload_n 0, 1) := by decide +kernel
theorem dX11_admit_8 : decode cX11_admit 8 = .ok (.getfield 150, 3) := by decide +kernel
theorem dX11_admit_11 : decode cX11_admit 11 = .ok (.aload_n 0, 1) := by decide +kernel
theorem dX11_admit_12 : decode cX11_admit 12 = .ok (.getfield 27, 3) := by decide +kernel
theorem dX11_admit_15 : decode cX11_admit 15 = .ok (.arraylength, 1) := by decide +kernel
theorem dX11_admit_16 : decode cX11_admit 16 = .ok (.if_icmp .ge 15, 3) := by decide +kernel
theorem dX11_admit_19 : decode cX11_admit 19 = .ok (.aload_n 0, 1) := by decide +kernel
theorem dX11_admit_20 : decode cX11_admit 20 = .ok (.getfield 27, 3) := by decide +kernel
theorem dX11_admit_23 : decode cX11_admit 23 = .ok (.aload_n 0, 1) := by decide +kernel
theorem dX11_admit_24 : decode cX11_admit 24 = .ok (.getfield 150, 3) := by decide +kernel
theorem dX11_admit_27 : decode cX11_admit 27 = .ok (.aaload, 1) := by decide +kernel
theorem dX11_admit_28 : decode cX11_admit 28 = .ok (.goto 4, 3) := by decide +kernel
theorem dX11_admit_31 : decode cX11_admit 31 = .ok (.aconst_null, 1) := by decide +kernel
theorem dX11_admit_32 : decode cX11_admit 32 = .ok (.astore_n 2, 1) := by decide +kernel
theorem dX11_admit_33 : decode cX11_admit 33 = .ok (.aload_n 2, 1) := by decide +kernel
theorem dX11_admit_34 : decode cX11_admit 34 = .ok (.ifnull 10, 3) := by decide +kernel
theorem dX11_admit_37 : decode cX11_admit 37 = .ok (.aload_n 1, 1) := by decide +kernel
theorem dX11_admit_38 : decode cX11_admit 38 = .ok (.invokevirtual 308, 3) := by decide +kernel
theorem dX11_admit_41 : decode cX11_admit 41 = .ok (.ifCond .ne 11, 3) := by decide +kernel
theorem dX11_admit_44 : decode cX11_admit 44 = .ok (.new 124, 3) := by decide +kernel
theorem dX11_admit_47 : decode cX11_admit 47 = .ok (.dup, 1) := by decide +kernel
theorem dX11_admit_48 : decode cX11_admit 48 = .ok (.invokespecial 126, 3) := by decide +kernel
theorem dX11_admit_51 : decode cX11_admit 51 = .ok (.athrow, 1) := by decide +kernel
theorem dX11_admit_52 : decode cX11_admit 52 = .ok (.aload_n 2, 1) := by decide +kernel
theorem dX11_admit_53 : decode cX11_admit 53 = .ok (.aload_n 1, 1) := by decide +kernel
theorem dX11_admit_54 : decode cX11_admit 54 = .ok (.iconst 0, 1) := by decide +kernel
theorem dX11_admit_55 : decode cX11_admit 55 = .ok (.invokevirtual 109, 3) := by decide +kernel
theorem dX11_admit_58 : decode cX11_admit 58 = .ok (.aload_n 0, 1) := by decide +kernel
theorem dX11_admit_59 : decode cX11_admit 59 = .ok (.dup, 1) := by decide +kernel
theorem dX11_admit_60 : decode cX11_admit 60 = .ok (.getfield 150, 3) := by decide +kernel
theorem dX11_admit_63 : decode cX11_admit 63 = .ok (.iconst 1, 1) := by decide +kernel
theorem dX11_admit_64 : decode cX11_admit 64 = .ok (.iadd, 1) := by decide +kernel
theorem dX11_admit_65 : decode cX11_admit 65 = .ok (.putfield 150, 3) := by decide +kernel
theorem dX11_admit_68 : decode cX11_admit 68 = .ok (.aload_n 0, 1) := by decide +kernel
theorem dX11_admit_69 : decode cX11_admit 69 = .ok (.getfield 150, 3) := by decide +kernel
theorem dX11_admit_72 : decode cX11_admit 72 = .ok (.iconst 1, 1) := by decide +kernel
theorem dX11_admit_73 : decode cX11_admit 73 = .ok (.isub, 1) := by decide +kernel
theorem dX11_admit_74 : decode cX11_admit 74 = .ok (.ireturn, 1) := by decide +kernel
theorem dX11_admitAndWipe_0 : decode cX11_admitAndWipe 0 = .ok (.aload_n 0, 1) := by decide +kernel
theorem dX11_admitAndWipe_1 : decode cX11_admitAndWipe 1 = .ok (.aload_n 1, 1) := by decide +kernel
theorem dX11_admitAndWipe_2 : decode cX11_admitAndWipe 2 = .ok (.invokevirtual 153, 3) := by decide +kernel
theorem dX11_admitAndWipe_5 : decode cX11_admitAndWipe 5 = .ok (.istore_n 2, 1) := by decide +kernel
theorem dX11_admitAndWipe_6 : decode cX11_admitAndWipe 6 = .ok (.aload_n 0, 1) := by decide +kernel
theorem dX11_admitAndWipe_7 : decode cX11_admitAndWipe 7 = .ok (.getfield 14, 3) := by decide +kernel
theorem dX11_admitAndWipe_10 : decode cX11_admitAndWipe 10 = .ok (.invokevirtual 134, 3) := by decide +kernel
theorem dX11_admitAndWipe_13 : decode cX11_admitAndWipe 13 = .ok (.iload_n 2, 1) := by decide +kernel
theorem dX11_admitAndWipe_14 : decode cX11_admitAndWipe 14 = .ok (.ireturn, 1) := by decide +kernel
theorem dX11_allNodes_0 : decode cX11_allNodes 0 = .ok (.iconst 0, 1) := by decide +kernel
theorem dX11_allNodes_1 : decode cX11_allNodes 1 = .ok (.istore_n 1, 1) := by decide +kernel
theorem dX11_allNodes_2 : decode cX11_allNodes 2 = .ok (.iconst 0, 1) := by decide +kernel
theorem dX11_allNodes_3 : decode cX11_allNodes 3 = .ok (.istore_n 2, 1) := by decide +kernel
theorem dX11_allNodes_4 : decode cX11_allNodes 4 = .ok (.iload_n 2, 1) := by decide +kernel
theorem dX11_allNodes_5 : decode cX11_allNodes 5 = .ok (.aload_n 0, 1) := by decide +kernel
theorem dX11_allNodes_6 : decode cX11_allNodes 6 = .ok (.getfield 150, 3) := by decide +kernel
theorem dX11_allNodes_9 : decode cX11_allNodes 9 = .ok (.if_icmp .ge 20, 3) := by decide +kernel
theorem dX11_allNodes_12 : decode cX11_allNodes 12 = .ok (.iload_n 1, 1) := by decide +kernel
theorem dX11_allNodes_13 : decode cX11_allNodes 13 = .ok (.aload_n 0, 1) := by decide +kernel
theorem dX11_allNodes_14 : decode cX11_allNodes 14 = .ok (.iload_n 2, 1) := by decide +kernel
theorem dX11_allNodes_15 : decode cX11_allNodes 15 = .ok (.invokevirtual 157, 3) := by decide +kernel
theorem dX11_allNodes_18 : decode cX11_allNodes 18 = .ok (.invokevirtual 297, 3) := by decide +kernel
theorem dX11_allNodes_21 : decode cX11_allNodes 21 = .ok (.iadd, 1) := by decide +kernel
theorem dX11_allNodes_22 : decode cX11_allNodes 22 = .ok (.istore_n 1, 1) := by decide +kernel
theorem dX11_allNodes_23 : decode cX11_allNodes 23 = .ok (.iinc 2 1, 3) := by decide +kernel
theorem dX11_allNodes_26 : decode cX11_allNodes 26 = .ok (.goto (-22), 3) := by decide +kernel
theorem dX11_allNodes_29 : decode cX11_allNodes 29 = .ok (.iload_n 1, 1) := by decide +kernel
theorem dX11_allNodes_30 : decode cX11_allNodes 30 = .ok (.ireturn, 1) := by decide +kernel
theorem dX11_byColumns_0 : decode cX11_byColumns 0 = .ok (.aload_n 1, 1) := by decide +kernel
theorem dX11_byColumns_1 : decode cX11_byColumns 1 = .ok (.invokevirtual 202, 3) := by decide +kernel
theorem dX11_byColumns_4 : decode cX11_byColumns 4 = .ok (.aload_n 1, 1) := by decide +kernel
theorem dX11_byColumns_5 : decode cX11_byColumns 5 = .ok (.iconst 5, 1) := by decide +kernel
theorem dX11_byColumns_6 : decode cX11_byColumns 6 = .ok (.invokevirtual 207, 3) := by decide +kernel
theorem dX11_byColumns_9 : decode cX11_byColumns 9 = .ok (.istore_n 2, 1) := by decide +kernel
theorem dX11_byColumns_10 : decode cX11_byColumns 10 = .ok (.aload_n 0, 1) := by decide +kernel
theorem dX11_byColumns_11 : decode cX11_byColumns 11 = .ok (.iconst 0, 1) := by decide +kernel
theorem dX11_byColumns_12 : decode cX11_byColumns 12 = .ok (.invokevirtual 326, 3) := by decide +kernel
theorem dX11_byColumns_15 : decode cX11_byColumns 15 = .ok (.istore_n 3, 1) := by decide +kernel
theorem dX11_byColumns_16 : decode cX11_byColumns 16 = .ok (.iconst 0, 1) := by decide +kernel
theorem dX11_byColumns_17 : decode cX11_byColumns 17 = .ok (.istore 4, 2) := by decide +kernel
theorem dX11_byColumns_19 : decode cX11_byColumns 19 = .ok (.iload_n 3, 1) := by decide +kernel
theorem dX11_byColumns_20 : decode cX11_byColumns 20 = .ok (.iconst (-1), 1) := by decide +kernel
theorem dX11_byColumns_21 : decode cX11_byColumns 21 = .ok (.if_icmp .eq 85, 3) := by decide +kernel
theorem dX11_byColumns_24 : decode cX11_byColumns 24 = .ok (.iload 4, 2) := by decide +kernel
theorem dX11_byColumns_26 : decode cX11_byColumns 26 = .ok (.bipush 100, 2) := by decide +kernel
theorem dX11_byColumns_28 : decode cX11_byColumns 28 = .ok (.if_icmp .ge 78, 3) := by decide +kernel
theorem dX11_byColumns_31 : decode cX11_byColumns 31 = .ok (.aload_n 0, 1) := by decide +kernel
theorem dX11_byColumns_32 : decode cX11_byColumns 32 = .ok (.iload_n 3, 1) := by decide +kernel
theorem dX11_byColumns_33 : decode cX11_byColumns 33 = .ok (.invokevirtual 326, 3) := by decide +kernel
theorem dX11_byColumns_36 : decode cX11_byColumns 36 = .ok (.istore 5, 2) := by decide +kernel
theorem dX11_byColumns_38 : decode cX11_byColumns 38 = .ok (.iconst 0, 1) := by decide +kernel
theorem dX11_byColumns_39 : decode cX11_byColumns 39 = .ok (.istore 6, 2) := by decide +kernel
theorem dX11_byColumns_41 : decode cX11_byColumns 41 = .ok (.iload 5, 2) := by decide +kernel
theorem dX11_byColumns_43 : decode cX11_byColumns 43 = .ok (.iconst (-1), 1) := by decide +kernel
theorem dX11_byColumns_44 : decode cX11_byColumns 44 = .ok (.if_icmp .eq 49, 3) := by decide +kernel
theorem dX11_byColumns_47 : decode cX11_byColumns 47 = .ok (.iload 6, 2) := by decide +kernel
theorem dX11_byColumns_49 : decode cX11_byColumns 49 = .ok (.bipush 100, 2) := by decide +kernel
theorem dX11_byColumns_51 : decode cX11_byColumns 51 = .ok (.if_icmp .ge 42, 3) := by decide +kernel
theorem dX11_byColumns_54 : decode cX11_byColumns 54 = .ok (.aload_n 1, 1) := by decide +kernel
theorem dX11_byColumns_55 : decode cX11_byColumns 55 = .ok (.iload_n 2, 1) := by decide +kernel
theorem dX11_byColumns_56 : decode cX11_byColumns 56 = .ok (.invokevirtual 213, 3) := by decide +kernel
theorem dX11_byColumns_59 : decode cX11_byColumns 59 = .ok (.aload_n 1, 1) := by decide +kernel
theorem dX11_byColumns_60 : decode cX11_byColumns 60 = .ok (.iload_n 2, 1) := by decide +kernel
theorem dX11_byColumns_61 : decode cX11_byColumns 61 = .ok (.aload_n 0, 1) := by decide +kernel
theorem dX11_byColumns_62 : decode cX11_byColumns 62 = .ok (.iload 5, 2) := by decide +kernel
theorem dX11_byColumns_64 : decode cX11_byColumns 64 = .ok (.invokevirtual 329, 3) := by decide +kernel
theorem dX11_byColumns_67 : decode cX11_byColumns 67 = .ok (.iconst (-1), 1) := by decide +kernel
theorem dX11_byColumns_68 : decode cX11_byColumns 68 = .ok (.if_icmp .ne 10, 3) := by decide +kernel
theorem dX11_byColumns_71 : decode cX11_byColumns 71 = .ok (.aload_n 0, 1) := by decide +kernel
theorem dX11_byColumns_72 : decode cX11_byColumns 72 = .ok (.iload 5, 2) := by decide +kernel
theorem dX11_byColumns_74 : decode cX11_byColumns 74 = .ok (.aload_n 1, 1) := by decide +kernel
theorem dX11_byColumns_75 : decode cX11_byColumns 75 = .ok (.invokestatic 332, 3) := by decide +kernel
theorem dX11_byColumns_78 : decode cX11_byColumns 78 = .ok (.aload_n 0, 1) := by decide +kernel
theorem dX11_byColumns_79 : decode cX11_byColumns 79 = .ok (.iload_n 3, 1) := by decide +kernel
theorem dX11_byColumns_80 : decode cX11_byColumns 80 = .ok (.iload 5, 2) := by decide +kernel
theorem dX11_byColumns_82 : decode cX11_byColumns 82 = .ok (.invokevirtual 336, 3) := by decide +kernel
theorem dX11_byColumns_85 : decode cX11_byColumns 85 = .ok (.istore 5, 2) := by decide +kernel
theorem dX11_byColumns_87 : decode cX11_byColumns 87 = .ok (.iinc 6 1, 3) := by decide +kernel
theorem dX11_byColumns_90 : decode cX11_byColumns 90 = .ok (.goto (-49), 3) := by decide +kernel
theorem dX11_byColumns_93 : decode cX11_byColumns 93 = .ok (.aload_n 0, 1) := by decide +kernel
theorem dX11_byColumns_94 : decode cX11_byColumns 94 = .ok (.iconst 0, 1) := by decide +kernel
theorem dX11_byColumns_95 : decode cX11_byColumns 95 = .ok (.iload_n 3, 1) := by decide +kernel
theorem dX11_byColumns_96 : decode cX11_byColumns 96 = .ok (.invokevirtual 336, 3) := by decide +kernel
theorem dX11_byColumns_99 : decode cX11_byColumns 99 = .ok (.istore_n 3, 1) := by decide +kernel
theorem dX11_byColumns_100 : decode cX11_byColumns 100 = .ok (.iinc 4 1, 3) := by decide +kernel
theorem dX11_byColumns_103 : decode cX11_byColumns 103 = .ok (.goto (-84), 3) := by decide +kernel
theorem dX11_byColumns_106 : decode cX11_byColumns 106 = .ok (.aload_n 1, 1) := by decide +kernel
theorem dX11_byColumns_107 : decode cX11_byColumns 107 = .ok (.iload_n 2, 1) := by decide +kernel
theorem dX11_byColumns_108 : decode cX11_byColumns 108 = .ok (.invokevirtual 213, 3) := by decide +kernel
theorem dX11_byColumns_111 : decode cX11_byColumns 111 = .ok (.return_, 1) := by decide +kernel
theorem dX11_addColumn_0 : decode cX11_addColumn 0 = .ok (.aload_n 2, 1) := by decide +kernel
theorem dX11_addColumn_1 : decode cX11_addColumn 1 = .ok (.iconst 4, 1) := by decide +kernel
theorem dX11_addColumn_2 : decode cX11_addColumn 2 = .ok (.invokevirtual 207, 3) := by decide +kernel
theorem dX11_addColumn_5 : decode cX11_addColumn 5 = .ok (.istore_n 3, 1) := by decide +kernel
theorem dX11_addColumn_6 : decode cX11_addColumn 6 = .ok (.aload_n 2, 1) := by decide +kernel
theorem dX11_addColumn_7 : decode cX11_addColumn 7 = .ok (.iload_n 3, 1) := by decide +kernel
theorem dX11_addColumn_8 : decode cX11_addColumn 8 = .ok (.aload_n 0, 1) := by decide +kernel
theorem dX11_addColumn_9 : decode cX11_addColumn 9 = .ok (.iload_n 1, 1) := by decide +kernel
theorem dX11_addColumn_10 : decode cX11_addColumn 10 = .ok (.invokevirtual 339, 3) := by decide +kernel
theorem dX11_addColumn_13 : decode cX11_addColumn 13 = .ok (.aload_n 0, 1) := by decide +kernel
theorem dX11_addColumn_14 : decode cX11_addColumn 14 = .ok (.iconst 0, 1) := by decide +kernel
theorem dX11_addColumn_15 : decode cX11_addColumn 15 = .ok (.invokevirtual 326, 3) := by decide +kernel
theorem dX11_addColumn_18 : decode cX11_addColumn 18 = .ok (.istore 4, 2) := by decide +kernel
theorem dX11_addColumn_20 : decode cX11_addColumn 20 = .ok (.iconst 0, 1) := by decide +kernel
theorem dX11_addColumn_21 : decode cX11_addColumn 21 = .ok (.istore 5, 2) := by decide +kernel
theorem dX11_addColumn_23 : decode cX11_addColumn 23 = .ok (.iload 4, 2) := by decide +kernel
theorem dX11_addColumn_25 : decode cX11_addColumn 25 = .ok (.iconst (-1), 1) := by decide +kernel
theorem dX11_addColumn_26 : decode cX11_addColumn 26 = .ok (.if_icmp .eq 60, 3) := by decide +kernel
theorem dX11_addColumn_29 : decode cX11_addColumn 29 = .ok (.iload 5, 2) := by decide +kernel
theorem dX11_addColumn_31 : decode cX11_addColumn 31 = .ok (.bipush 100, 2) := by decide +kernel
theorem dX11_addColumn_33 : decode cX11_addColumn 33 = .ok (.if_icmp .ge 53, 3) := by decide +kernel
theorem dX11_addColumn_36 : decode cX11_addColumn 36 = .ok (.aload_n 0, 1) := by decide +kernel
theorem dX11_addColumn_37 : decode cX11_addColumn 37 = .ok (.iload 4, 2) := by decide +kernel
theorem dX11_addColumn_39 : decode cX11_addColumn 39 = .ok (.aload_n 0, 1) := by decide +kernel
theorem dX11_addColumn_40 : decode cX11_addColumn 40 = .ok (.iload_n 1, 1) := by decide +kernel
theorem dX11_addColumn_41 : decode cX11_addColumn 41 = .ok (.invokevirtual 329, 3) := by decide +kernel
theorem dX11_addColumn_44 : decode cX11_addColumn 44 = .ok (.istore 6, 2) := by decide +kernel
theorem dX11_addColumn_46 : decode cX11_addColumn 46 = .ok (.aload_n 2, 1) := by decide +kernel
theorem dX11_addColumn_47 : decode cX11_addColumn 47 = .ok (.iload 6, 2) := by decide +kernel
theorem dX11_addColumn_49 : decode cX11_addColumn 49 = .ok (.iconst (-1), 1) := by decide +kernel
theorem dX11_addColumn_50 : decode cX11_addColumn 50 = .ok (.if_icmp .ne 11, 3) := by decide +kernel
theorem dX11_addColumn_53 : decode cX11_addColumn 53 = .ok (.aload_n 2, 1) := by decide +kernel
theorem dX11_addColumn_54 : decode cX11_addColumn 54 = .ok (.iconst 0, 1) := by decide +kernel
theorem dX11_addColumn_55 : decode cX11_addColumn 55 = .ok (.invokevirtual 207, 3) := by decide +kernel
theorem dX11_addColumn_58 : decode cX11_addColumn 58 = .ok (.goto 10, 3) := by decide +kernel
theorem dX11_addColumn_61 : decode cX11_addColumn 61 = .ok (.aload_n 2, 1) := by decide +kernel
theorem dX11_addColumn_62 : decode cX11_addColumn 62 = .ok (.aload_n 0, 1) := by decide +kernel
theorem dX11_addColumn_63 : decode cX11_addColumn 63 = .ok (.iload 6, 2) := by decide +kernel
theorem dX11_addColumn_65 : decode cX11_addColumn 65 = .ok (.invokevirtual 209, 3) := by decide +kernel
theorem dX11_addColumn_68 : decode cX11_addColumn 68 = .ok (.invokevirtual 342, 3) := by decide +kernel
theorem dX11_addColumn_71 : decode cX11_addColumn 71 = .ok (.aload_n 0, 1) := by decide +kernel
theorem dX11_addColumn_72 : decode cX11_addColumn 72 = .ok (.iconst 0, 1) := by decide +kernel
theorem dX11_addColumn_73 : decode cX11_addColumn 73 = .ok (.iload 4, 2) := by decide +kernel
theorem dX11_addColumn_75 : decode cX11_addColumn 75 = .ok (.invokevirtual 336, 3) := by decide +kernel
theorem dX11_addColumn_78 : decode cX11_addColumn 78 = .ok (.istore 4, 2) := by decide +kernel
theorem dX11_addColumn_80 : decode cX11_addColumn 80 = .ok (.iinc 5 1, 3) := by decide +kernel
theorem dX11_addColumn_83 : decode cX11_addColumn 83 = .ok (.goto (-60), 3) := by decide +kernel
theorem dX11_addColumn_86 : decode cX11_addColumn 86 = .ok (.aload_n 2, 1) := by decide +kernel
theorem dX11_addColumn_87 : decode cX11_addColumn 87 = .ok (.iload_n 3, 1) := by decide +kernel
theorem dX11_addColumn_88 : decode cX11_addColumn 88 = .ok (.invokevirtual 213, 3) := by decide +kernel
theorem dX11_addColumn_91 : decode cX11_addColumn 91 = .ok (.return_, 1) := by decide +kernel
theorem dX11_isByColumns_0 : decode cX11_isByColumns 0 = .ok (.aload_n 0, 1) := by decide +kernel
theorem dX11_isByColumns_1 : decode cX11_isByColumns 1 = .ok (.iconst 0, 1) := by decide +kernel
theorem dX11_isByColumns_2 : decode cX11_isByColumns 2 = .ok (.invokevirtual 345, 3) := by decide +kernel
theorem dX11_isByColumns_5 : decode cX11_isByColumns 5 = .ok (.istore_n 1, 1) := by decide +kernel
theorem dX11_isByColumns_6 : decode cX11_isByColumns 6 = .ok (.iload_n 1, 1) := by decide +kernel
theorem dX11_isByColumns_7 : decode cX11_isByColumns 7 = .ok (.iconst (-1), 1) := by decide +kernel
theorem dX11_isByColumns_8 : decode cX11_isByColumns 8 = .ok (.if_icmp .eq 16, 3) := by decide +kernel
theorem dX11_isByColumns_11 : decode cX11_isByColumns 11 = .ok (.aload_n 0, 1) := by decide +kernel
theorem dX11_isByColumns_12 : decode cX11_isByColumns 12 = .ok (.iconst 0, 1) := by decide +kernel
theorem dX11_isByColumns_13 : decode cX11_isByColumns 13 = .ok (.iconst 4, 1) := by decide +kernel
theorem dX11_isByColumns_14 : decode cX11_isByColumns 14 = .ok (.invokevirtual 276, 3) := by decide +kernel
theorem dX11_isByColumns_17 : decode cX11_isByColumns 17 = .ok (.ifCond .eq 7, 3) := by decide +kernel
theorem dX11_isByColumns_20 : decode cX11_isByColumns 20 = .ok (.iconst 1, 1) := by decide +kernel
theorem dX11_isByColumns_21 : decode cX11_isByColumns 21 = .ok (.goto 4, 3) := by decide +kernel
theorem dX11_isByColumns_24 : decode cX11_isByColumns 24 = .ok (.iconst 0, 1) := by decide +kernel
theorem dX11_isByColumns_25 : decode cX11_isByColumns 25 = .ok (.istore_n 2, 1) := by decide +kernel
theorem dX11_isByColumns_26 : decode cX11_isByColumns 26 = .ok (.iload_n 1, 1) := by decide +kernel
theorem dX11_isByColumns_27 : decode cX11_isByColumns 27 = .ok (.istore_n 3, 1) := by decide +kernel
theorem dX11_isByColumns_28 : decode cX11_isByColumns 28 = .ok (.iconst 0, 1) := by decide +kernel
theorem dX11_isByColumns_29 : decode cX11_isByColumns 29 = .ok (.istore 4, 2) := by decide +kernel
theorem dX11_isByColumns_31 : decode cX11_isByColumns 31 = .ok (.iload_n 3, 1) := by decide +kernel
theorem dX11_isByColumns_32 : decode cX11_isByColumns 32 = .ok (.iconst (-1), 1) := by decide +kernel
theorem dX11_isByColumns_33 : decode cX11_isByColumns 33 = .ok (.if_icmp .eq 46, 3) := by decide +kernel
theorem dX11_isByColumns_36 : decode cX11_isByColumns 36 = .ok (.iload 4, 2) := by decide +kernel
theorem dX11_isByColumns_38 : decode cX11_isByColumns 38 = .ok (.bipush 100, 2) := by decide +kernel
theorem dX11_isByColumns_40 : decode cX11_isByColumns 40 = .ok (.if_icmp .ge 39, 3) := by decide +kernel
theorem dX11_isByColumns_43 : decode cX11_isByColumns 43 = .ok (.iload_n 2, 1) := by decide +kernel
theorem dX11_isByColumns_44 : decode cX11_isByColumns 44 = .ok (.ifCond .eq 20, 3) := by decide +kernel
theorem dX11_isByColumns_47 : decode cX11_isByColumns 47 = .ok (.aload_n 0, 1) := by decide +kernel
theorem dX11_isByColumns_48 : decode cX11_isByColumns 48 = .ok (.iload_n 3, 1) := by decide +kernel
theorem dX11_isByColumns_49 : decode cX11_isByColumns 49 = .ok (.invokevirtual 348, 3) := by decide +kernel
theorem dX11_isByColumns_52 : decode cX11_isByColumns 52 = .ok (.aload_n 0, 1) := by decide +kernel
theorem dX11_isByColumns_53 : decode cX11_isByColumns 53 = .ok (.iload_n 1, 1) := by decide +kernel
theorem dX11_isByColumns_54 : decode cX11_isByColumns 54 = .ok (.invokevirtual 348, 3) := by decide +kernel
theorem dX11_isByColumns_57 : decode cX11_isByColumns 57 = .ok (.if_icmp .ne 7, 3) := by decide +kernel
theorem dX11_isByColumns_60 : decode cX11_isByColumns 60 = .ok (.iconst 1, 1) := by decide +kernel
theorem dX11_isByColumns_61 : decode cX11_isByColumns 61 = .ok (.goto 4, 3) := by decide +kernel
theorem dX11_isByColumns_64 : decode cX11_isByColumns 64 = .ok (.iconst 0, 1) := by decide +kernel
theorem dX11_isByColumns_65 : decode cX11_isByColumns 65 = .ok (.istore_n 2, 1) := by decide +kernel
theorem dX11_isByColumns_66 : decode cX11_isByColumns 66 = .ok (.aload_n 0, 1) := by decide +kernel
theorem dX11_isByColumns_67 : decode cX11_isByColumns 67 = .ok (.iconst 0, 1) := by decide +kernel
theorem dX11_isByColumns_68 : decode cX11_isByColumns 68 = .ok (.iload_n 3, 1) := by decide +kernel
theorem dX11_isByColumns_69 : decode cX11_isByColumns 69 = .ok (.invokevirtual 336, 3) := by decide +kernel
theorem dX11_isByColumns_72 : decode cX11_isByColumns 72 = .ok (.istore_n 3, 1) := by decide +kernel
theorem dX11_isByColumns_73 : decode cX11_isByColumns 73 = .ok (.iinc 4 1, 3) := by decide +kernel
theorem dX11_isByColumns_76 : decode cX11_isByColumns 76 = .ok (.goto (-45), 3) := by decide +kernel
theorem dX11_isByColumns_79 : decode cX11_isByColumns 79 = .ok (.iload_n 2, 1) := by decide +kernel
theorem dX11_isByColumns_80 : decode cX11_isByColumns 80 = .ok (.ireturn, 1) := by decide +kernel
theorem dX11_byRows_0 : decode cX11_byRows 0 = .ok (.aload_n 1, 1) := by decide +kernel
theorem dX11_byRows_1 : decode cX11_byRows 1 = .ok (.invokevirtual 202, 3) := by decide +kernel
theorem dX11_byRows_4 : decode cX11_byRows 4 = .ok (.aload_n 1, 1) := by decide +kernel
theorem dX11_byRows_5 : decode cX11_byRows 5 = .ok (.iconst 4, 1) := by decide +kernel
theorem dX11_byRows_6 : decode cX11_byRows 6 = .ok (.invokevirtual 207, 3) := by decide +kernel
theorem dX11_byRows_9 : decode cX11_byRows 9 = .ok (.istore_n 2, 1) := by decide +kernel
theorem dX11_byRows_10 : decode cX11_byRows 10 = .ok (.aload_n 0, 1) := by decide +kernel
theorem dX11_byRows_11 : decode cX11_byRows 11 = .ok (.aload_n 0, 1) := by decide +kernel
theorem dX11_byRows_12 : decode cX11_byRows 12 = .ok (.iconst 0, 1) := by decide +kernel
theorem dX11_byRows_13 : decode cX11_byRows 13 = .ok (.invokevirtual 345, 3) := by decide +kernel
theorem dX11_byRows_16 : decode cX11_byRows 16 = .ok (.invokevirtual 348, 3) := by decide +kernel
theorem dX11_byRows_19 : decode cX11_byRows 19 = .ok (.istore_n 3, 1) := by decide +kernel
theorem dX11_byRows_20 : decode cX11_byRows 20 = .ok (.iconst 0, 1) := by decide +kernel
theorem dX11_byRows_21 : decode cX11_byRows 21 = .ok (.istore 4, 2) := by decide +kernel
theorem dX11_byRows_23 : decode cX11_byRows 23 = .ok (.iload 4, 2) := by decide +kernel
theorem dX11_byRows_25 : decode cX11_byRows 25 = .ok (.iload_n 3, 1) := by decide +kernel
theorem dX11_byRows_26 : decode cX11_byRows 26 = .ok (.if_icmp .ge 84, 3) := by decide +kernel
theorem dX11_byRows_29 : decode cX11_byRows 29 = .ok (.aload_n 1, 1) := by decide +kernel
theorem dX11_byRows_30 : decode cX11_byRows 30 = .ok (.iconst 5, 1) := by decide +kernel
theorem dX11_byRows_31 : decode cX11_byRows 31 = .ok (.invokevirtual 207, 3) := by decide +kernel
theorem dX11_byRows_34 : decode cX11_byRows 34 = .ok (.istore 5, 2) := by decide +kernel
theorem dX11_byRows_36 : decode cX11_byRows 36 = .ok (.aload_n 0, 1) := by decide +kernel
theorem dX11_byRows_37 : decode cX11_byRows 37 = .ok (.iconst 0, 1) := by decide +kernel
theorem dX11_byRows_38 : decode cX11_byRows 38 = .ok (.invokevirtual 345, 3) := by decide +kernel
theorem dX11_byRows_41 : decode cX11_byRows 41 = .ok (.istore 6, 2) := by decide +kernel
theorem dX11_byRows_43 : decode cX11_byRows 43 = .ok (.iconst 0, 1) := by decide +kernel
theorem dX11_byRows_44 : decode cX11_byRows 44 = .ok (.istore 7, 2) := by decide +kernel
theorem dX11_byRows_46 : decode cX11_byRows 46 = .ok (.iload 6, 2) := by decide +kernel
theorem dX11_byRows_48 : decode cX11_byRows 48 = .ok (.iconst (-1), 1) := by decide +kernel
theorem dX11_byRows_49 : decode cX11_byRows 49 = .ok (.if_icmp .eq 49, 3) := by decide +kernel
theorem dX11_byRows_52 : decode cX11_byRows 52 = .ok (.iload 7, 2) := by decide +kernel
theorem dX11_byRows_54 : decode cX11_byRows 54 = .ok (.bipush 100, 2) := by decide +kernel
theorem dX11_byRows_56 : decode cX11_byRows 56 = .ok (.if_icmp .ge 42, 3) := by decide +kernel
theorem dX11_byRows_59 : decode cX11_byRows 59 = .ok (.aload_n 1, 1) := by decide +kernel
theorem dX11_byRows_60 : decode cX11_byRows 60 = .ok (.aload_n 0, 1) := by decide +kernel
theorem dX11_byRows_61 : decode cX11_byRows 61 = .ok (.aload_n 0, 1) := by decide +kernel
theorem dX11_byRows_62 : decode cX11_byRows 62 = .ok (.iload 6, 2) := by decide +kernel
theorem dX11_byRows_64 : decode cX11_byRows 64 = .ok (.iload 4, 2) := by decide +kernel
theorem dX11_byRows_66 : decode cX11_byRows 66 = .ok (.invokevirtual 351, 3) := by decide +kernel
theorem dX11_byRows_69 : decode cX11_byRows 69 = .ok (.invokevirtual 209, 3) := by decide +kernel
theorem dX11_byRows_72 : decode cX11_byRows 72 = .ok (.istore 8, 2) := by decide +kernel
theorem dX11_byRows_74 : decode cX11_byRows 74 = .ok (.aload_n 1, 1) := by decide +kernel
theorem dX11_byRows_75 : decode cX11_byRows 75 = .ok (.iload 8, 2) := by decide +kernel
theorem dX11_byRows_77 : decode cX11_byRows 77 = .ok (.aload_n 0, 1) := by decide +kernel
theorem dX11_byRows_78 : decode cX11_byRows 78 = .ok (.iload 6, 2) := by decide +kernel
theorem dX11_byRows_80 : decode cX11_byRows 80 = .ok (.invokevirtual 339, 3) := by decide +kernel
theorem dX11_byRows_83 : decode cX11_byRows 83 = .ok (.aload_n 0, 1) := by decide +kernel
theorem dX11_byRows_84 : decode cX11_byRows 84 = .ok (.iconst 0, 1) := by decide +kernel
theorem dX11_byRows_85 : decode cX11_byRows 85 = .ok (.iload 6, 2) := by decide +kernel
theorem dX11_byRows_87 : decode cX11_byRows 87 = .ok (.invokevirtual 336, 3) := by decide +kernel
theorem dX11_byRows_90 : decode cX11_byRows 90 = .ok (.istore 6, 2) := by decide +kernel
theorem dX11_byRows_92 : decode cX11_byRows 92 = .ok (.iinc 7 1, 3) := by decide +kernel
theorem dX11_byRows_95 : decode cX11_byRows 95 = .ok (.goto (-49), 3) := by decide +kernel
theorem dX11_byRows_98 : decode cX11_byRows 98 = .ok (.aload_n 1, 1) := by decide +kernel
theorem dX11_byRows_99 : decode cX11_byRows 99 = .ok (.iload 5, 2) := by decide +kernel
theorem dX11_byRows_101 : decode cX11_byRows 101 = .ok (.invokevirtual 213, 3) := by decide +kernel
theorem dX11_byRows_104 : decode cX11_byRows 104 = .ok (.iinc 4 1, 3) := by decide +kernel
theorem dX11_byRows_107 : decode cX11_byRows 107 = .ok (.goto (-84), 3) := by decide +kernel
theorem dX11_byRows_110 : decode cX11_byRows 110 = .ok (.aload_n 1, 1) := by decide +kernel
theorem dX11_byRows_111 : decode cX11_byRows 111 = .ok (.iload_n 2, 1) := by decide +kernel
theorem dX11_byRows_112 : decode cX11_byRows 112 = .ok (.invokevirtual 213, 3) := by decide +kernel
theorem dX11_byRows_115 : decode cX11_byRows 115 = .ok (.return_, 1) := by decide +kernel
