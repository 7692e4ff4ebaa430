theorem dX8_value_0 : decode cX8_value 0 = .ok (.aload_n 0, 1) := by decide +kernel
theorem dX8_value_1 : decode cX8_value 1 = .ok (.iload_n 1, 1) := by decide +kernel
theorem dX8_value_2 : decode cX8_value 2 = .ok (.invokevirtual 9, 3) := by decide +kernel
theorem dX8_value_5 : decode cX8_value 5 = .ok (.tableswitch 84 0 3 #[31, 41, 64, 74], 31) := by decide +kernel
theorem dX8_value_36 : decode cX8_value 36 = .ok (.aload 4, 2) := by decide +kernel
theorem dX8_value_38 : decode cX8_value 38 = .ok (.ldc 15, 2) := by decide +kernel
theorem dX8_value_40 : decode cX8_value 40 = .ok (.invokevirtual 17, 3) := by decide +kernel
theorem dX8_value_43 : decode cX8_value 43 = .ok (.goto 55, 3) := by decide +kernel
theorem dX8_value_46 : decode cX8_value 46 = .ok (.aload 4, 2) := by decide +kernel
theorem dX8_value_48 : decode cX8_value 48 = .ok (.aload_n 0, 1) := by decide +kernel
theorem dX8_value_49 : decode cX8_value 49 = .ok (.iload_n 1, 1) := by decide +kernel
theorem dX8_value_50 : decode cX8_value 50 = .ok (.invokevirtual 23, 3) := by decide +kernel
theorem dX8_value_53 : decode cX8_value 53 = .ok (.ifCond .eq 8, 3) := by decide +kernel
theorem dX8_value_56 : decode cX8_value 56 = .ok (.ldc 27, 2) := by decide +kernel
theorem dX8_value_58 : decode cX8_value 58 = .ok (.goto 5, 3) := by decide +kernel
theorem dX8_value_61 : decode cX8_value 61 = .ok (.ldc 29, 2) := by decide +kernel
theorem dX8_value_63 : decode cX8_value 63 = .ok (.invokevirtual 17, 3) := by decide +kernel
theorem dX8_value_66 : decode cX8_value 66 = .ok (.goto 32, 3) := by decide +kernel
theorem dX8_value_69 : decode cX8_value 69 = .ok (.aload_n 0, 1) := by decide +kernel
theorem dX8_value_70 : decode cX8_value 70 = .ok (.iload_n 1, 1) := by decide +kernel
theorem dX8_value_71 : decode cX8_value 71 = .ok (.aload 4, 2) := by decide +kernel
theorem dX8_value_73 : decode cX8_value 73 = .ok (.invokestatic 31, 3) := by decide +kernel
theorem dX8_value_76 : decode cX8_value 76 = .ok (.goto 22, 3) := by decide +kernel
theorem dX8_value_79 : decode cX8_value 79 = .ok (.aload_n 0, 1) := by decide +kernel
theorem dX8_value_80 : decode cX8_value 80 = .ok (.iload_n 1, 1) := by decide +kernel
theorem dX8_value_81 : decode cX8_value 81 = .ok (.aload 4, 2) := by decide +kernel
theorem dX8_value_83 : decode cX8_value 83 = .ok (.invokestatic 37, 3) := by decide +kernel
theorem dX8_value_86 : decode cX8_value 86 = .ok (.goto 12, 3) := by decide +kernel
theorem dX8_value_89 : decode cX8_value 89 = .ok (.aload_n 0, 1) := by decide +kernel
theorem dX8_value_90 : decode cX8_value 90 = .ok (.iload_n 1, 1) := by decide +kernel
theorem dX8_value_91 : decode cX8_value 91 = .ok (.iload_n 2, 1) := by decide +kernel
theorem dX8_value_92 : decode cX8_value 92 = .ok (.iload_n 3, 1) := by decide +kernel
theorem dX8_value_93 : decode cX8_value 93 = .ok (.aload 4, 2) := by decide +kernel
theorem dX8_value_95 : decode cX8_value 95 = .ok (.invokestatic 40, 3) := by decide +kernel
theorem dX8_value_98 : decode cX8_value 98 = .ok (.return_, 1) := by decide +kernel
theorem dX8_number_0 : decode cX8_number 0 = .ok (.aload_n 0, 1) := by decide +kernel
theorem dX8_number_1 : decode cX8_number 1 = .ok (.iload_n 1, 1) := by decide +kernel
theorem dX8_number_2 : decode cX8_number 2 = .ok (.aload_n 2, 1) := by decide +kernel
theorem dX8_number_3 : decode cX8_number 3 = .ok (.invokevirtual 44, 3) := by decide +kernel
theorem dX8_number_6 : decode cX8_number 6 = .ok (.aload_n 0, 1) := by decide +kernel
theorem dX8_number_7 : decode cX8_number 7 = .ok (.iload_n 1, 1) := by decide +kernel
theorem dX8_number_8 : decode cX8_number 8 = .ok (.invokevirtual 48, 3) := by decide +kernel
theorem dX8_number_11 : decode cX8_number 11 = .ok (.ifCond .eq 18, 3) := by decide +kernel
theorem dX8_number_14 : decode cX8_number 14 = .ok (.aload_n 2, 1) := by decide +kernel
theorem dX8_number_15 : decode cX8_number 15 = .ok (.bipush 101, 2) := by decide +kernel
theorem dX8_number_17 : decode cX8_number 17 = .ok (.invokevirtual 51, 3) := by decide +kernel
theorem dX8_number_20 : decode cX8_number 20 = .ok (.aload_n 2, 1) := by decide +kernel
theorem dX8_number_21 : decode cX8_number 21 = .ok (.aload_n 0, 1) := by decide +kernel
theorem dX8_number_22 : decode cX8_number 22 = .ok (.iload_n 1, 1) := by decide +kernel
theorem dX8_number_23 : decode cX8_number 23 = .ok (.invokevirtual 48, 3) := by decide +kernel
theorem dX8_number_26 : decode cX8_number 26 = .ok (.invokevirtual 55, 3) := by decide +kernel
theorem dX8_number_29 : decode cX8_number 29 = .ok (.return_, 1) := by decide +kernel
theorem dX8_text_0 : decode cX8_text 0 = .ok (.aload_n 2, 1) := by decide +kernel
theorem dX8_text_1 : decode cX8_text 1 = .ok (.bipush 34, 2) := by decide +kernel
theorem dX8_text_3 : decode cX8_text 3 = .ok (.invokevirtual 51, 3) := by decide +kernel
theorem dX8_text_6 : decode cX8_text 6 = .ok (.iconst 0, 1) := by decide +kernel
theorem dX8_text_7 : decode cX8_text 7 = .ok (.istore_n 3, 1) := by decide +kernel
theorem dX8_text_8 : decode cX8_text 8 = .ok (.iload_n 3, 1) := by decide +kernel
theorem dX8_text_9 : decode cX8_text 9 = .ok (.aload_n 0, 1) := by decide +kernel
theorem dX8_text_10 : decode cX8_text 10 = .ok (.iload_n 1, 1) := by decide +kernel
theorem dX8_text_11 : decode cX8_text 11 = .ok (.invokevirtual 58, 3) := by decide +kernel
theorem dX8_text_14 : decode cX8_text 14 = .ok (.if_icmp .ge 19, 3) := by decide +kernel
theorem dX8_text_17 : decode cX8_text 17 = .ok (.aload_n 2, 1) := by decide +kernel
theorem dX8_text_18 : decode cX8_text 18 = .ok (.aload_n 0, 1) := by decide +kernel
theorem dX8_text_19 : decode cX8_text 19 = .ok (.iload_n 1, 1) := by decide +kernel
theorem dX8_text_20 : decode cX8_text 20 = .ok (.iload_n 3, 1) := by decide +kernel
theorem dX8_text_21 : decode cX8_text 21 = .ok (.invokevirtual 61, 3) := by decide +kernel
theorem dX8_text_24 : decode cX8_text 24 = .ok (.invokevirtual 65, 3) := by decide +kernel
theorem dX8_text_27 : decode cX8_text 27 = .ok (.iinc 3 1, 3) := by decide +kernel
theorem dX8_text_30 : decode cX8_text 30 = .ok (.goto (-22), 3) := by decide +kernel
theorem dX8_text_33 : decode cX8_text 33 = .ok (.aload_n 2, 1) := by decide +kernel
theorem dX8_text_34 : decode cX8_text 34 = .ok (.bipush 34, 2) := by decide +kernel
theorem dX8_text_36 : decode cX8_text 36 = .ok (.invokevirtual 51, 3) := by decide +kernel
theorem dX8_text_39 : decode cX8_text 39 = .ok (.return_, 1) := by decide +kernel
theorem dX8_key_0 : decode cX8_key 0 = .ok (.aload_n 2, 1) := by decide +kernel
theorem dX8_key_1 : decode cX8_key 1 = .ok (.bipush 34, 2) := by decide +kernel
theorem dX8_key_3 : decode cX8_key 3 = .ok (.invokevirtual 51, 3) := by decide +kernel
theorem dX8_key_6 : decode cX8_key 6 = .ok (.iconst 0, 1) := by decide +kernel
theorem dX8_key_7 : decode cX8_key 7 = .ok (.istore_n 3, 1) := by decide +kernel
theorem dX8_key_8 : decode cX8_key 8 = .ok (.iload_n 3, 1) := by decide +kernel
theorem dX8_key_9 : decode cX8_key 9 = .ok (.aload_n 0, 1) := by decide +kernel
theorem dX8_key_10 : decode cX8_key 10 = .ok (.iload_n 1, 1) := by decide +kernel
theorem dX8_key_11 : decode cX8_key 11 = .ok (.invokevirtual 68, 3) := by decide +kernel
theorem dX8_key_14 : decode cX8_key 14 = .ok (.if_icmp .ge 19, 3) := by decide +kernel
theorem dX8_key_17 : decode cX8_key 17 = .ok (.aload_n 2, 1) := by decide +kernel
theorem dX8_key_18 : decode cX8_key 18 = .ok (.aload_n 0, 1) := by decide +kernel
theorem dX8_key_19 : decode cX8_key 19 = .ok (.iload_n 1, 1) := by decide +kernel
theorem dX8_key_20 : decode cX8_key 20 = .ok (.iload_n 3, 1) := by decide +kernel
theorem dX8_key_21 : decode cX8_key 21 = .ok (.invokevirtual 71, 3) := by decide +kernel
theorem dX8_key_24 : decode cX8_key 24 = .ok (.invokevirtual 65, 3) := by decide +kernel
theorem dX8_key_27 : decode cX8_key 27 = .ok (.iinc 3 1, 3) := by decide +kernel
theorem dX8_key_30 : decode cX8_key 30 = .ok (.goto (-22), 3) := by decide +kernel
theorem dX8_key_33 : decode cX8_key 33 = .ok (.aload_n 2, 1) := by decide +kernel
theorem dX8_key_34 : decode cX8_key 34 = .ok (.bipush 34, 2) := by decide +kernel
theorem dX8_key_36 : decode cX8_key 36 = .ok (.invokevirtual 51, 3) := by decide +kernel
theorem dX8_key_39 : decode cX8_key 39 = .ok (.return_, 1) := by decide +kernel
theorem dX8_group_0 : decode cX8_group 0 = .ok (.aload_n 0, 1) := by decide +kernel
theorem dX8_group_1 : decode cX8_group 1 = .ok (.iload_n 1, 1) := by decide +kernel
theorem dX8_group_2 : decode cX8_group 2 = .ok (.iconst 5, 1) := by decide +kernel
theorem dX8_group_3 : decode cX8_group 3 = .ok (.invokevirtual 74, 3) := by decide +kernel
theorem dX8_group_6 : decode cX8_group 6 = .ok (.istore 5, 2) := by decide +kernel
theorem dX8_group_8 : decode cX8_group 8 = .ok (.iload 5, 2) := by decide +kernel
theorem dX8_group_10 : decode cX8_group 10 = .ok (.ifCond .eq 12, 3) := by decide +kernel
theorem dX8_group_13 : decode cX8_group 13 = .ok (.iload_n 2, 1) := by decide +kernel
theorem dX8_group_14 : decode cX8_group 14 = .ok (.iconst 1, 1) := by decide +kernel
theorem dX8_group_15 : decode cX8_group 15 = .ok (.if_icmp .ne 7, 3) := by decide +kernel
theorem dX8_group_18 : decode cX8_group 18 = .ok (.iconst 1, 1) := by decide +kernel
theorem dX8_group_19 : decode cX8_group 19 = .ok (.goto 4, 3) := by decide +kernel
theorem dX8_group_22 : decode cX8_group 22 = .ok (.iconst 0, 1) := by decide +kernel
theorem dX8_group_23 : decode cX8_group 23 = .ok (.istore 6, 2) := by decide +kernel
theorem dX8_group_25 : decode cX8_group 25 = .ok (.iload_n 2, 1) := by decide +kernel
theorem dX8_group_26 : decode cX8_group 26 = .ok (.iconst 2, 1) := by decide +kernel
theorem dX8_group_27 : decode cX8_group 27 = .ok (.if_icmp .ne 16, 3) := by decide +kernel
theorem dX8_group_30 : decode cX8_group 30 = .ok (.aload_n 0, 1) := by decide +kernel
theorem dX8_group_31 : decode cX8_group 31 = .ok (.iload_n 1, 1) := by decide +kernel
theorem dX8_group_32 : decode cX8_group 32 = .ok (.invokevirtual 78, 3) := by decide +kernel
theorem dX8_group_35 : decode cX8_group 35 = .ok (.iconst (-1), 1) := by decide +kernel
theorem dX8_group_36 : decode cX8_group 36 = .ok (.if_icmp .eq 7, 3) := by decide +kernel
theorem dX8_group_39 : decode cX8_group 39 = .ok (.iconst 1, 1) := by decide +kernel
theorem dX8_group_40 : decode cX8_group 40 = .ok (.goto 4, 3) := by decide +kernel
theorem dX8_group_43 : decode cX8_group 43 = .ok (.iconst 0, 1) := by decide +kernel
theorem dX8_group_44 : decode cX8_group 44 = .ok (.istore 7, 2) := by decide +kernel
theorem dX8_group_46 : decode cX8_group 46 = .ok (.aload 4, 2) := by decide +kernel
theorem dX8_group_48 : decode cX8_group 48 = .ok (.iload 5, 2) := by decide +kernel
theorem dX8_group_50 : decode cX8_group 50 = .ok (.ifCond .eq 8, 3) := by decide +kernel
theorem dX8_group_53 : decode cX8_group 53 = .ok (.bipush 123, 2) := by decide +kernel
theorem dX8_group_55 : decode cX8_group 55 = .ok (.goto 5, 3) := by decide +kernel
theorem dX8_group_58 : decode cX8_group 58 = .ok (.bipush 91, 2) := by decide +kernel
theorem dX8_group_60 : decode cX8_group 60 = .ok (.invokevirtual 51, 3) := by decide +kernel
theorem dX8_group_63 : decode cX8_group 63 = .ok (.iload 6, 2) := by decide +kernel
theorem dX8_group_65 : decode cX8_group 65 = .ok (.ifCond .eq 12, 3) := by decide +kernel
theorem dX8_group_68 : decode cX8_group 68 = .ok (.aload_n 0, 1) := by decide +kernel
theorem dX8_group_69 : decode cX8_group 69 = .ok (.iload_n 1, 1) := by decide +kernel
theorem dX8_group_70 : decode cX8_group 70 = .ok (.iconst (-1), 1) := by decide +kernel
theorem dX8_group_71 : decode cX8_group 71 = .ok (.invokevirtual 81, 3) := by decide +kernel
theorem dX8_group_74 : decode cX8_group 74 = .ok (.goto 8, 3) := by decide +kernel
theorem dX8_group_77 : decode cX8_group 77 = .ok (.aload_n 0, 1) := by decide +kernel
theorem dX8_group_78 : decode cX8_group 78 = .ok (.iload_n 1, 1) := by decide +kernel
theorem dX8_group_79 : decode cX8_group 79 = .ok (.invokevirtual 78, 3) := by decide +kernel
theorem dX8_group_82 : decode cX8_group 82 = .ok (.istore 8, 2) := by decide +kernel
theorem dX8_group_84 : decode cX8_group 84 = .ok (.iconst 0, 1) := by decide +kernel
theorem dX8_group_85 : decode cX8_group 85 = .ok (.istore 9, 2) := by decide +kernel
theorem dX8_group_87 : decode cX8_group 87 = .ok (.iload 9, 2) := by decide +kernel
theorem dX8_group_89 : decode cX8_group 89 = .ok (.bipush 100, 2) := by decide +kernel
theorem dX8_group_91 : decode cX8_group 91 = .ok (.if_icmp .ge 112, 3) := by decide +kernel
theorem dX8_group_94 : decode cX8_group 94 = .ok (.iload 8, 2) := by decide +kernel
theorem dX8_group_96 : decode cX8_group 96 = .ok (.iconst (-1), 1) := by decide +kernel
theorem dX8_group_97 : decode cX8_group 97 = .ok (.if_icmp .eq 106, 3) := by decide +kernel
theorem dX8_group_100 : decode cX8_group 100 = .ok (.iload_n 3, 1) := by decide +kernel
theorem dX8_group_101 : decode cX8_group 101 = .ok (.bipush 12, 2) := by decide +kernel
theorem dX8_group_103 : decode cX8_group 103 = .ok (.if_icmp .gt 100, 3) := by decide +kernel
theorem dX8_group_106 : decode cX8_group 106 = .ok (.iload 9, 2) := by decide +kernel
theorem dX8_group_108 : decode cX8_group 108 = .ok (.ifCond .le 10, 3) := by decide +kernel
theorem dX8_group_111 : decode cX8_group 111 = .ok (.aload 4, 2) := by decide +kernel
theorem dX8_group_113 : decode cX8_group 113 = .ok (.bipush 44, 2) := by decide +kernel
theorem dX8_group_115 : decode cX8_group 115 = .ok (.invokevirtual 51, 3) := by decide +kernel
theorem dX8_group_118 : decode cX8_group 118 = .ok (.iload 7, 2) := by decide +kernel
theorem dX8_group_120 : decode cX8_group 120 = .ok (.ifCond .eq 11, 3) := by decide +kernel
theorem dX8_group_123 : decode cX8_group 123 = .ok (.iload_n 3, 1) := by decide +kernel
theorem dX8_group_124 : decode cX8_group 124 = .ok (.iconst 1, 1) := by decide +kernel
theorem dX8_group_125 : decode cX8_group 125 = .ok (.iadd, 1) := by decide +kernel
theorem dX8_group_126 : decode cX8_group 126 = .ok (.aload 4, 2) := by decide +kernel
theorem dX8_group_128 : decode cX8_group 128 = .ok (.invokestatic 84, 3) := by decide +kernel
theorem dX8_group_131 : decode cX8_group 131 = .ok (.iload 5, 2) := by decide +kernel
theorem dX8_group_133 : decode cX8_group 133 = .ok (.ifCond .eq 28, 3) := by decide +kernel
theorem dX8_group_136 : decode cX8_group 136 = .ok (.aload_n 0, 1) := by decide +kernel
theorem dX8_group_137 : decode cX8_group 137 = .ok (.iload 8, 2) := by decide +kernel
theorem dX8_group_139 : decode cX8_group 139 = .ok (.aload 4, 2) := by decide +kernel
theorem dX8_group_141 : decode cX8_group 141 = .ok (.invokestatic 87, 3) := by decide +kernel
theorem dX8_group_144 : decode cX8_group 144 = .ok (.aload 4, 2) := by decide +kernel
theorem dX8_group_146 : decode cX8_group 146 = .ok (.iload 7, 2) := by decide +kernel
theorem dX8_group_148 : decode cX8_group 148 = .ok (.ifCond .eq 8, 3) := by decide +kernel
theorem dX8_group_151 : decode cX8_group 151 = .ok (.ldc 90, 2) := by decide +kernel
theorem dX8_group_153 : decode cX8_group 153 = .ok (.goto 5, 3) := by decide +kernel
theorem dX8_group_156 : decode cX8_group 156 = .ok (.ldc 92, 2) := by decide +kernel
theorem dX8_group_158 : decode cX8_group 158 = .ok (.invokevirtual 17, 3) := by decide +kernel
theorem dX8_group_161 : decode cX8_group 161 = .ok (.aload_n 0, 1) := by decide +kernel
theorem dX8_group_162 : decode cX8_group 162 = .ok (.iload 8, 2) := by decide +kernel
theorem dX8_group_164 : decode cX8_group 164 = .ok (.iload_n 2, 1) := by decide +kernel
theorem dX8_group_165 : decode cX8_group 165 = .ok (.iload_n 3, 1) := by decide +kernel
theorem dX8_group_166 : decode cX8_group 166 = .ok (.iconst 1, 1) := by decide +kernel
theorem dX8_group_167 : decode cX8_group 167 = .ok (.iadd, 1) := by decide +kernel
theorem dX8_group_168 : decode cX8_group 168 = .ok (.aload 4, 2) := by decide +kernel
theorem dX8_group_170 : decode cX8_group 170 = .ok (.invokestatic 94, 3) := by decide +kernel
theorem dX8_group_173 : decode cX8_group 173 = .ok (.iload 6, 2) := by decide +kernel
theorem dX8_group_175 : decode cX8_group 175 = .ok (.ifCond .eq 13, 3) := by decide +kernel
theorem dX8_group_178 : decode cX8_group 178 = .ok (.aload_n 0, 1) := by decide +kernel
theorem dX8_group_179 : decode cX8_group 179 = .ok (.iload_n 1, 1) := by decide +kernel
theorem dX8_group_180 : decode cX8_group 180 = .ok (.iload 8, 2) := by decide +kernel
theorem dX8_group_182 : decode cX8_group 182 = .ok (.invokevirtual 81, 3) := by decide +kernel
theorem dX8_group_185 : decode cX8_group 185 = .ok (.goto 10, 3) := by decide +kernel
theorem dX8_group_188 : decode cX8_group 188 = .ok (.aload_n 0, 1) := by decide +kernel
theorem dX8_group_189 : decode cX8_group 189 = .ok (.iload_n 1, 1) := by decide +kernel
theorem dX8_group_190 : decode cX8_group 190 = .ok (.iload 8, 2) := by decide +kernel
theorem dX8_group_192 : decode cX8_group 192 = .ok (.invokevirtual 97, 3) := by decide +kernel
theorem dX8_group_195 : decode cX8_group 195 = .ok (.istore 8, 2) := by decide +kernel
theorem dX8_group_197 : decode cX8_group 197 = .ok (.iinc 9 1, 3) := by decide +kernel
theorem dX8_group_200 : decode cX8_group 200 = .ok (.goto (-113), 3) := by decide +kernel
theorem dX8_group_203 : decode cX8_group 203 = .ok (.iload 7, 2) := by decide +kernel
theorem dX8_group_205 : decode cX8_group 205 = .ok (.ifCond .eq 9, 3) := by decide +kernel
theorem dX8_group_208 : decode cX8_group 208 = .ok (.iload_n 3, 1) := by decide +kernel
theorem dX8_group_209 : decode cX8_group 209 = .ok (.aload 4, 2) := by decide +kernel
theorem dX8_group_211 : decode cX8_group 211 = .ok (.invokestatic 84, 3) := by decide +kernel
theorem dX8_group_214 : decode cX8_group 214 = .ok (.aload 4, 2) := by decide +kernel
theorem dX8_group_216 : decode cX8_group 216 = .ok (.iload 5, 2) := by decide +kernel
theorem dX8_group_218 : decode cX8_group 218 = .ok (.ifCond .eq 8, 3) := by decide +kernel
theorem dX8_group_221 : decode cX8_group 221 = .ok (.bipush 125, 2) := by decide +kernel
theorem dX8_group_223 : decode cX8_group 223 = .ok (.goto 5, 3) := by decide +kernel
theorem dX8_group_226 : decode cX8_group 226 = .ok (.bipush 93, 2) := by decide +kernel
theorem dX8_group_228 : decode cX8_group 228 = .ok (.invokevirtual 51, 3) := by decide +kernel
theorem dX8_group_231 : decode cX8_group 231 = .ok (.return_, 1) := by decide +kernel
theorem dX8_line_0 : decode cX8_line 0 = .ok (.aload_n 1, 1) := by decide +kernel
theorem dX8_line_1 : decode cX8_line 1 = .ok (.bipush 10, 2) := by decide +kernel
theorem dX8_line_3 : decode cX8_line 3 = .ok (.invokevirtual 51, 3) := by decide +kernel
theorem dX8_line_6 : decode cX8_line 6 = .ok (.iconst 0, 1) := by decide +kernel
theorem dX8_line_7 : decode cX8_line 7 = .ok (.istore_n 2, 1) := by decide +kernel
theorem dX8_line_8 : decode cX8_line 8 = .ok (.iload_n 2, 1) := by decide +kernel
theorem dX8_line_9 : decode cX8_line 9 = .ok (.iload_n 0, 1) := by decide +kernel
theorem dX8_line_10 : decode cX8_line 10 = .ok (.if_icmp .ge 15, 3) := by decide +kernel
theorem dX8_line_13 : decode cX8_line 13 = .ok (.aload_n 1, 1) := by decide +kernel
theorem dX8_line_14 : decode cX8_line 14 = .ok (.ldc 100, 2) := by decide +kernel
theorem dX8_line_16 : decode cX8_line 16 = .ok (.invokevirtual 17, 3) := by decide +kernel
theorem dX8_line_19 : decode cX8_line 19 = .ok (.iinc 2 1, 3) := by decide +kernel
theorem dX8_line_22 : decode cX8_line 22 = .ok (.goto (-14), 3) := by decide +kernel
theorem dX8_line_25 : decode cX8_line 25 = .ok (.return_, 1) := by decide +kernel
theorem dX8_standardTo_0 : decode cX8_standardTo 0 = .ok (.aload_n 0, 1) := by decide +kernel
theorem dX8_standardTo_1 : decode cX8_standardTo 1 = .ok (.invokevirtual 102, 3) := by decide +kernel
theorem dX8_standardTo_4 : decode cX8_standardTo 4 = .ok (.aload_n 0, 1) := by decide +kernel
theorem dX8_standardTo_5 : decode cX8_standardTo 5 = .ok (.ldc 105, 2) := by decide +kernel
theorem dX8_standardTo_7 : decode cX8_standardTo 7 = .ok (.invokevirtual 17, 3) := by decide +kernel
theorem dX8_standardTo_10 : decode cX8_standardTo 10 = .ok (.aload_n 0, 1) := by decide +kernel
theorem dX8_standardTo_11 : decode cX8_standardTo 11 = .ok (.ldc 107, 2) := by decide +kernel
theorem dX8_standardTo_13 : decode cX8_standardTo 13 = .ok (.invokevirtual 17, 3) := by decide +kernel
theorem dX8_standardTo_16 : decode cX8_standardTo 16 = .ok (.aload_n 0, 1) := by decide +kernel
theorem dX8_standardTo_17 : decode cX8_standardTo 17 = .ok (.ldc 109, 2) := by decide +kernel
theorem dX8_standardTo_19 : decode cX8_standardTo 19 = .ok (.invokevirtual 17, 3) := by decide +kernel
theorem dX8_standardTo_22 : decode cX8_standardTo 22 = .ok (.aload_n 0, 1) := by decide +kernel
theorem dX8_standardTo_23 : decode cX8_standardTo 23 = .ok (.ldc 111, 2) := by decide +kernel
theorem dX8_standardTo_25 : decode cX8_standardTo 25 = .ok (.invokevirtual 17, 3) := by decide +kernel
theorem dX8_standardTo_28 : decode cX8_standardTo 28 = .ok (.aload_n 0, 1) := by decide +kernel
theorem dX8_standardTo_29 : decode cX8_standardTo 29 = .ok (.ldc 113, 2) := by decide +kernel
theorem dX8_standardTo_31 : decode cX8_standardTo 31 = .ok (.invokevirtual 17, 3) := by decide +kernel
theorem dX8_standardTo_34 : decode cX8_standardTo 34 = .ok (.aload_n 0, 1) := by decide +kernel
theorem dX8_standardTo_35 : decode cX8_standardTo 35 = .ok (.ldc 115, 2) := by decide +kernel
theorem dX8_standardTo_37 : decode cX8_standardTo 37 = .ok (.invokevirtual 17, 3) := by decide +kernel
theorem dX8_standardTo_40 : decode cX8_standardTo 40 = .ok (.aload_n 0, 1) := by decide +kernel
theorem dX8_standardTo_41 : decode cX8_standardTo 41 = .ok (.ldc 117, 2) := by decide +kernel
theorem dX8_standardTo_43 : decode cX8_standardTo 43 = .ok (.invokevirtual 17, 3) := by decide +kernel
theorem dX8_standardTo_46 : decode cX8_standardTo 46 = .ok (.aload_n 0, 1) := by decide +kernel
theorem dX8_standardTo_47 : decode cX8_standardTo 47 = .ok (.ldc 119, 2) := by decide +kernel
theorem dX8_standardTo_49 : decode cX8_standardTo 49 = .ok (.invokevirtual 17, 3) := by decide +kernel
theorem dX8_standardTo_52 : decode cX8_standardTo 52 = .ok (.aload_n 0, 1) := by decide +kernel
theorem dX8_standardTo_53 : decode cX8_standardTo 53 = .ok (.ldc 121, 2) := by decide +kernel
theorem dX8_standardTo_55 : decode cX8_standardTo 55 = .ok (.invokevirtual 17, 3) := by decide +kernel
theorem dX8_standardTo_58 : decode cX8_standardTo 58 = .ok (.aload_n 0, 1) := by decide +kernel
theorem dX8_standardTo_59 : decode cX8_standardTo 59 = .ok (.ldc 123, 2) := by decide +kernel
theorem dX8_standardTo_61 : decode cX8_standardTo 61 = .ok (.invokevirtual 17, 3) := by decide +kernel
theorem dX8_standardTo_64 : decode cX8_standardTo 64 = .ok (.aload_n 0, 1) := by decide +kernel
theorem dX8_standardTo_65 : decode cX8_standardTo 65 = .ok (.ldc 125, 2) := by decide +kernel
theorem dX8_standardTo_67 : decode cX8_standardTo 67 = .ok (.invokevirtual 17, 3) := by decide +kernel
theorem dX8_standardTo_70 : decode cX8_standardTo 70 = .ok (.aload_n 0, 1) := by decide +kernel
theorem dX8_standardTo_71 : decode cX8_standardTo 71 = .ok (.ldc 127, 2) := by decide +kernel
theorem dX8_standardTo_73 : decode cX8_standardTo 73 = .ok (.invokevirtual 17, 3) := by decide +kernel
theorem dX8_standardTo_76 : decode cX8_standardTo 76 = .ok (.return_, 1) := by decide +kernel
theorem dX7_init_0 : decode cX7_init 0 = .ok (.aload_n 0, 1) := by decide +kernel
theorem dX7_init_1 : decode cX7_init 1 = .ok (.invokespecial 3, 3) := by decide +kernel
theorem dX7_init_4 : decode cX7_init 4 = .ok (.aload_n 0, 1) := by decide +kernel
theorem dX7_init_5 : decode cX7_init 5 = .ok (.new 9, 3) := by decide +kernel
theorem dX7_init_8 : decode cX7_init 8 = .ok (.dup, 1) := by decide +kernel
theorem dX7_init_9 : decode cX7_init 9 = .ok (.sipush 400, 3) := by decide +kernel
theorem dX7_init_12 : decode cX7_init 12 = .ok (.invokespecial 11, 3) := by decide +kernel
theorem dX7_init_15 : decode cX7_init 15 = .ok (.putfield 14, 3) := by decide +kernel
theorem dX7_init_18 : decode cX7_init 18 = .ok (.aload_n 0, 1) := by decide +kernel
theorem dX7_init_19 : decode cX7_init 19 = .ok (.new 9, 3) := by decide +kernel
theorem dX7_init_22 : decode cX7_init 22 = .ok (.dup, 1) := by decide +kernel
theorem dX7_init_23 : decode cX7_init 23 = .ok (.sipush 400, 3) := by decide +kernel
theorem dX7_init_26 : decode cX7_init 26 = .ok (.invokespecial 11, 3) := by decide +kernel
theorem dX7_init_29 : decode cX7_init 29 = .ok (.putfield 20, 3) := by decide +kernel
theorem dX7_init_32 : decode cX7_init 32 = .ok (.aload_n 0, 1) := by decide +kernel
theorem dX7_init_33 : decode cX7_init 33 = .ok (.sipush 400, 3) := by decide +kernel
theorem dX7_init_36 : decode cX7_init 36 = .ok (.newarray .int, 2) := by decide +kernel
theorem dX7_init_38 : decode cX7_init 38 = .ok (.putfield 23, 3) := by decide +kernel
theorem dX7_init_41 : decode cX7_init 41 = .ok (.return_, 1) := by decide +kernel
theorem dX7_steps_0 : decode cX7_steps 0 = .ok (.aload_n 0, 1) := by decide +kernel
theorem dX7_steps_1 : decode cX7_steps 1 = .ok (.getfield 27, 3) := by decide +kernel
theorem dX7_steps_4 : decode cX7_steps 4 = .ok (.ireturn, 1) := by decide +kernel
theorem dX7_load_0 : decode cX7_load 0 = .ok (.aload_n 0, 1) := by decide +kernel
theorem dX7_load_1 : decode cX7_load 1 = .ok (.getfield 14, 3) := by decide +kernel
theorem dX7_load_4 : decode cX7_load 4 = .ok (.invokevirtual 31, 3) := by decide +kernel
theorem dX7_load_7 : decode cX7_load 7 = .ok (.aload_n 0, 1) := by decide +kernel
theorem dX7_load_8 : decode cX7_load 8 = .ok (.getfield 14, 3) := by decide +kernel
theorem dX7_load_11 : decode cX7_load 11 = .ok (.aload_n 1, 1) := by decide +kernel
theorem dX7_load_12 : decode cX7_load 12 = .ok (.iconst 0, 1) := by decide +kernel
theorem dX7_load_13 : decode cX7_load 13 = .ok (.aload_n 1, 1) := by decide +kernel
theorem dX7_load_14 : decode cX7_load 14 = .ok (.invokevirtual 34, 3) := by decide +kernel
theorem dX7_load_17 : decode cX7_load 17 = .ok (.invokevirtual 38, 3) := by decide +kernel
theorem dX7_load_20 : decode cX7_load 20 = .ok (.aload_n 0, 1) := by decide +kernel
theorem dX7_load_21 : decode cX7_load 21 = .ok (.invokevirtual 42, 3) := by decide +kernel
theorem dX7_load_24 : decode cX7_load 24 = .ok (.ireturn, 1) := by decide +kernel
theorem dX7_loadText_0 : decode cX7_loadText 0 = .ok (.aload_n 0, 1) := by decide +kernel
theorem dX7_loadText_1 : decode cX7_loadText 1 = .ok (.getfield 14, 3) := by decide +kernel
theorem dX7_loadText_4 : decode cX7_loadText 4 = .ok (.invokevirtual 31, 3) := by decide +kernel
theorem dX7_loadText_7 : decode cX7_loadText 7 = .ok (.aload_n 1, 1) := by decide +kernel
theorem dX7_loadText_8 : decode cX7_loadText 8 = .ok (.iload_n 2, 1) := by decide +kernel
theorem dX7_loadText_9 : decode cX7_loadText 9 = .ok (.aload_n 0, 1) := by decide +kernel
theorem dX7_loadText_10 : decode cX7_loadText 10 = .ok (.getfield 14, 3) := by decide +kernel
theorem dX7_loadText_13 : decode cX7_loadText 13 = .ok (.invokevirtual 46, 3) := by decide +kernel
theorem dX7_loadText_16 : decode cX7_loadText 16 = .ok (.aload_n 1, 1) := by decide +kernel
theorem dX7_loadText_17 : decode cX7_loadText 17 = .ok (.iload_n 2, 1) := by decide +kernel
theorem dX7_loadText_18 : decode cX7_loadText 18 = .ok (.iconst 3, 1) := by decide +kernel
theorem dX7_loadText_19 : decode cX7_loadText 19 = .ok (.invokevirtual 52, 3) := by decide +kernel
theorem dX7_loadText_22 : decode cX7_loadText 22 = .ok (.ifCond .eq 14, 3) := by decide +kernel
theorem dX7_loadText_25 : decode cX7_loadText 25 = .ok (.aload_n 0, 1) := by decide +kernel
theorem dX7_loadText_26 : decode cX7_loadText 26 = .ok (.invokevirtual 42, 3) := by decide +kernel
theorem dX7_loadText_29 : decode cX7_loadText 29 = .ok (.ifCond .eq 7, 3) := by decide +kernel
theorem dX7_loadText_32 : decode cX7_loadText 32 = .ok (.iconst 1, 1) := by decide +kernel
theorem dX7_loadText_33 : decode cX7_loadText 33 = .ok (.goto 4, 3) := by decide +kernel
theorem dX7_loadText_36 : decode cX7_loadText 36 = .ok (.iconst 0, 1) := by decide +kernel
theorem dX7_loadText_37 : decode cX7_loadText 37 = .ok (.ireturn, 1) := by decide +kernel
theorem dX7_divide_0 : decode cX7_divide 0 = .ok (.aload_n 0, 1) := by decide +kernel
theorem dX7_divide_1 : decode cX7_divide 1 = .ok (.iconst 0, 1) := by decide +kernel
theorem dX7_divide_2 : decode cX7_divide 2 = .ok (.putfield 27, 3) := by decide +kernel
theorem dX7_divide_5 : decode cX7_divide 5 = .ok (.aload_n 0, 1) := by decide +kernel
theorem dX7_divide_6 : decode cX7_divide 6 = .ok (.getfield 14, 3) := by decide +kernel
theorem dX7_divide_9 : decode cX7_divide 9 = .ok (.invokevirtual 34, 3) := by decide +kernel
theorem dX7_divide_12 : decode cX7_divide 12 = .ok (.ifCond .eq 16, 3) := by decide +kernel
theorem dX7_divide_15 : decode cX7_divide 15 = .ok (.aload_n 0, 1) := by decide +kernel
theorem dX7_divide_16 : decode cX7_divide 16 = .ok (.getfield 14, 3) := by decide +kernel
theorem dX7_divide_19 : decode cX7_divide 19 = .ok (.iconst 0, 1) := by decide +kernel
theorem dX7_divide_20 : decode cX7_divide 20 = .ok (.invokevirtual 56, 3) := by decide +kernel
theorem dX7_divide_23 : decode cX7_divide 23 = .ok (.bipush 47, 2) := by decide +kernel
theorem dX7_divide_25 : decode cX7_divide 25 = .ok (.if_icmp .ne 7, 3) := by decide +kernel
theorem dX7_divide_28 : decode cX7_divide 28 = .ok (.iconst 1, 1) := by decide +kernel
theorem dX7_divide_29 : decode cX7_divide 29 = .ok (.goto 4, 3) := by decide +kernel
theorem dX7_divide_32 : decode cX7_divide 32 = .ok (.iconst 0, 1) := by decide +kernel
theorem dX7_divide_33 : decode cX7_divide 33 = .ok (.istore_n 1, 1) := by decide +kernel
theorem dX7_divide_34 : decode cX7_divide 34 = .ok (.iconst 0, 1) := by decide +kernel
theorem dX7_divide_35 : decode cX7_divide 35 = .ok (.istore_n 2, 1) := by decide +kernel
theorem dX7_divide_36 : decode cX7_divide 36 = .ok (.iload_n 2, 1) := by decide +kernel
theorem dX7_divide_37 : decode cX7_divide 37 = .ok (.aload_n 0, 1) := by decide +kernel
theorem dX7_divide_38 : decode cX7_divide 38 = .ok (.getfield 14, 3) := by decide +kernel
theorem dX7_divide_41 : decode cX7_divide 41 = .ok (.invokevirtual 34, 3) := by decide +kernel
theorem dX7_divide_44 : decode cX7_divide 44 = .ok (.if_icmp .ge 112, 3) := by decide +kernel
theorem dX7_divide_47 : decode cX7_divide 47 = .ok (.iload_n 1, 1) := by decide +kernel
theorem dX7_divide_48 : decode cX7_divide 48 = .ok (.ifCond .eq 108, 3) := by decide +kernel
theorem dX7_divide_51 : decode cX7_divide 51 = .ok (.aload_n 0, 1) := by decide +kernel
theorem dX7_divide_52 : decode cX7_divide 52 = .ok (.getfield 14, 3) := by decide +kernel
theorem dX7_divide_55 : decode cX7_divide 55 = .ok (.iload_n 2, 1) := by decide +kernel
theorem dX7_divide_56 : decode cX7_divide 56 = .ok (.iconst 1, 1) := by decide +kernel
theorem dX7_divide_57 : decode cX7_divide 57 = .ok (.iadd, 1) := by decide +kernel
theorem dX7_divide_58 : decode cX7_divide 58 = .ok (.invokevirtual 56, 3) := by decide +kernel
theorem dX7_divide_61 : decode cX7_divide 61 = .ok (.istore_n 3, 1) := by decide +kernel
theorem dX7_divide_62 : decode cX7_divide 62 = .ok (.aload_n 0, 1) := by decide +kernel
theorem dX7_divide_63 : decode cX7_divide 63 = .ok (.getfield 14, 3) := by decide +kernel
theorem dX7_divide_66 : decode cX7_divide 66 = .ok (.iload_n 2, 1) := by decide +kernel
theorem dX7_divide_67 : decode cX7_divide 67 = .ok (.invokevirtual 56, 3) := by decide +kernel
theorem dX7_divide_70 : decode cX7_divide 70 = .ok (.bipush 126, 2) := by decide +kernel
theorem dX7_divide_72 : decode cX7_divide 72 = .ok (.if_icmp .ne 24, 3) := by decide +kernel
theorem dX7_divide_75 : decode cX7_divide 75 = .ok (.iload_n 3, 1) := by decide +kernel
theorem dX7_divide_76 : decode cX7_divide 76 = .ok (.bipush 48, 2) := by decide +kernel
theorem dX7_divide_78 : decode cX7_divide 78 = .ok (.if_icmp .eq 9, 3) := by decide +kernel
theorem dX7_divide_81 : decode cX7_divide 81 = .ok (.iload_n 3, 1) := by decide +kernel
theorem dX7_divide_82 : decode cX7_divide 82 = .ok (.bipush 49, 2) := by decide +kernel
theorem dX7_divide_84 : decode cX7_divide 84 = .ok (.if_icmp .ne 7, 3) := by decide +kernel
theorem dX7_divide_87 : decode cX7_divide 87 = .ok (.iconst 1, 1) := by decide +kernel
theorem dX7_divide_88 : decode cX7_divide 88 = .ok (.goto 4, 3) := by decide +kernel
theorem dX7_divide_91 : decode cX7_divide 91 = .ok (.iconst 0, 1) := by decide +kernel
theorem dX7_divide_92 : decode cX7_divide 92 = .ok (.istore_n 1, 1) := by decide +kernel
theorem dX7_divide_93 : decode cX7_divide 93 = .ok (.goto 57, 3) := by decide +kernel
theorem dX7_divide_96 : decode cX7_divide 96 = .ok (.aload_n 0, 1) := by decide +kernel
theorem dX7_divide_97 : decode cX7_divide 97 = .ok (.getfield 14, 3) := by decide +kernel
theorem dX7_divide_100 : decode cX7_divide 100 = .ok (.iload_n 2, 1) := by decide +kernel
theorem dX7_divide_101 : decode cX7_divide 101 = .ok (.invokevirtual 56, 3) := by decide +kernel
theorem dX7_divide_104 : decode cX7_divide 104 = .ok (.bipush 47, 2) := by decide +kernel
theorem dX7_divide_106 : decode cX7_divide 106 = .ok (.if_icmp .ne 44, 3) := by decide +kernel
theorem dX7_divide_109 : decode cX7_divide 109 = .ok (.aload_n 0, 1) := by decide +kernel
theorem dX7_divide_110 : decode cX7_divide 110 = .ok (.getfield 27, 3) := by decide +kernel
theorem dX7_divide_113 : decode cX7_divide 113 = .ok (.ifCond .lt 37, 3) := by decide +kernel
theorem dX7_divide_116 : decode cX7_divide 116 = .ok (.aload_n 0, 1) := by decide +kernel
theorem dX7_divide_117 : decode cX7_divide 117 = .ok (.getfield 27, 3) := by decide +kernel
theorem dX7_divide_120 : decode cX7_divide 120 = .ok (.aload_n 0, 1) := by decide +kernel
theorem dX7_divide_121 : decode cX7_divide 121 = .ok (.getfield 23, 3) := by decide +kernel
theorem dX7_divide_124 : decode cX7_divide 124 = .ok (.arraylength, 1) := by decide +kernel
theorem dX7_divide_125 : decode cX7_divide 125 = .ok (.if_icmp .ge 25, 3) := by decide +kernel
theorem dX7_divide_128 : decode cX7_divide 128 = .ok (.aload_n 0, 1) := by decide +kernel
theorem dX7_divide_129 : decode cX7_divide 129 = .ok (.getfield 23, 3) := by decide +kernel
theorem dX7_divide_132 : decode cX7_divide 132 = .ok (.aload_n 0, 1) := by decide +kernel
theorem dX7_divide_133 : decode cX7_divide 133 = .ok (.getfield 27, 3) := by decide +kernel
theorem dX7_divide_136 : decode cX7_divide 136 = .ok (.iload_n 2, 1) := by decide +kernel
theorem dX7_divide_137 : decode cX7_divide 137 = .ok (.iconst 1, 1) := by decide +kernel
theorem dX7_divide_138 : decode cX7_divide 138 = .ok (.iadd, 1) := by decide +kernel
theorem dX7_divide_139 : decode cX7_divide 139 = .ok (.iastore, 1) := by decide +kernel
theorem dX7_divide_140 : decode cX7_divide 140 = .ok (.aload_n 0, 1) := by decide +kernel
theorem dX7_divide_141 : decode cX7_divide 141 = .ok (.dup, 1) := by decide +kernel
theorem dX7_divide_142 : decode cX7_divide 142 = .ok (.getfield 27, 3) := by decide +kernel
theorem dX7_divide_145 : decode cX7_divide 145 = .ok (.iconst 1, 1) := by decide +kernel
theorem dX7_divide_146 : decode cX7_divide 146 = .ok (.iadd, 1) := by decide +kernel
theorem dX7_divide_147 : decode cX7_divide 147 = .ok (.putfield 27, 3) := by decide +kernel
theorem dX7_divide_150 : decode cX7_divide 150 = .ok (.iinc 2 1, 3) := by decide +kernel
theorem dX7_divide_153 : decode cX7_divide 153 = .ok (.goto (-117), 3) := by decide +kernel
theorem dX7_divide_156 : decode cX7_divide 156 = .ok (.iload_n 1, 1) := by decide +kernel
theorem dX7_divide_157 : decode cX7_divide 157 = .ok (.ireturn, 1) := by decide +kernel
theorem dX7_startOf_0 : decode cX7_startOf 0 = .ok (.iload_n 1, 1) := by decide +kernel
theorem dX7_startOf_1 : decode cX7_startOf 1 = .ok (.ifCond .lt 29, 3) := by decide +kernel
theorem dX7_startOf_4 : decode cX7_startOf 4 = .ok (.iload_n 1, 1) := by decide +kernel
theorem dX7_startOf_5 : decode cX7_startOf 5 = .ok (.aload_n 0, 1) := by decide +kernel
theorem dX7_startOf_6 : decode cX7_startOf 6 = .ok (.getfield 27, 3) := by decide +kernel
theorem dX7_startOf_9 : decode cX7_startOf 9 = .ok (.if_icmp .ge 21, 3) := by decide +kernel
theorem dX7_startOf_12 : decode cX7_startOf 12 = .ok (.iload_n 1, 1) := by decide +kernel
theorem dX7_startOf_13 : decode cX7_startOf 13 = .ok (.aload_n 0, 1) := by decide +kernel
theorem dX7_startOf_14 : decode cX7_startOf 14 = .ok (.getfield 23, 3) := by decide +kernel
theorem dX7_startOf_17 : decode cX7_startOf 17 = .ok (.arraylength, 1) := by decide +kernel
theorem dX7_startOf_18 : decode cX7_startOf 18 = .ok (.if_icmp .ge 12, 3) := by decide +kernel
theorem dX7_startOf_21 : decode cX7_startOf 21 = .ok (.aload_n 0, 1) := by decide +kernel
theorem dX7_startOf_22 : decode cX7_startOf 22 = .ok (.getfield 23, 3) := by decide +kernel
theorem dX7_startOf_25 : decode cX7_startOf 25 = .ok (.iload_n 1, 1) := by decide +kernel
theorem dX7_startOf_26 : decode cX7_startOf 26 = .ok (.iaload, 1) := by decide +kernel
theorem dX7_startOf_27 : decode cX7_startOf 27 = .ok (.goto 12, 3) := by decide +kernel
theorem dX7_startOf_30 : decode cX7_startOf 30 = .ok (.aload_n 0, 1) := by decide +kernel
theorem dX7_startOf_31 : decode cX7_startOf 31 = .ok (.getfield 14, 3) := by decide +kernel
theorem dX7_startOf_34 : decode cX7_startOf 34 = .ok (.invokevirtual 34, 3) := by decide +kernel
theorem dX7_startOf_37 : decode cX7_startOf 37 = .ok (.iconst 1, 1) := by decide +kernel
theorem dX7_startOf_38 : decode cX7_startOf 38 = .ok (.iadd, 1) := by decide +kernel
theorem dX7_startOf_39 : decode cX7_startOf 39 = .ok (.ireturn, 1) := by decide +kernel
theorem dX7_wordTo_0 : decode cX7_wordTo 0 = .ok (.aload_n 2, 1) := by decide +kernel
theorem dX7_wordTo_1 : decode cX7_wordTo 1 = .ok (.invokevirtual 31, 3) := by decide +kernel
theorem dX7_wordTo_4 : decode cX7_wordTo 4 = .ok (.aload_n 0, 1) := by decide +kernel
theorem dX7_wordTo_5 : decode cX7_wordTo 5 = .ok (.iload_n 1, 1) := by decide +kernel
theorem dX7_wordTo_6 : decode cX7_wordTo 6 = .ok (.iconst 1, 1) := by decide +kernel
theorem dX7_wordTo_7 : decode cX7_wordTo 7 = .ok (.iadd, 1) := by decide +kernel
theorem dX7_wordTo_8 : decode cX7_wordTo 8 = .ok (.invokevirtual 60, 3) := by decide +kernel
theorem dX7_wordTo_11 : decode cX7_wordTo 11 = .ok (.iconst 1, 1) := by decide +kernel
theorem dX7_wordTo_12 : decode cX7_wordTo 12 = .ok (.isub, 1) := by decide +kernel
theorem dX7_wordTo_13 : decode cX7_wordTo 13 = .ok (.istore_n 3, 1) := by decide +kernel
theorem dX7_wordTo_14 : decode cX7_wordTo 14 = .ok (.aload_n 0, 1) := by decide +kernel
theorem dX7_wordTo_15 : decode cX7_wordTo 15 = .ok (.iload_n 1, 1) := by decide +kernel
theorem dX7_wordTo_16 : decode cX7_wordTo 16 = .ok (.invokevirtual 60, 3) := by decide +kernel
theorem dX7_wordTo_19 : decode cX7_wordTo 19 = .ok (.istore 4, 2) := by decide +kernel
theorem dX7_wordTo_21 : decode cX7_wordTo 21 = .ok (.iload 4, 2) := by decide +kernel
theorem dX7_wordTo_23 : decode cX7_wordTo 23 = .ok (.iload_n 3, 1) := by decide +kernel
theorem dX7_wordTo_24 : decode cX7_wordTo 24 = .ok (.if_icmp .ge 67, 3) := by decide +kernel
theorem dX7_wordTo_27 : decode cX7_wordTo 27 = .ok (.aload_n 0, 1) := by decide +kernel
theorem dX7_wordTo_28 : decode cX7_wordTo 28 = .ok (.getfield 14, 3) := by decide +kernel
theorem dX7_wordTo_31 : decode cX7_wordTo 31 = .ok (.iload 4, 2) := by decide +kernel
theorem dX7_wordTo_33 : decode cX7_wordTo 33 = .ok (.invokevirtual 56, 3) := by decide +kernel
theorem dX7_wordTo_36 : decode cX7_wordTo 36 = .ok (.bipush 126, 2) := by decide +kernel
theorem dX7_wordTo_38 : decode cX7_wordTo 38 = .ok (.if_icmp .ne 34, 3) := by decide +kernel
theorem dX7_wordTo_41 : decode cX7_wordTo 41 = .ok (.iinc 4 1, 3) := by decide +kernel
theorem dX7_wordTo_44 : decode cX7_wordTo 44 = .ok (.aload_n 2, 1) := by decide +kernel
theorem dX7_wordTo_45 : decode cX7_wordTo 45 = .ok (.aload_n 0, 1) := by decide +kernel
theorem dX7_wordTo_46 : decode cX7_wordTo 46 = .ok (.getfield 14, 3) := by decide +kernel
theorem dX7_wordTo_49 : decode cX7_wordTo 49 = .ok (.iload 4, 2) := by decide +kernel
theorem dX7_wordTo_51 : decode cX7_wordTo 51 = .ok (.invokevirtual 56, 3) := by decide +kernel
theorem dX7_wordTo_54 : decode cX7_wordTo 54 = .ok (.bipush 48, 2) := by decide +kernel
theorem dX7_wordTo_56 : decode cX7_wordTo 56 = .ok (.if_icmp .ne 8, 3) := by decide +kernel
theorem dX7_wordTo_59 : decode cX7_wordTo 59 = .ok (.bipush 126, 2) := by decide +kernel
theorem dX7_wordTo_61 : decode cX7_wordTo 61 = .ok (.goto 5, 3) := by decide +kernel
theorem dX7_wordTo_64 : decode cX7_wordTo 64 = .ok (.bipush 47, 2) := by decide +kernel
theorem dX7_wordTo_66 : decode cX7_wordTo 66 = .ok (.invokevirtual 63, 3) := by decide +kernel
theorem dX7_wordTo_69 : decode cX7_wordTo 69 = .ok (.goto 16, 3) := by decide +kernel
theorem dX7_wordTo_72 : decode cX7_wordTo 72 = .ok (.aload_n 2, 1) := by decide +kernel
theorem dX7_wordTo_73 : decode cX7_wordTo 73 = .ok (.aload_n 0, 1) := by decide +kernel
theorem dX7_wordTo_74 : decode cX7_wordTo 74 = .ok (.getfield 14, 3) := by decide +kernel
theorem dX7_wordTo_77 : decode cX7_wordTo 77 = .ok (.iload 4, 2) := by decide +kernel
theorem dX7_wordTo_79 : decode cX7_wordTo 79 = .ok (.invokevirtual 56, 3) := by decide +kernel
theorem dX7_wordTo_82 : decode cX7_wordTo 82 = .ok (.invokevirtual 63, 3) := by decide +kernel
theorem dX7_wordTo_85 : decode cX7_wordTo 85 = .ok (.iinc 4 1, 3) := by decide +kernel
theorem dX7_wordTo_88 : decode cX7_wordTo 88 = .ok (.goto (-67), 3) := by decide +kernel
theorem dX7_wordTo_91 : decode cX7_wordTo 91 = .ok (.return_, 1) := by decide +kernel
theorem dX7_textTo_0 : decode cX7_textTo 0 = .ok (.aload_n 1, 1) := by decide +kernel
theorem dX7_textTo_1 : decode cX7_textTo 1 = .ok (.invokevirtual 31, 3) := by decide +kernel
theorem dX7_textTo_4 : decode cX7_textTo 4 = .ok (.aload_n 1, 1) := by decide +kernel
theorem dX7_textTo_5 : decode cX7_textTo 5 = .ok (.aload_n 0, 1) := by decide +kernel
theorem dX7_textTo_6 : decode cX7_textTo 6 = .ok (.getfield 14, 3) := by decide +kernel
theorem dX7_textTo_9 : decode cX7_textTo 9 = .ok (.iconst 0, 1) := by decide +kernel
theorem dX7_textTo_10 : decode cX7_textTo 10 = .ok (.aload_n 0, 1) := by decide +kernel
theorem dX7_textTo_11 : decode cX7_textTo 11 = .ok (.getfield 14, 3) := by decide +kernel
theorem dX7_textTo_14 : decode cX7_textTo 14 = .ok (.invokevirtual 34, 3) := by decide +kernel
theorem dX7_textTo_17 : decode cX7_textTo 17 = .ok (.invokevirtual 38, 3) := by decide +kernel
theorem dX7_textTo_20 : decode cX7_textTo 20 = .ok (.return_, 1) := by decide +kernel
theorem dX7_textWithPlace_0 : decode cX7_textWithPlace 0 = .ok (.aload_n 2, 1) := by decide +kernel
theorem dX7_textWithPlace_1 : decode cX7_textWithPlace 1 = .ok (.invokevirtual 31, 3) := by decide +kernel
theorem dX7_textWithPlace_4 : decode cX7_textWithPlace 4 = .ok (.aload_n 2, 1) := by decide +kernel
theorem dX7_textWithPlace_5 : decode cX7_textWithPlace 5 = .ok (.aload_n 0, 1) := by decide +kernel
theorem dX7_textWithPlace_6 : decode cX7_textWithPlace 6 = .ok (.getfield 14, 3) := by decide +kernel
theorem dX7_textWithPlace_9 : decode cX7_textWithPlace 9 = .ok (.iconst 0, 1) := by decide +kernel
theorem dX7_textWithPlace_10 : decode cX7_textWithPlace 10 = .ok (.aload_n 0, 1) := by decide +kernel
theorem dX7_textWithPlace_11 : decode cX7_textWithPlace 11 = .ok (.aload_n 0, 1) := by decide +kernel
theorem dX7_textWithPlace_12 : decode cX7_textWithPlace 12 = .ok (.getfield 27, 3) := by decide +kernel
theorem dX7_textWithPlace_15 : decode cX7_textWithPlace 15 = .ok (.iconst 1, 1) := by decide +kernel
theorem dX7_textWithPlace_16 : decode cX7_textWithPlace 16 = .ok (.isub, 1) := by decide +kernel
theorem dX7_textWithPlace_17 : decode cX7_textWithPlace 17 = .ok (.invokevirtual 60, 3) := by decide +kernel
theorem dX7_textWithPlace_20 : decode cX7_textWithPlace 20 = .ok (.invokevirtual 38, 3) := by decide +kernel
theorem dX7_textWithPlace_23 : decode cX7_textWithPlace 23 = .ok (.aload_n 2, 1) := by decide +kernel
theorem dX7_textWithPlace_24 : decode cX7_textWithPlace 24 = .ok (.iload_n 1, 1) := by decide +kernel
theorem dX7_textWithPlace_25 : decode cX7_textWithPlace 25 = .ok (.invokevirtual 66, 3) := by decide +kernel
theorem dX7_textWithPlace_28 : decode cX7_textWithPlace 28 = .ok (.return_, 1) := by decide +kernel
theorem dX7_leadsTo_0 : decode cX7_leadsTo 0 = .ok (.iconst 0, 1) := by decide +kernel
theorem dX7_leadsTo_1 : decode cX7_leadsTo 1 = .ok (.istore_n 3, 1) := by decide +kernel
theorem dX7_leadsTo_2 : decode cX7_leadsTo 2 = .ok (.iconst 0, 1) := by decide +kernel
theorem dX7_leadsTo_3 : decode cX7_leadsTo 3 = .ok (.istore 4, 2) := by decide +kernel
theorem dX7_leadsTo_5 : decode cX7_leadsTo 5 = .ok (.iload 4, 2) := by decide +kernel
theorem dX7_leadsTo_7 : decode cX7_leadsTo 7 = .ok (.iload_n 2, 1) := by decide +kernel
theorem dX7_leadsTo_8 : decode cX7_leadsTo 8 = .ok (.if_icmp .ge 68, 3) := by decide +kernel
theorem dX7_leadsTo_11 : decode cX7_leadsTo 11 = .ok (.iload 4, 2) := by decide +kernel
theorem dX7_leadsTo_13 : decode cX7_leadsTo 13 = .ok (.aload_n 0, 1) := by decide +kernel
theorem dX7_leadsTo_14 : decode cX7_leadsTo 14 = .ok (.getfield 27, 3) := by decide +kernel
theorem dX7_leadsTo_17 : decode cX7_leadsTo 17 = .ok (.if_icmp .ge 59, 3) := by decide +kernel
theorem dX7_leadsTo_20 : decode cX7_leadsTo 20 = .ok (.iload_n 3, 1) := by decide +kernel
theorem dX7_leadsTo_21 : decode cX7_leadsTo 21 = .ok (.iconst (-1), 1) := by decide +kernel
theorem dX7_leadsTo_22 : decode cX7_leadsTo 22 = .ok (.if_icmp .eq 54, 3) := by decide +kernel
theorem dX7_leadsTo_25 : decode cX7_leadsTo 25 = .ok (.aload_n 0, 1) := by decide +kernel
theorem dX7_leadsTo_26 : decode cX7_leadsTo 26 = .ok (.iload 4, 2) := by decide +kernel
theorem dX7_leadsTo_28 : decode cX7_leadsTo 28 = .ok (.aload_n 0, 1) := by decide +kernel
theorem dX7_leadsTo_29 : decode cX7_leadsTo 29 = .ok (.getfield 20, 3) := by decide +kernel
theorem dX7_leadsTo_32 : decode cX7_leadsTo 32 = .ok (.invokevirtual 69, 3) := by decide +kernel
theorem dX7_leadsTo_35 : decode cX7_leadsTo 35 = .ok (.aload_n 1, 1) := by decide +kernel
theorem dX7_leadsTo_36 : decode cX7_leadsTo 36 = .ok (.iload_n 3, 1) := by decide +kernel
theorem dX7_leadsTo_37 : decode cX7_leadsTo 37 = .ok (.iconst 4, 1) := by decide +kernel
theorem dX7_leadsTo_38 : decode cX7_leadsTo 38 = .ok (.invokevirtual 52, 3) := by decide +kernel
theorem dX7_leadsTo_41 : decode cX7_leadsTo 41 = .ok (.ifCond .eq 19, 3) := by decide +kernel
theorem dX7_leadsTo_44 : decode cX7_leadsTo 44 = .ok (.aload_n 1, 1) := by decide +kernel
theorem dX7_leadsTo_45 : decode cX7_leadsTo 45 = .ok (.iload_n 3, 1) := by decide +kernel
theorem dX7_leadsTo_46 : decode cX7_leadsTo 46 = .ok (.aload_n 0, 1) := by decide +kernel
theorem dX7_leadsTo_47 : decode cX7_leadsTo 47 = .ok (.getfield 20, 3) := by decide +kernel
theorem dX7_leadsTo_50 : decode cX7_leadsTo 50 = .ok (.iconst 0, 1) := by decide +kernel
theorem dX7_leadsTo_51 : decode cX7_leadsTo 51 = .ok (.invokestatic 72, 3) := by decide +kernel
theorem dX7_leadsTo_54 : decode cX7_leadsTo 54 = .ok (.invokevirtual 76, 3) := by decide +kernel
theorem dX7_leadsTo_57 : decode cX7_leadsTo 57 = .ok (.goto 12, 3) := by decide +kernel
theorem dX7_leadsTo_60 : decode cX7_leadsTo 60 = .ok (.aload_n 1, 1) := by decide +kernel
theorem dX7_leadsTo_61 : decode cX7_leadsTo 61 = .ok (.iload_n 3, 1) := by decide +kernel
theorem dX7_leadsTo_62 : decode cX7_leadsTo 62 = .ok (.aload_n 0, 1) := by decide +kernel
theorem dX7_leadsTo_63 : decode cX7_leadsTo 63 = .ok (.getfield 20, 3) := by decide +kernel
theorem dX7_leadsTo_66 : decode cX7_leadsTo 66 = .ok (.invokevirtual 80, 3) := by decide +kernel
theorem dX7_leadsTo_69 : decode cX7_leadsTo 69 = .ok (.istore_n 3, 1) := by decide +kernel
theorem dX7_leadsTo_70 : decode cX7_leadsTo 70 = .ok (.iinc 4 1, 3) := by decide +kernel
theorem dX7_leadsTo_73 : decode cX7_leadsTo 73 = .ok (.goto (-68), 3) := by decide +kernel
theorem dX7_leadsTo_76 : decode cX7_leadsTo 76 = .ok (.iload_n 3, 1) := by decide +kernel
theorem dX7_leadsTo_77 : decode cX7_leadsTo 77 = .ok (.ireturn, 1) := by decide +kernel
theorem dX7_placeIn_0 : decode cX7_placeIn 0 = .ok (.aload_n 0, 1) := by decide +kernel
theorem dX7_placeIn_1 : decode cX7_placeIn 1 = .ok (.invokevirtual 34, 3) := by decide +kernel
theorem dX7_placeIn_4 : decode cX7_placeIn 4 = .ok (.iload_n 1, 1) := by decide +kernel
theorem dX7_placeIn_5 : decode cX7_placeIn 5 = .ok (.isub, 1) := by decide +kernel
theorem dX7_placeIn_6 : decode cX7_placeIn 6 = .ok (.istore_n 2, 1) := by decide +kernel
theorem dX7_placeIn_7 : decode cX7_placeIn 7 = .ok (.iload_n 2, 1) := by decide +kernel
theorem dX7_placeIn_8 : decode cX7_placeIn 8 = .ok (.iconst 1, 1) := by decide +kernel
theorem dX7_placeIn_9 : decode cX7_placeIn 9 = .ok (.if_icmp .lt 23, 3) := by decide +kernel
theorem dX7_placeIn_12 : decode cX7_placeIn 12 = .ok (.iload_n 2, 1) := by decide +kernel
theorem dX7_placeIn_13 : decode cX7_placeIn 13 = .ok (.iconst 3, 1) := by decide +kernel
theorem dX7_placeIn_14 : decode cX7_placeIn 14 = .ok (.if_icmp .gt 18, 3) := by decide +kernel
theorem dX7_placeIn_17 : decode cX7_placeIn 17 = .ok (.iload_n 2, 1) := by decide +kernel
theorem dX7_placeIn_18 : decode cX7_placeIn 18 = .ok (.iconst 1, 1) := by decide +kernel
theorem dX7_placeIn_19 : decode cX7_placeIn 19 = .ok (.if_icmp .le 15, 3) := by decide +kernel
theorem dX7_placeIn_22 : decode cX7_placeIn 22 = .ok (.aload_n 0, 1) := by decide +kernel
theorem dX7_placeIn_23 : decode cX7_placeIn 23 = .ok (.iload_n 1, 1) := by decide +kernel
theorem dX7_placeIn_24 : decode cX7_placeIn 24 = .ok (.invokevirtual 56, 3) := by decide +kernel
theorem dX7_placeIn_27 : decode cX7_placeIn 27 = .ok (.bipush 48, 2) := by decide +kernel
theorem dX7_placeIn_29 : decode cX7_placeIn 29 = .ok (.if_icmp .ne 5, 3) := by decide +kernel
theorem dX7_placeIn_32 : decode cX7_placeIn 32 = .ok (.iconst (-1), 1) := by decide +kernel
theorem dX7_placeIn_33 : decode cX7_placeIn 33 = .ok (.ireturn, 1) := by decide +kernel
theorem dX7_placeIn_34 : decode cX7_placeIn 34 = .ok (.iconst 0, 1) := by decide +kernel
theorem dX7_placeIn_35 : decode cX7_placeIn 35 = .ok (.istore_n 3, 1) := by decide +kernel
theorem dX7_placeIn_36 : decode cX7_placeIn 36 = .ok (.iload_n 1, 1) := by decide +kernel
theorem dX7_placeIn_37 : decode cX7_placeIn 37 = .ok (.istore 4, 2) := by decide +kernel
theorem dX7_placeIn_39 : decode cX7_placeIn 39 = .ok (.iload 4, 2) := by decide +kernel
theorem dX7_placeIn_41 : decode cX7_placeIn 41 = .ok (.aload_n 0, 1) := by decide +kernel
theorem dX7_placeIn_42 : decode cX7_placeIn 42 = .ok (.invokevirtual 34, 3) := by decide +kernel
theorem dX7_placeIn_45 : decode cX7_placeIn 45 = .ok (.if_icmp .ge 44, 3) := by decide +kernel
theorem dX7_placeIn_48 : decode cX7_placeIn 48 = .ok (.aload_n 0, 1) := by decide +kernel
theorem dX7_placeIn_49 : decode cX7_placeIn 49 = .ok (.iload 4, 2) := by decide +kernel
theorem dX7_placeIn_51 : decode cX7_placeIn 51 = .ok (.invokevirtual 56, 3) := by decide +kernel
theorem dX7_placeIn_54 : decode cX7_placeIn 54 = .ok (.istore 5, 2) := by decide +kernel
theorem dX7_placeIn_56 : decode cX7_placeIn 56 = .ok (.iload 5, 2) := by decide +kernel
theorem dX7_placeIn_58 : decode cX7_placeIn 58 = .ok (.bipush 48, 2) := by decide +kernel
theorem dX7_placeIn_60 : decode cX7_placeIn 60 = .ok (.if_icmp .lt 10, 3) := by decide +kernel
theorem dX7_placeIn_63 : decode cX7_placeIn 63 = .ok (.iload 5, 2) := by decide +kernel
theorem dX7_placeIn_65 : decode cX7_placeIn 65 = .ok (.bipush 57, 2) := by decide +kernel
theorem dX7_placeIn_67 : decode cX7_placeIn 67 = .ok (.if_icmp .le 5, 3) := by decide +kernel
theorem dX7_placeIn_70 : decode cX7_placeIn 70 = .ok (.iconst (-1), 1) := by decide +kernel
theorem dX7_placeIn_71 : decode cX7_placeIn 71 = .ok (.ireturn, 1) := by decide +kernel
theorem dX7_placeIn_72 : decode cX7_placeIn 72 = .ok (.iload_n 3, 1) := by decide +kernel
theorem dX7_placeIn_73 : decode cX7_placeIn 73 = .ok (.bipush 10, 2) := by decide +kernel
theorem dX7_placeIn_75 : decode cX7_placeIn 75 = .ok (.imul, 1) := by decide +kernel
theorem dX7_placeIn_76 : decode cX7_placeIn 76 = .ok (.iload 5, 2) := by decide +kernel
theorem dX7_placeIn_78 : decode cX7_placeIn 78 = .ok (.iadd, 1) := by decide +kernel
theorem dX7_placeIn_79 : decode cX7_placeIn 79 = .ok (.bipush 48, 2) := by decide +kernel
theorem dX7_placeIn_81 : decode cX7_placeIn 81 = .ok (.isub, 1) := by decide +kernel
theorem dX7_placeIn_82 : decode cX7_placeIn 82 = .ok (.istore_n 3, 1) := by decide +kernel
theorem dX7_placeIn_83 : decode cX7_placeIn 83 = .ok (.iinc 4 1, 3) := by decide +kernel
theorem dX7_placeIn_86 : decode cX7_placeIn 86 = .ok (.goto (-47), 3) := by decide +kernel
theorem dX7_placeIn_89 : decode cX7_placeIn 89 = .ok (.iload_n 3, 1) := by decide +kernel
theorem dX7_placeIn_90 : decode cX7_placeIn 90 = .ok (.ireturn, 1) := by decide +kernel
theorem dX6_init_0 : decode cX6_init 0 = .ok (.aload_n 0, 1) := by decide +kernel
theorem dX6_init_1 : decode cX6_init 1 = .ok (.invokespecial 3, 3) := by decide +kernel
theorem dX6_init_4 : decode cX6_init 4 = .ok (.aload_n 0, 1) := by decide +kernel
theorem dX6_init_5 : decode cX6_init 5 = .ok (.new 9, 3) := by decide +kernel
theorem dX6_init_8 : decode cX6_init 8 = .ok (.dup, 1) := by decide +kernel
theorem dX6_init_9 : decode cX6_init 9 = .ok (.invokespecial 11, 3) := by decide +kernel
theorem dX6_init_12 : decode cX6_init 12 = .ok (.putfield 12, 3) := by decide +kernel
theorem dX6_init_15 : decode cX6_init 15 = .ok (.aload_n 0, 1) := by decide +kernel
theorem dX6_init_16 : decode cX6_init 16 = .ok (.new 9, 3) := by decide +kernel
theorem dX6_init_19 : decode cX6_init 19 = .ok (.dup, 1) := by decide +kernel
theorem dX6_init_20 : decode cX6_init 20 = .ok (.invokespecial 11, 3) := by decide +kernel
theorem dX6_init_23 : decode cX6_init 23 = .ok (.putfield 18, 3) := by decide +kernel
theorem dX6_init_26 : decode cX6_init 26 = .ok (.aload_n 0, 1) := by decide +kernel
theorem dX6_init_27 : decode cX6_init 27 = .ok (.new 21, 3) := by decide +kernel
theorem dX6_init_30 : decode cX6_init 30 = .ok (.dup, 1) := by decide +kernel
theorem dX6_init_31 : decode cX6_init 31 = .ok (.bipush 12, 2) := by decide +kernel
theorem dX6_init_33 : decode cX6_init 33 = .ok (.invokespecial 23, 3) := by decide +kernel
theorem dX6_init_36 : decode cX6_init 36 = .ok (.putfield 26, 3) := by decide +kernel
theorem dX6_init_39 : decode cX6_init 39 = .ok (.aload_n 0, 1) := by decide +kernel
theorem dX6_init_40 : decode cX6_init 40 = .ok (.new 21, 3) := by decide +kernel
theorem dX6_init_43 : decode cX6_init 43 = .ok (.dup, 1) := by decide +kernel
theorem dX6_init_44 : decode cX6_init 44 = .ok (.bipush 40, 2) := by decide +kernel
theorem dX6_init_46 : decode cX6_init 46 = .ok (.invokespecial 23, 3) := by decide +kernel
theorem dX6_init_49 : decode cX6_init 49 = .ok (.putfield 30, 3) := by decide +kernel
theorem dX6_init_52 : decode cX6_init 52 = .ok (.aload_n 0, 1) := by decide +kernel
theorem dX6_init_53 : decode cX6_init 53 = .ok (.new 21, 3) := by decide +kernel
theorem dX6_init_56 : decode cX6_init 56 = .ok (.dup, 1) := by decide +kernel
theorem dX6_init_57 : decode cX6_init 57 = .ok (.bipush 24, 2) := by decide +kernel
theorem dX6_init_59 : decode cX6_init 59 = .ok (.invokespecial 23, 3) := by decide +kernel
theorem dX6_init_62 : decode cX6_init 62 = .ok (.putfield 33, 3) := by decide +kernel
theorem dX6_init_65 : decode cX6_init 65 = .ok (.aload_n 0, 1) := by decide +kernel
theorem dX6_init_66 : decode cX6_init 66 = .ok (.aload_n 0, 1) := by decide +kernel
theorem dX6_init_67 : decode cX6_init 67 = .ok (.getfield 26, 3) := by decide +kernel
theorem dX6_init_70 : decode cX6_init 70 = .ok (.putfield 36, 3) := by decide +kernel
theorem dX6_init_73 : decode cX6_init 73 = .ok (.return_, 1) := by decide +kernel
theorem dX6_result_0 : decode cX6_result 0 = .ok (.aload_n 0, 1) := by decide +kernel
theorem dX6_result_1 : decode cX6_result 1 = .ok (.getfield 12, 3) := by decide +kernel
theorem dX6_result_4 : decode cX6_result 4 = .ok (.areturn, 1) := by decide +kernel
theorem dX6_parse_0 : decode cX6_parse 0 = .ok (.aload_n 0, 1) := by decide +kernel
theorem dX6_parse_1 : decode cX6_parse 1 = .ok (.aload_n 1, 1) := by decide +kernel
theorem dX6_parse_2 : decode cX6_parse 2 = .ok (.putfield 36, 3) := by decide +kernel
theorem dX6_parse_5 : decode cX6_parse 5 = .ok (.aload_n 0, 1) := by decide +kernel
theorem dX6_parse_6 : decode cX6_parse 6 = .ok (.iload_n 2, 1) := by decide +kernel
theorem dX6_parse_7 : decode cX6_parse 7 = .ok (.putfield 39, 3) := by decide +kernel
theorem dX6_parse_10 : decode cX6_parse 10 = .ok (.aload_n 0, 1) := by decide +kernel
theorem dX6_parse_11 : decode cX6_parse 11 = .ok (.iconst 0, 1) := by decide +kernel
theorem dX6_parse_12 : decode cX6_parse 12 = .ok (.putfield 43, 3) := by decide +kernel
theorem dX6_parse_15 : decode cX6_parse 15 = .ok (.aload_n 0, 1) := by decide +kernel
theorem dX6_parse_16 : decode cX6_parse 16 = .ok (.iconst (-1), 1) := by decide +kernel
theorem dX6_parse_17 : decode cX6_parse 17 = .ok (.putfield 46, 3) := by decide +kernel
theorem dX6_parse_20 : decode cX6_parse 20 = .ok (.aload_n 0, 1) := by decide +kernel
theorem dX6_parse_21 : decode cX6_parse 21 = .ok (.iconst 0, 1) := by decide +kernel
theorem dX6_parse_22 : decode cX6_parse 22 = .ok (.putfield 49, 3) := by decide +kernel
theorem dX6_parse_25 : decode cX6_parse 25 = .ok (.aload_n 0, 1) := by decide +kernel
theorem dX6_parse_26 : decode cX6_parse 26 = .ok (.getfield 12, 3) := by decide +kernel
theorem dX6_parse_29 : decode cX6_parse 29 = .ok (.invokevirtual 52, 3) := by decide +kernel
theorem dX6_parse_32 : decode cX6_parse 32 = .ok (.aload_n 0, 1) := by decide +kernel
theorem dX6_parse_33 : decode cX6_parse 33 = .ok (.getfield 26, 3) := by decide +kernel
theorem dX6_parse_36 : decode cX6_parse 36 = .ok (.invokevirtual 55, 3) := by decide +kernel
theorem dX6_parse_39 : decode cX6_parse 39 = .ok (.aload_n 0, 1) := by decide +kernel
theorem dX6_parse_40 : decode cX6_parse 40 = .ok (.iconst 0, 1) := by decide +kernel
theorem dX6_parse_41 : decode cX6_parse 41 = .ok (.invokevirtual 56, 3) := by decide +kernel
theorem dX6_parse_44 : decode cX6_parse 44 = .ok (.pop, 1) := by decide +kernel
theorem dX6_parse_45 : decode cX6_parse 45 = .ok (.aload_n 0, 1) := by decide +kernel
theorem dX6_parse_46 : decode cX6_parse 46 = .ok (.invokevirtual 60, 3) := by decide +kernel
theorem dX6_parse_49 : decode cX6_parse 49 = .ok (.aload_n 0, 1) := by decide +kernel
theorem dX6_parse_50 : decode cX6_parse 50 = .ok (.invokevirtual 63, 3) := by decide +kernel
theorem dX6_parse_53 : decode cX6_parse 53 = .ok (.iconst (-1), 1) := by decide +kernel
theorem dX6_parse_54 : decode cX6_parse 54 = .ok (.if_icmp .eq 12, 3) := by decide +kernel
theorem dX6_parse_57 : decode cX6_parse 57 = .ok (.aload_n 0, 1) := by decide +kernel
theorem dX6_parse_58 : decode cX6_parse 58 = .ok (.aload_n 0, 1) := by decide +kernel
theorem dX6_parse_59 : decode cX6_parse 59 = .ok (.getfield 43, 3) := by decide +kernel
theorem dX6_parse_62 : decode cX6_parse 62 = .ok (.invokevirtual 67, 3) := by decide +kernel
theorem dX6_parse_65 : decode cX6_parse 65 = .ok (.pop, 1) := by decide +kernel
theorem dX6_parse_66 : decode cX6_parse 66 = .ok (.aload_n 0, 1) := by decide +kernel
theorem dX6_parse_67 : decode cX6_parse 67 = .ok (.getfield 46, 3) := by decide +kernel
theorem dX6_parse_70 : decode cX6_parse 70 = .ok (.ireturn, 1) := by decide +kernel
theorem dX6_here_0 : decode cX6_here 0 = .ok (.aload_n 0, 1) := by decide +kernel
theorem dX6_here_1 : decode cX6_here 1 = .ok (.getfield 36, 3) := by decide +kernel
theorem dX6_here_4 : decode cX6_here 4 = .ok (.aload_n 0, 1) := by decide +kernel
theorem dX6_here_5 : decode cX6_here 5 = .ok (.getfield 43, 3) := by decide +kernel
theorem dX6_here_8 : decode cX6_here 8 = .ok (.invokevirtual 70, 3) := by decide +kernel
theorem dX6_here_11 : decode cX6_here 11 = .ok (.ireturn, 1) := by decide +kernel
theorem dX6_fail_0 : decode cX6_fail 0 = .ok (.aload_n 0, 1) := by decide +kernel
theorem dX6_fail_1 : decode cX6_fail 1 = .ok (.getfield 46, 3) := by decide +kernel
theorem dX6_fail_4 : decode cX6_fail 4 = .ok (.iconst (-1), 1) := by decide +kernel
theorem dX6_fail_5 : decode cX6_fail 5 = .ok (.if_icmp .ne 8, 3) := by decide +kernel
theorem dX6_fail_8 : decode cX6_fail 8 = .ok (.aload_n 0, 1) := by decide +kernel
theorem dX6_fail_9 : decode cX6_fail 9 = .ok (.iload_n 1, 1) := by decide +kernel
theorem dX6_fail_10 : decode cX6_fail 10 = .ok (.putfield 46, 3) := by decide +kernel
theorem dX6_fail_13 : decode cX6_fail 13 = .ok (.iconst (-1), 1) := by decide +kernel
theorem dX6_fail_14 : decode cX6_fail 14 = .ok (.ireturn, 1) := by decide +kernel
theorem dX6_goesOn_0 : decode cX6_goesOn 0 = .ok (.aload_n 0, 1) := by decide +kernel
theorem dX6_goesOn_1 : decode cX6_goesOn 1 = .ok (.getfield 46, 3) := by decide +kernel
theorem dX6_goesOn_4 : decode cX6_goesOn 4 = .ok (.iconst (-1), 1) := by decide +kernel
theorem dX6_goesOn_5 : decode cX6_goesOn 5 = .ok (.if_icmp .ne 7, 3) := by decide +kernel
theorem dX6_goesOn_8 : decode cX6_goesOn 8 = .ok (.iconst 1, 1) := by decide +kernel
theorem dX6_goesOn_9 : decode cX6_goesOn 9 = .ok (.goto 4, 3) := by decide +kernel
theorem dX6_goesOn_12 : decode cX6_goesOn 12 = .ok (.iconst 0, 1) := by decide +kernel
theorem dX6_goesOn_13 : decode cX6_goesOn 13 = .ok (.ireturn, 1) := by decide +kernel
theorem dX6_skipBlanks_0 : decode cX6_skipBlanks 0 = .ok (.aload_n 0, 1) := by decide +kernel
theorem dX6_skipBlanks_1 : decode cX6_skipBlanks 1 = .ok (.getfield 43, 3) := by decide +kernel
theorem dX6_skipBlanks_4 : decode cX6_skipBlanks 4 = .ok (.aload_n 0, 1) := by decide +kernel
theorem dX6_skipBlanks_5 : decode cX6_skipBlanks 5 = .ok (.getfield 36, 3) := by decide +kernel
theorem dX6_skipBlanks_8 : decode cX6_skipBlanks 8 = .ok (.invokevirtual 73, 3) := by decide +kernel
theorem dX6_skipBlanks_11 : decode cX6_skipBlanks 11 = .ok (.if_icmp .ge 34, 3) := by decide +kernel
theorem dX6_skipBlanks_14 : decode cX6_skipBlanks 14 = .ok (.aload_n 0, 1) := by decide +kernel
theorem dX6_skipBlanks_15 : decode cX6_skipBlanks 15 = .ok (.invokevirtual 63, 3) := by decide +kernel
theorem dX6_skipBlanks_18 : decode cX6_skipBlanks 18 = .ok (.bipush 32, 2) := by decide +kernel
theorem dX6_skipBlanks_20 : decode cX6_skipBlanks 20 = .ok (.if_icmp .eq 12, 3) := by decide +kernel
theorem dX6_skipBlanks_23 : decode cX6_skipBlanks 23 = .ok (.aload_n 0, 1) := by decide +kernel
theorem dX6_skipBlanks_24 : decode cX6_skipBlanks 24 = .ok (.invokevirtual 63, 3) := by decide +kernel
theorem dX6_skipBlanks_27 : decode cX6_skipBlanks 27 = .ok (.bipush 10, 2) := by decide +kernel
theorem dX6_skipBlanks_29 : decode cX6_skipBlanks 29 = .ok (.if_icmp .ne 16, 3) := by decide +kernel
theorem dX6_skipBlanks_32 : decode cX6_skipBlanks 32 = .ok (.aload_n 0, 1) := by decide +kernel
theorem dX6_skipBlanks_33 : decode cX6_skipBlanks 33 = .ok (.dup, 1) := by decide +kernel
theorem dX6_skipBlanks_34 : decode cX6_skipBlanks 34 = .ok (.getfield 43, 3) := by decide +kernel
theorem dX6_skipBlanks_37 : decode cX6_skipBlanks 37 = .ok (.iconst 1, 1) := by decide +kernel
theorem dX6_skipBlanks_38 : decode cX6_skipBlanks 38 = .ok (.iadd, 1) := by decide +kernel
theorem dX6_skipBlanks_39 : decode cX6_skipBlanks 39 = .ok (.putfield 43, 3) := by decide +kernel
theorem dX6_skipBlanks_42 : decode cX6_skipBlanks 42 = .ok (.goto (-42), 3) := by decide +kernel
theorem dX6_skipBlanks_45 : decode cX6_skipBlanks 45 = .ok (.return_, 1) := by decide +kernel
theorem dX6_isFigure_0 : decode cX6_isFigure 0 = .ok (.iload_n 0, 1) := by decide +kernel
theorem dX6_isFigure_1 : decode cX6_isFigure 1 = .ok (.bipush 48, 2) := by decide +kernel
theorem dX6_isFigure_3 : decode cX6_isFigure 3 = .ok (.if_icmp .lt 13, 3) := by decide +kernel
theorem dX6_isFigure_6 : decode cX6_isFigure 6 = .ok (.iload_n 0, 1) := by decide +kernel
theorem dX6_isFigure_7 : decode cX6_isFigure 7 = .ok (.bipush 57, 2) := by decide +kernel
theorem dX6_isFigure_9 : decode cX6_isFigure 9 = .ok (.if_icmp .gt 7, 3) := by decide +kernel
theorem dX6_isFigure_12 : decode cX6_isFigure 12 = .ok (.iconst 1, 1) := by decide +kernel
theorem dX6_isFigure_13 : decode cX6_isFigure 13 = .ok (.goto 4, 3) := by decide +kernel
theorem dX6_isFigure_16 : decode cX6_isFigure 16 = .ok (.iconst 0, 1) := by decide +kernel
theorem dX6_isFigure_17 : decode cX6_isFigure 17 = .ok (.ireturn, 1) := by decide +kernel
theorem dX6_pass_0 : decode cX6_pass 0 = .ok (.aload_n 0, 1) := by decide +kernel
theorem dX6_pass_1 : decode cX6_pass 1 = .ok (.getfield 36, 3) := by decide +kernel
theorem dX6_pass_4 : decode cX6_pass 4 = .ok (.aload_n 0, 1) := by decide +kernel
theorem dX6_pass_5 : decode cX6_pass 5 = .ok (.getfield 43, 3) := by decide +kernel
theorem dX6_pass_8 : decode cX6_pass 8 = .ok (.invokevirtual 70, 3) := by decide +kernel
theorem dX6_pass_11 : decode cX6_pass 11 = .ok (.iload_n 1, 1) := by decide +kernel
theorem dX6_pass_12 : decode cX6_pass 12 = .ok (.if_icmp .ne 16, 3) := by decide +kernel
theorem dX6_pass_15 : decode cX6_pass 15 = .ok (.aload_n 0, 1) := by decide +kernel
theorem dX6_pass_16 : decode cX6_pass 16 = .ok (.dup, 1) := by decide +kernel
theorem dX6_pass_17 : decode cX6_pass 17 = .ok (.getfield 43, 3) := by decide +kernel
theorem dX6_pass_20 : decode cX6_pass 20 = .ok (.iconst 1, 1) := by decide +kernel
theorem dX6_pass_21 : decode cX6_pass 21 = .ok (.iadd, 1) := by decide +kernel
theorem dX6_pass_22 : decode cX6_pass 22 = .ok (.putfield 43, 3) := by decide +kernel
theorem dX6_pass_25 : decode cX6_pass 25 = .ok (.goto 12, 3) := by decide +kernel
theorem dX6_pass_28 : decode cX6_pass 28 = .ok (.aload_n 0, 1) := by decide +kernel
theorem dX6_pass_29 : decode cX6_pass 29 = .ok (.aload_n 0, 1) := by decide +kernel
theorem dX6_pass_30 : decode cX6_pass 30 = .ok (.getfield 43, 3) := by decide +kernel
theorem dX6_pass_33 : decode cX6_pass 33 = .ok (.invokevirtual 67, 3) := by decide +kernel
theorem dX6_pass_36 : decode cX6_pass 36 = .ok (.pop, 1) := by decide +kernel
theorem dX6_pass_37 : decode cX6_pass 37 = .ok (.return_, 1) := by decide +kernel
theorem dX6_begin_0 : decode cX6_begin 0 = .ok (.aload_n 0, 1) := by decide +kernel
theorem dX6_begin_1 : decode cX6_begin 1 = .ok (.getfield 12, 3) := by decide +kernel
theorem dX6_begin_4 : decode cX6_begin 4 = .ok (.iload_n 1, 1) := by decide +kernel
theorem dX6_begin_5 : decode cX6_begin 5 = .ok (.invokevirtual 76, 3) := by decide +kernel
theorem dX6_begin_8 : decode cX6_begin 8 = .ok (.istore_n 2, 1) := by decide +kernel
theorem dX6_begin_9 : decode cX6_begin 9 = .ok (.aload_n 0, 1) := by decide +kernel
theorem dX6_begin_10 : decode cX6_begin 10 = .ok (.getfield 12, 3) := by decide +kernel
theorem dX6_begin_13 : decode cX6_begin 13 = .ok (.iload_n 2, 1) := by decide +kernel
theorem dX6_begin_14 : decode cX6_begin 14 = .ok (.aload_n 0, 1) := by decide +kernel
theorem dX6_begin_15 : decode cX6_begin 15 = .ok (.getfield 26, 3) := by decide +kernel
theorem dX6_begin_18 : decode cX6_begin 18 = .ok (.invokevirtual 79, 3) := by decide +kernel
theorem dX6_begin_21 : decode cX6_begin 21 = .ok (.iload_n 2, 1) := by decide +kernel
theorem dX6_begin_22 : decode cX6_begin 22 = .ok (.ireturn, 1) := by decide +kernel
theorem dX6_value_0 : decode cX6_value 0 = .ok (.aload_n 0, 1) := by decide +kernel
theorem dX6_value_1 : decode cX6_value 1 = .ok (.invokevirtual 60, 3) := by decide +kernel
theorem dX6_value_4 : decode cX6_value 4 = .ok (.aload_n 0, 1) := by decide +kernel
theorem dX6_value_5 : decode cX6_value 5 = .ok (.invokevirtual 63, 3) := by decide +kernel
theorem dX6_value_8 : decode cX6_value 8 = .ok (.istore_n 2, 1) := by decide +kernel
theorem dX6_value_9 : decode cX6_value 9 = .ok (.iload_n 2, 1) := by decide +kernel
theorem dX6_value_10 : decode cX6_value 10 = .ok (.iconst (-1), 1) := by decide +kernel
theorem dX6_value_11 : decode cX6_value 11 = .ok (.if_icmp .eq 12, 3) := by decide +kernel
theorem dX6_value_14 : decode cX6_value 14 = .ok (.aload_n 0, 1) := by decide +kernel
theorem dX6_value_15 : decode cX6_value 15 = .ok (.getfield 49, 3) := by decide +kernel
theorem dX6_value_18 : decode cX6_value 18 = .ok (.bipush 100, 2) := by decide +kernel
theorem dX6_value_20 : decode cX6_value 20 = .ok (.if_icmp .lt 12, 3) := by decide +kernel
theorem dX6_value_23 : decode cX6_value 23 = .ok (.aload_n 0, 1) := by decide +kernel
theorem dX6_value_24 : decode cX6_value 24 = .ok (.aload_n 0, 1) := by decide +kernel
theorem dX6_value_25 : decode cX6_value 25 = .ok (.getfield 43, 3) := by decide +kernel
theorem dX6_value_28 : decode cX6_value 28 = .ok (.invokevirtual 67, 3) := by decide +kernel
theorem dX6_value_31 : decode cX6_value 31 = .ok (.ireturn, 1) := by decide +kernel
theorem dX6_value_32 : decode cX6_value 32 = .ok (.aload_n 0, 1) := by decide +kernel
theorem dX6_value_33 : decode cX6_value 33 = .ok (.dup, 1) := by decide +kernel
theorem dX6_value_34 : decode cX6_value 34 = .ok (.getfield 49, 3) := by decide +kernel
theorem dX6_value_37 : decode cX6_value 37 = .ok (.iconst 1, 1) := by decide +kernel
theorem dX6_value_38 : decode cX6_value 38 = .ok (.iadd, 1) := by decide +kernel
theorem dX6_value_39 : decode cX6_value 39 = .ok (.putfield 49, 3) := by decide +kernel
theorem dX6_value_42 : decode cX6_value 42 = .ok (.iload_n 2, 1) := by decide +kernel
theorem dX6_value_43 : decode cX6_value 43 = .ok (.bipush 91, 2) := by decide +kernel
theorem dX6_value_45 : decode cX6_value 45 = .ok (.if_icmp .eq 9, 3) := by decide +kernel
theorem dX6_value_48 : decode cX6_value 48 = .ok (.iload_n 2, 1) := by decide +kernel
theorem dX6_value_49 : decode cX6_value 49 = .ok (.bipush 123, 2) := by decide +kernel
theorem dX6_value_51 : decode cX6_value 51 = .ok (.if_icmp .ne 39, 3) := by decide +kernel
theorem dX6_value_54 : decode cX6_value 54 = .ok (.iload_n 1, 1) := by decide +kernel
theorem dX6_value_55 : decode cX6_value 55 = .ok (.bipush 12, 2) := by decide +kernel
theorem dX6_value_57 : decode cX6_value 57 = .ok (.if_icmp .lt 14, 3) := by decide +kernel
theorem dX6_value_60 : decode cX6_value 60 = .ok (.aload_n 0, 1) := by decide +kernel
theorem dX6_value_61 : decode cX6_value 61 = .ok (.aload_n 0, 1) := by decide +kernel
theorem dX6_value_62 : decode cX6_value 62 = .ok (.getfield 43, 3) := by decide +kernel
theorem dX6_value_65 : decode cX6_value 65 = .ok (.invokevirtual 67, 3) := by decide +kernel
theorem dX6_value_68 : decode cX6_value 68 = .ok (.goto 21, 3) := by decide +kernel
theorem dX6_value_71 : decode cX6_value 71 = .ok (.aload_n 0, 1) := by decide +kernel
theorem dX6_value_72 : decode cX6_value 72 = .ok (.iload_n 2, 1) := by decide +kernel
theorem dX6_value_73 : decode cX6_value 73 = .ok (.bipush 91, 2) := by decide +kernel
theorem dX6_value_75 : decode cX6_value 75 = .ok (.if_icmp .ne 7, 3) := by decide +kernel
theorem dX6_value_78 : decode cX6_value 78 = .ok (.iconst 4, 1) := by decide +kernel
theorem dX6_value_79 : decode cX6_value 79 = .ok (.goto 4, 3) := by decide +kernel
theorem dX6_value_82 : decode cX6_value 82 = .ok (.iconst 5, 1) := by decide +kernel
theorem dX6_value_83 : decode cX6_value 83 = .ok (.iload_n 1, 1) := by decide +kernel
theorem dX6_value_84 : decode cX6_value 84 = .ok (.iconst 1, 1) := by decide +kernel
theorem dX6_value_85 : decode cX6_value 85 = .ok (.iadd, 1) := by decide +kernel
theorem dX6_value_86 : decode cX6_value 86 = .ok (.invokevirtual 83, 3) := by decide +kernel
theorem dX6_value_89 : decode cX6_value 89 = .ok (.ireturn, 1) := by decide +kernel
theorem dX6_value_90 : decode cX6_value 90 = .ok (.iload_n 2, 1) := by decide +kernel
theorem dX6_value_91 : decode cX6_value 91 = .ok (.bipush 34, 2) := by decide +kernel
theorem dX6_value_93 : decode cX6_value 93 = .ok (.if_icmp .ne 8, 3) := by decide +kernel
theorem dX6_value_96 : decode cX6_value 96 = .ok (.aload_n 0, 1) := by decide +kernel
theorem dX6_value_97 : decode cX6_value 97 = .ok (.invokevirtual 87, 3) := by decide +kernel
theorem dX6_value_100 : decode cX6_value 100 = .ok (.ireturn, 1) := by decide +kernel
theorem dX6_value_101 : decode cX6_value 101 = .ok (.iload_n 2, 1) := by decide +kernel
theorem dX6_value_102 : decode cX6_value 102 = .ok (.bipush 45, 2) := by decide +kernel
theorem dX6_value_104 : decode cX6_value 104 = .ok (.if_icmp .eq 10, 3) := by decide +kernel
theorem dX6_value_107 : decode cX6_value 107 = .ok (.iload_n 2, 1) := by decide +kernel
theorem dX6_value_108 : decode cX6_value 108 = .ok (.invokestatic 90, 3) := by decide +kernel
theorem dX6_value_111 : decode cX6_value 111 = .ok (.ifCond .eq 10, 3) := by decide +kernel
theorem dX6_value_114 : decode cX6_value 114 = .ok (.aload_n 0, 1) := by decide +kernel
theorem dX6_value_115 : decode cX6_value 115 = .ok (.invokevirtual 94, 3) := by decide +kernel
theorem dX6_value_118 : decode cX6_value 118 = .ok (.goto 8, 3) := by decide +kernel
theorem dX6_value_121 : decode cX6_value 121 = .ok (.aload_n 0, 1) := by decide +kernel
theorem dX6_value_122 : decode cX6_value 122 = .ok (.iload_n 2, 1) := by decide +kernel
theorem dX6_value_123 : decode cX6_value 123 = .ok (.invokevirtual 97, 3) := by decide +kernel
theorem dX6_value_126 : decode cX6_value 126 = .ok (.ireturn, 1) := by decide +kernel
theorem dX6_constant_0 : decode cX6_constant 0 = .ok (.iload_n 1, 1) := by decide +kernel
theorem dX6_constant_1 : decode cX6_constant 1 = .ok (.bipush 110, 2) := by decide +kernel
theorem dX6_constant_3 : decode cX6_constant 3 = .ok (.if_icmp .ne 15, 3) := by decide +kernel
theorem dX6_constant_6 : decode cX6_constant 6 = .ok (.aload_n 0, 1) := by decide +kernel
theorem dX6_constant_7 : decode cX6_constant 7 = .ok (.ldc 100, 2) := by decide +kernel
theorem dX6_constant_9 : decode cX6_constant 9 = .ok (.invokevirtual 102, 3) := by decide +kernel
theorem dX6_constant_12 : decode cX6_constant 12 = .ok (.aload_n 0, 1) := by decide +kernel
theorem dX6_constant_13 : decode cX6_constant 13 = .ok (.iconst 0, 1) := by decide +kernel
theorem dX6_constant_14 : decode cX6_constant 14 = .ok (.invokevirtual 106, 3) := by decide +kernel
theorem dX6_constant_17 : decode cX6_constant 17 = .ok (.ireturn, 1) := by decide +kernel
theorem dX6_constant_18 : decode cX6_constant 18 = .ok (.iload_n 1, 1) := by decide +kernel
theorem dX6_constant_19 : decode cX6_constant 19 = .ok (.bipush 116, 2) := by decide +kernel
theorem dX6_constant_21 : decode cX6_constant 21 = .ok (.if_icmp .eq 18, 3) := by decide +kernel
theorem dX6_constant_24 : decode cX6_constant 24 = .ok (.iload_n 1, 1) := by decide +kernel
theorem dX6_constant_25 : decode cX6_constant 25 = .ok (.bipush 102, 2) := by decide +kernel
theorem dX6_constant_27 : decode cX6_constant 27 = .ok (.if_icmp .eq 12, 3) := by decide +kernel
theorem dX6_constant_30 : decode cX6_constant 30 = .ok (.aload_n 0, 1) := by decide +kernel
theorem dX6_constant_31 : decode cX6_constant 31 = .ok (.aload_n 0, 1) := by decide +kernel
theorem dX6_constant_32 : decode cX6_constant 32 = .ok (.getfield 43, 3) := by decide +kernel
theorem dX6_constant_35 : decode cX6_constant 35 = .ok (.invokevirtual 67, 3) := by decide +kernel
theorem dX6_constant_38 : decode cX6_constant 38 = .ok (.ireturn, 1) := by decide +kernel
theorem dX6_constant_39 : decode cX6_constant 39 = .ok (.aload_n 0, 1) := by decide +kernel
theorem dX6_constant_40 : decode cX6_constant 40 = .ok (.iload_n 1, 1) := by decide +kernel
theorem dX6_constant_41 : decode cX6_constant 41 = .ok (.bipush 116, 2) := by decide +kernel
theorem dX6_constant_43 : decode cX6_constant 43 = .ok (.if_icmp .ne 8, 3) := by decide +kernel
theorem dX6_constant_46 : decode cX6_constant 46 = .ok (.ldc 109, 2) := by decide +kernel
theorem dX6_constant_48 : decode cX6_constant 48 = .ok (.goto 5, 3) := by decide +kernel
theorem dX6_constant_51 : decode cX6_constant 51 = .ok (.ldc 111, 2) := by decide +kernel
theorem dX6_constant_53 : decode cX6_constant 53 = .ok (.invokevirtual 102, 3) := by decide +kernel
theorem dX6_constant_56 : decode cX6_constant 56 = .ok (.aload_n 0, 1) := by decide +kernel
theorem dX6_constant_57 : decode cX6_constant 57 = .ok (.getfield 12, 3) := by decide +kernel
theorem dX6_constant_60 : decode cX6_constant 60 = .ok (.iload_n 1, 1) := by decide +kernel
theorem dX6_constant_61 : decode cX6_constant 61 = .ok (.bipush 116, 2) := by decide +kernel
theorem dX6_constant_63 : decode cX6_constant 63 = .ok (.if_icmp .ne 7, 3) := by decide +kernel
theorem dX6_constant_66 : decode cX6_constant 66 = .ok (.iconst 1, 1) := by decide +kernel
theorem dX6_constant_67 : decode cX6_constant 67 = .ok (.goto 4, 3) := by decide +kernel
theorem dX6_constant_70 : decode cX6_constant 70 = .ok (.iconst 0, 1) := by decide +kernel
theorem dX6_constant_71 : decode cX6_constant 71 = .ok (.invokevirtual 113, 3) := by decide +kernel
theorem dX6_constant_74 : decode cX6_constant 74 = .ok (.istore_n 2, 1) := by decide +kernel
theorem dX6_constant_75 : decode cX6_constant 75 = .ok (.aload_n 0, 1) := by decide +kernel
theorem dX6_constant_76 : decode cX6_constant 76 = .ok (.getfield 12, 3) := by decide +kernel
theorem dX6_constant_79 : decode cX6_constant 79 = .ok (.iload_n 2, 1) := by decide +kernel
theorem dX6_constant_80 : decode cX6_constant 80 = .ok (.aload_n 0, 1) := by decide +kernel
theorem dX6_constant_81 : decode cX6_constant 81 = .ok (.getfield 26, 3) := by decide +kernel
theorem dX6_constant_84 : decode cX6_constant 84 = .ok (.invokevirtual 79, 3) := by decide +kernel
theorem dX6_constant_87 : decode cX6_constant 87 = .ok (.iload_n 2, 1) := by decide +kernel
theorem dX6_constant_88 : decode cX6_constant 88 = .ok (.ireturn, 1) := by decide +kernel
theorem dX6_passAll_0 : decode cX6_passAll 0 = .ok (.iconst 0, 1) := by decide +kernel
theorem dX6_passAll_1 : decode cX6_passAll 1 = .ok (.istore_n 2, 1) := by decide +kernel
theorem dX6_passAll_2 : decode cX6_passAll 2 = .ok (.iload_n 2, 1) := by decide +kernel
theorem dX6_passAll_3 : decode cX6_passAll 3 = .ok (.aload_n 1, 1) := by decide +kernel
theorem dX6_passAll_4 : decode cX6_passAll 4 = .ok (.invokevirtual 117, 3) := by decide +kernel
theorem dX6_passAll_7 : decode cX6_passAll 7 = .ok (.if_icmp .ge 25, 3) := by decide +kernel
theorem dX6_passAll_10 : decode cX6_passAll 10 = .ok (.aload_n 0, 1) := by decide +kernel
theorem dX6_passAll_11 : decode cX6_passAll 11 = .ok (.invokevirtual 120, 3) := by decide +kernel
theorem dX6_passAll_14 : decode cX6_passAll 14 = .ok (.ifCond .eq 18, 3) := by decide +kernel
theorem dX6_passAll_17 : decode cX6_passAll 17 = .ok (.aload_n 0, 1) := by decide +kernel
theorem dX6_passAll_18 : decode cX6_passAll 18 = .ok (.aload_n 1, 1) := by decide +kernel
theorem dX6_passAll_19 : decode cX6_passAll 19 = .ok (.iload_n 2, 1) := by decide +kernel
theorem dX6_passAll_20 : decode cX6_passAll 20 = .ok (.invokevirtual 124, 3) := by decide +kernel
theorem dX6_passAll_23 : decode cX6_passAll 23 = .ok (.invokevirtual 128, 3) := by decide +kernel
theorem dX6_passAll_26 : decode cX6_passAll 26 = .ok (.iinc 2 1, 3) := by decide +kernel
theorem dX6_passAll_29 : decode cX6_passAll 29 = .ok (.goto (-27), 3) := by decide +kernel
theorem dX6_passAll_32 : decode cX6_passAll 32 = .ok (.return_, 1) := by decide +kernel
theorem dX6_text_0 : decode cX6_text 0 = .ok (.aload_n 0, 1) := by decide +kernel
theorem dX6_text_1 : decode cX6_text 1 = .ok (.iconst 3, 1) := by decide +kernel
theorem dX6_text_2 : decode cX6_text 2 = .ok (.invokevirtual 106, 3) := by decide +kernel
theorem dX6_text_5 : decode cX6_text 5 = .ok (.istore_n 1, 1) := by decide +kernel
theorem dX6_text_6 : decode cX6_text 6 = .ok (.aload_n 0, 1) := by decide +kernel
theorem dX6_text_7 : decode cX6_text 7 = .ok (.aload_n 0, 1) := by decide +kernel
theorem dX6_text_8 : decode cX6_text 8 = .ok (.getfield 30, 3) := by decide +kernel
theorem dX6_text_11 : decode cX6_text 11 = .ok (.bipush 40, 2) := by decide +kernel
theorem dX6_text_13 : decode cX6_text 13 = .ok (.invokevirtual 131, 3) := by decide +kernel
theorem dX6_text_16 : decode cX6_text 16 = .ok (.iconst 0, 1) := by decide +kernel
theorem dX6_text_17 : decode cX6_text 17 = .ok (.istore_n 2, 1) := by decide +kernel
theorem dX6_text_18 : decode cX6_text 18 = .ok (.iload_n 2, 1) := by decide +kernel
theorem dX6_text_19 : decode cX6_text 19 = .ok (.aload_n 0, 1) := by decide +kernel
theorem dX6_text_20 : decode cX6_text 20 = .ok (.getfield 30, 3) := by decide +kernel
theorem dX6_text_23 : decode cX6_text 23 = .ok (.invokevirtual 73, 3) := by decide +kernel
theorem dX6_text_26 : decode cX6_text 26 = .ok (.if_icmp .ge 32, 3) := by decide +kernel
theorem dX6_text_29 : decode cX6_text 29 = .ok (.aload_n 0, 1) := by decide +kernel
theorem dX6_text_30 : decode cX6_text 30 = .ok (.invokevirtual 120, 3) := by decide +kernel
theorem dX6_text_33 : decode cX6_text 33 = .ok (.ifCond .eq 25, 3) := by decide +kernel
theorem dX6_text_36 : decode cX6_text 36 = .ok (.aload_n 0, 1) := by decide +kernel
theorem dX6_text_37 : decode cX6_text 37 = .ok (.getfield 12, 3) := by decide +kernel
theorem dX6_text_40 : decode cX6_text 40 = .ok (.iload_n 1, 1) := by decide +kernel
theorem dX6_text_41 : decode cX6_text 41 = .ok (.aload_n 0, 1) := by decide +kernel
theorem dX6_text_42 : decode cX6_text 42 = .ok (.getfield 30, 3) := by decide +kernel
theorem dX6_text_45 : decode cX6_text 45 = .ok (.iload_n 2, 1) := by decide +kernel
theorem dX6_text_46 : decode cX6_text 46 = .ok (.invokevirtual 70, 3) := by decide +kernel
theorem dX6_text_49 : decode cX6_text 49 = .ok (.invokevirtual 135, 3) := by decide +kernel
theorem dX6_text_52 : decode cX6_text 52 = .ok (.iinc 2 1, 3) := by decide +kernel
theorem dX6_text_55 : decode cX6_text 55 = .ok (.goto (-37), 3) := by decide +kernel
theorem dX6_text_58 : decode cX6_text 58 = .ok (.iload_n 1, 1) := by decide +kernel
theorem dX6_text_59 : decode cX6_text 59 = .ok (.ireturn, 1) := by decide +kernel
theorem dX6_readSigns_0 : decode cX6_readSigns 0 = .ok (.aload_n 1, 1) := by decide +kernel
theorem dX6_readSigns_1 : decode cX6_readSigns 1 = .ok (.invokevirtual 55, 3) := by decide +kernel
theorem dX6_readSigns_4 : decode cX6_readSigns 4 = .ok (.aload_n 0, 1) := by decide +kernel
theorem dX6_readSigns_5 : decode cX6_readSigns 5 = .ok (.bipush 34, 2) := by decide +kernel
theorem dX6_readSigns_7 : decode cX6_readSigns 7 = .ok (.invokevirtual 128, 3) := by decide +kernel
theorem dX6_readSigns_10 : decode cX6_readSigns 10 = .ok (.iconst 0, 1) := by decide +kernel
theorem dX6_readSigns_11 : decode cX6_readSigns 11 = .ok (.istore_n 3, 1) := by decide +kernel
theorem dX6_readSigns_12 : decode cX6_readSigns 12 = .ok (.iload_n 3, 1) := by decide +kernel
theorem dX6_readSigns_13 : decode cX6_readSigns 13 = .ok (.iload_n 2, 1) := by decide +kernel
theorem dX6_readSigns_14 : decode cX6_readSigns 14 = .ok (.if_icmp .gt 113, 3) := by decide +kernel
theorem dX6_readSigns_17 : decode cX6_readSigns 17 = .ok (.aload_n 0, 1) := by decide +kernel
theorem dX6_readSigns_18 : decode cX6_readSigns 18 = .ok (.invokevirtual 63, 3) := by decide +kernel
theorem dX6_readSigns_21 : decode cX6_readSigns 21 = .ok (.bipush 34, 2) := by decide +kernel
theorem dX6_readSigns_23 : decode cX6_readSigns 23 = .ok (.if_icmp .eq 104, 3) := by decide +kernel
theorem dX6_readSigns_26 : decode cX6_readSigns 26 = .ok (.aload_n 0, 1) := by decide +kernel
theorem dX6_readSigns_27 : decode cX6_readSigns 27 = .ok (.invokevirtual 120, 3) := by decide +kernel
theorem dX6_readSigns_30 : decode cX6_readSigns 30 = .ok (.ifCond .eq 97, 3) := by decide +kernel
theorem dX6_readSigns_33 : decode cX6_readSigns 33 = .ok (.aload_n 1, 1) := by decide +kernel
theorem dX6_readSigns_34 : decode cX6_readSigns 34 = .ok (.invokevirtual 73, 3) := by decide +kernel
theorem dX6_readSigns_37 : decode cX6_readSigns 37 = .ok (.iload_n 2, 1) := by decide +kernel
theorem dX6_readSigns_38 : decode cX6_readSigns 38 = .ok (.if_icmp .ge 12, 3) := by decide +kernel
theorem dX6_readSigns_41 : decode cX6_readSigns 41 = .ok (.aload_n 0, 1) := by decide +kernel
theorem dX6_readSigns_42 : decode cX6_readSigns 42 = .ok (.invokevirtual 63, 3) := by decide +kernel
theorem dX6_readSigns_45 : decode cX6_readSigns 45 = .ok (.bipush 32, 2) := by decide +kernel
theorem dX6_readSigns_47 : decode cX6_readSigns 47 = .ok (.if_icmp .ge 15, 3) := by decide +kernel
theorem dX6_readSigns_50 : decode cX6_readSigns 50 = .ok (.aload_n 0, 1) := by decide +kernel
theorem dX6_readSigns_51 : decode cX6_readSigns 51 = .ok (.aload_n 0, 1) := by decide +kernel
theorem dX6_readSigns_52 : decode cX6_readSigns 52 = .ok (.getfield 43, 3) := by decide +kernel
theorem dX6_readSigns_55 : decode cX6_readSigns 55 = .ok (.invokevirtual 67, 3) := by decide +kernel
theorem dX6_readSigns_58 : decode cX6_readSigns 58 = .ok (.pop, 1) := by decide +kernel
theorem dX6_readSigns_59 : decode cX6_readSigns 59 = .ok (.goto 62, 3) := by decide +kernel
theorem dX6_readSigns_62 : decode cX6_readSigns 62 = .ok (.aload_n 0, 1) := by decide +kernel
theorem dX6_readSigns_63 : decode cX6_readSigns 63 = .ok (.invokevirtual 63, 3) := by decide +kernel
theorem dX6_readSigns_66 : decode cX6_readSigns 66 = .ok (.bipush 92, 2) := by decide +kernel
theorem dX6_readSigns_68 : decode cX6_readSigns 68 = .ok (.if_icmp .ne 35, 3) := by decide +kernel
theorem dX6_readSigns_71 : decode cX6_readSigns 71 = .ok (.aload_n 0, 1) := by decide +kernel
theorem dX6_readSigns_72 : decode cX6_readSigns 72 = .ok (.dup, 1) := by decide +kernel
theorem dX6_readSigns_73 : decode cX6_readSigns 73 = .ok (.getfield 43, 3) := by decide +kernel
theorem dX6_readSigns_76 : decode cX6_readSigns 76 = .ok (.iconst 1, 1) := by decide +kernel
theorem dX6_readSigns_77 : decode cX6_readSigns 77 = .ok (.iadd, 1) := by decide +kernel
theorem dX6_readSigns_78 : decode cX6_readSigns 78 = .ok (.putfield 43, 3) := by decide +kernel
theorem dX6_readSigns_81 : decode cX6_readSigns 81 = .ok (.aload_n 0, 1) := by decide +kernel
theorem dX6_readSigns_82 : decode cX6_readSigns 82 = .ok (.invokevirtual 139, 3) := by decide +kernel
theorem dX6_readSigns_85 : decode cX6_readSigns 85 = .ok (.istore 4, 2) := by decide +kernel
theorem dX6_readSigns_87 : decode cX6_readSigns 87 = .ok (.aload_n 0, 1) := by decide +kernel
theorem dX6_readSigns_88 : decode cX6_readSigns 88 = .ok (.invokevirtual 120, 3) := by decide +kernel
theorem dX6_readSigns_91 : decode cX6_readSigns 91 = .ok (.ifCond .eq 9, 3) := by decide +kernel
theorem dX6_readSigns_94 : decode cX6_readSigns 94 = .ok (.aload_n 1, 1) := by decide +kernel
theorem dX6_readSigns_95 : decode cX6_readSigns 95 = .ok (.iload 4, 2) := by decide +kernel
theorem dX6_readSigns_97 : decode cX6_readSigns 97 = .ok (.invokevirtual 142, 3) := by decide +kernel
theorem dX6_readSigns_100 : decode cX6_readSigns 100 = .ok (.goto 21, 3) := by decide +kernel
theorem dX6_readSigns_103 : decode cX6_readSigns 103 = .ok (.aload_n 1, 1) := by decide +kernel
theorem dX6_readSigns_104 : decode cX6_readSigns 104 = .ok (.aload_n 0, 1) := by decide +kernel
theorem dX6_readSigns_105 : decode cX6_readSigns 105 = .ok (.invokevirtual 63, 3) := by decide +kernel
theorem dX6_readSigns_108 : decode cX6_readSigns 108 = .ok (.invokevirtual 142, 3) := by decide +kernel
theorem dX6_readSigns_111 : decode cX6_readSigns 111 = .ok (.aload_n 0, 1) := by decide +kernel
theorem dX6_readSigns_112 : decode cX6_readSigns 112 = .ok (.dup, 1) := by decide +kernel
theorem dX6_readSigns_113 : decode cX6_readSigns 113 = .ok (.getfield 43, 3) := by decide +kernel
theorem dX6_readSigns_116 : decode cX6_readSigns 116 = .ok (.iconst 1, 1) := by decide +kernel
theorem dX6_readSigns_117 : decode cX6_readSigns 117 = .ok (.iadd, 1) := by decide +kernel
theorem dX6_readSigns_118 : decode cX6_readSigns 118 = .ok (.putfield 43, 3) := by decide +kernel
theorem dX6_readSigns_121 : decode cX6_readSigns 121 = .ok (.iinc 3 1, 3) := by decide +kernel
theorem dX6_readSigns_124 : decode cX6_readSigns 124 = .ok (.goto (-112), 3) := by decide +kernel
theorem dX6_readSigns_127 : decode cX6_readSigns 127 = .ok (.aload_n 0, 1) := by decide +kernel
theorem dX6_readSigns_128 : decode cX6_readSigns 128 = .ok (.bipush 34, 2) := by decide +kernel
theorem dX6_readSigns_130 : decode cX6_readSigns 130 = .ok (.invokevirtual 128, 3) := by decide +kernel
theorem dX6_readSigns_133 : decode cX6_readSigns 133 = .ok (.return_, 1) := by decide +kernel
theorem dX6_escaped_0 : decode cX6_escaped 0 = .ok (.aload_n 0, 1) := by decide +kernel
theorem dX6_escaped_1 : decode cX6_escaped 1 = .ok (.invokevirtual 63, 3) := by decide +kernel
theorem dX6_escaped_4 : decode cX6_escaped 4 = .ok (.istore_n 1, 1) := by decide +kernel
theorem dX6_escaped_5 : decode cX6_escaped 5 = .ok (.aload_n 0, 1) := by decide +kernel
theorem dX6_escaped_6 : decode cX6_escaped 6 = .ok (.dup, 1) := by decide +kernel
theorem dX6_escaped_7 : decode cX6_escaped 7 = .ok (.getfield 43, 3) := by decide +kernel
theorem dX6_escaped_10 : decode cX6_escaped 10 = .ok (.iconst 1, 1) := by decide +kernel
theorem dX6_escaped_11 : decode cX6_escaped 11 = .ok (.iadd, 1) := by decide +kernel
theorem dX6_escaped_12 : decode cX6_escaped 12 = .ok (.putfield 43, 3) := by decide +kernel
theorem dX6_escaped_15 : decode cX6_escaped 15 = .ok (.iload_n 1, 1) := by decide +kernel
theorem dX6_escaped_16 : decode cX6_escaped 16 = .ok (.lookupswitch 128 #[(34, 84), (47, 84), (92, 84), (98, 86), (102, 89), (110, 92), (114, 95), (116, 98), (117, 101)], 84) := by decide +kernel
theorem dX6_escaped_100 : decode cX6_escaped 100 = .ok (.iload_n 1, 1) := by decide +kernel
theorem dX6_escaped_101 : decode cX6_escaped 101 = .ok (.ireturn, 1) := by decide +kernel
theorem dX6_escaped_102 : decode cX6_escaped 102 = .ok (.bipush 8, 2) := by decide +kernel
theorem dX6_escaped_104 : decode cX6_escaped 104 = .ok (.ireturn, 1) := by decide +kernel
theorem dX6_escaped_105 : decode cX6_escaped 105 = .ok (.bipush 12, 2) := by decide +kernel
theorem dX6_escaped_107 : decode cX6_escaped 107 = .ok (.ireturn, 1) := by decide +kernel
theorem dX6_escaped_108 : decode cX6_escaped 108 = .ok (.bipush 10, 2) := by decide +kernel
theorem dX6_escaped_110 : decode cX6_escaped 110 = .ok (.ireturn, 1) := by decide +kernel
theorem dX6_escaped_111 : decode cX6_escaped 111 = .ok (.bipush 13, 2) := by decide +kernel
theorem dX6_escaped_113 : decode cX6_escaped 113 = .ok (.ireturn, 1) := by decide +kernel
theorem dX6_escaped_114 : decode cX6_escaped 114 = .ok (.bipush 9, 2) := by decide +kernel
theorem dX6_escaped_116 : decode cX6_escaped 116 = .ok (.ireturn, 1) := by decide +kernel
theorem dX6_escaped_117 : decode cX6_escaped 117 = .ok (.aload_n 0, 1) := by decide +kernel
theorem dX6_escaped_118 : decode cX6_escaped 118 = .ok (.bipush 48, 2) := by decide +kernel
theorem dX6_escaped_120 : decode cX6_escaped 120 = .ok (.invokevirtual 128, 3) := by decide +kernel
theorem dX6_escaped_123 : decode cX6_escaped 123 = .ok (.aload_n 0, 1) := by decide +kernel
theorem dX6_escaped_124 : decode cX6_escaped 124 = .ok (.bipush 48, 2) := by decide +kernel
theorem dX6_escaped_126 : decode cX6_escaped 126 = .ok (.invokevirtual 128, 3) := by decide +kernel
theorem dX6_escaped_129 : decode cX6_escaped 129 = .ok (.aload_n 0, 1) := by decide +kernel
theorem dX6_escaped_130 : decode cX6_escaped 130 = .ok (.invokevirtual 144, 3) := by decide +kernel
theorem dX6_escaped_133 : decode cX6_escaped 133 = .ok (.istore_n 2, 1) := by decide +kernel
theorem dX6_escaped_134 : decode cX6_escaped 134 = .ok (.bipush 16, 2) := by decide +kernel
theorem dX6_escaped_136 : decode cX6_escaped 136 = .ok (.iload_n 2, 1) := by decide +kernel
theorem dX6_escaped_137 : decode cX6_escaped 137 = .ok (.imul, 1) := by decide +kernel
theorem dX6_escaped_138 : decode cX6_escaped 138 = .ok (.aload_n 0, 1) := by decide +kernel
theorem dX6_escaped_139 : decode cX6_escaped 139 = .ok (.invokevirtual 144, 3) := by decide +kernel
theorem dX6_escaped_142 : decode cX6_escaped 142 = .ok (.iadd, 1) := by decide +kernel
theorem dX6_escaped_143 : decode cX6_escaped 143 = .ok (.ireturn, 1) := by decide +kernel
theorem dX6_escaped_144 : decode cX6_escaped 144 = .ok (.aload_n 0, 1) := by decide +kernel
theorem dX6_escaped_145 : decode cX6_escaped 145 = .ok (.aload_n 0, 1) := by decide +kernel
theorem dX6_escaped_146 : decode cX6_escaped 146 = .ok (.getfield 43, 3) := by decide +kernel
theorem dX6_escaped_149 : decode cX6_escaped 149 = .ok (.iconst 1, 1) := by decide +kernel
theorem dX6_escaped_150 : decode cX6_escaped 150 = .ok (.isub, 1) := by decide +kernel
theorem dX6_escaped_151 : decode cX6_escaped 151 = .ok (.invokevirtual 67, 3) := by decide +kernel
theorem dX6_escaped_154 : decode cX6_escaped 154 = .ok (.ireturn, 1) := by decide +kernel
theorem dX6_hexFigure_0 : decode cX6_hexFigure 0 = .ok (.aload_n 0, 1) := by decide +kernel
theorem dX6_hexFigure_1 : decode cX6_hexFigure 1 = .ok (.getfield 36, 3) := by decide +kernel
theorem dX6_hexFigure_4 : decode cX6_hexFigure 4 = .ok (.aload_n 0, 1) := by decide +kernel
theorem dX6_hexFigure_5 : decode cX6_hexFigure 5 = .ok (.getfield 43, 3) := by decide +kernel
theorem dX6_hexFigure_8 : decode cX6_hexFigure 8 = .ok (.invokevirtual 70, 3) := by decide +kernel
theorem dX6_hexFigure_11 : decode cX6_hexFigure 11 = .ok (.istore_n 1, 1) := by decide +kernel
theorem dX6_hexFigure_12 : decode cX6_hexFigure 12 = .ok (.aload_n 0, 1) := by decide +kernel
theorem dX6_hexFigure_13 : decode cX6_hexFigure 13 = .ok (.invokevirtual 120, 3) := by decide +kernel
theorem dX6_hexFigure_16 : decode cX6_hexFigure 16 = .ok (.ifCond .eq 25, 3) := by decide +kernel
theorem dX6_hexFigure_19 : decode cX6_hexFigure 19 = .ok (.iload_n 1, 1) := by decide +kernel
theorem dX6_hexFigure_20 : decode cX6_hexFigure 20 = .ok (.invokestatic 90, 3) := by decide +kernel
theorem dX6_hexFigure_23 : decode cX6_hexFigure 23 = .ok (.ifCond .eq 18, 3) := by decide +kernel
theorem dX6_hexFigure_26 : decode cX6_hexFigure 26 = .ok (.aload_n 0, 1) := by decide +kernel
theorem dX6_hexFigure_27 : decode cX6_hexFigure 27 = .ok (.dup, 1) := by decide +kernel
theorem dX6_hexFigure_28 : decode cX6_hexFigure 28 = .ok (.getfield 43, 3) := by decide +kernel
theorem dX6_hexFigure_31 : decode cX6_hexFigure 31 = .ok (.iconst 1, 1) := by decide +kernel
theorem dX6_hexFigure_32 : decode cX6_hexFigure 32 = .ok (.iadd, 1) := by decide +kernel
theorem dX6_hexFigure_33 : decode cX6_hexFigure 33 = .ok (.putfield 43, 3) := by decide +kernel
theorem dX6_hexFigure_36 : decode cX6_hexFigure 36 = .ok (.iload_n 1, 1) := by decide +kernel
theorem dX6_hexFigure_37 : decode cX6_hexFigure 37 = .ok (.bipush 48, 2) := by decide +kernel
theorem dX6_hexFigure_39 : decode cX6_hexFigure 39 = .ok (.isub, 1) := by decide +kernel
theorem dX6_hexFigure_40 : decode cX6_hexFigure 40 = .ok (.ireturn, 1) := by decide +kernel
theorem dX6_hexFigure_41 : decode cX6_hexFigure 41 = .ok (.aload_n 0, 1) := by decide +kernel
theorem dX6_hexFigure_42 : decode cX6_hexFigure 42 = .ok (.invokevirtual 120, 3) := by decide +kernel
theorem dX6_hexFigure_45 : decode cX6_hexFigure 45 = .ok (.ifCond .eq 56, 3) := by decide +kernel
theorem dX6_hexFigure_48 : decode cX6_hexFigure 48 = .ok (.iload_n 1, 1) := by decide +kernel
theorem dX6_hexFigure_49 : decode cX6_hexFigure 49 = .ok (.bipush 97, 2) := by decide +kernel
theorem dX6_hexFigure_51 : decode cX6_hexFigure 51 = .ok (.if_icmp .lt 9, 3) := by decide +kernel
theorem dX6_hexFigure_54 : decode cX6_hexFigure 54 = .ok (.iload_n 1, 1) := by decide +kernel
theorem dX6_hexFigure_55 : decode cX6_hexFigure 55 = .ok (.bipush 102, 2) := by decide +kernel
theorem dX6_hexFigure_57 : decode cX6_hexFigure 57 = .ok (.if_icmp .le 15, 3) := by decide +kernel
theorem dX6_hexFigure_60 : decode cX6_hexFigure 60 = .ok (.iload_n 1, 1) := by decide +kernel
theorem dX6_hexFigure_61 : decode cX6_hexFigure 61 = .ok (.bipush 65, 2) := by decide +kernel
theorem dX6_hexFigure_63 : decode cX6_hexFigure 63 = .ok (.if_icmp .lt 38, 3) := by decide +kernel
theorem dX6_hexFigure_66 : decode cX6_hexFigure 66 = .ok (.iload_n 1, 1) := by decide +kernel
theorem dX6_hexFigure_67 : decode cX6_hexFigure 67 = .ok (.bipush 70, 2) := by decide +kernel
theorem dX6_hexFigure_69 : decode cX6_hexFigure 69 = .ok (.if_icmp .gt 32, 3) := by decide +kernel
theorem dX6_hexFigure_72 : decode cX6_hexFigure 72 = .ok (.aload_n 0, 1) := by decide +kernel
theorem dX6_hexFigure_73 : decode cX6_hexFigure 73 = .ok (.dup, 1) := by decide +kernel
theorem dX6_hexFigure_74 : decode cX6_hexFigure 74 = .ok (.getfield 43, 3) := by decide +kernel
theorem dX6_hexFigure_77 : decode cX6_hexFigure 77 = .ok (.iconst 1, 1) := by decide +kernel
theorem dX6_hexFigure_78 : decode cX6_hexFigure 78 = .ok (.iadd, 1) := by decide +kernel
theorem dX6_hexFigure_79 : decode cX6_hexFigure 79 = .ok (.putfield 43, 3) := by decide +kernel
theorem dX6_hexFigure_82 : decode cX6_hexFigure 82 = .ok (.iload_n 1, 1) := by decide +kernel
theorem dX6_hexFigure_83 : decode cX6_hexFigure 83 = .ok (.iload_n 1, 1) := by decide +kernel
theorem dX6_hexFigure_84 : decode cX6_hexFigure 84 = .ok (.bipush 97, 2) := by decide +kernel
theorem dX6_hexFigure_86 : decode cX6_hexFigure 86 = .ok (.if_icmp .lt 8, 3) := by decide +kernel
theorem dX6_hexFigure_89 : decode cX6_hexFigure 89 = .ok (.bipush 97, 2) := by decide +kernel
theorem dX6_hexFigure_91 : decode cX6_hexFigure 91 = .ok (.goto 5, 3) := by decide +kernel
theorem dX6_hexFigure_94 : decode cX6_hexFigure 94 = .ok (.bipush 65, 2) := by decide +kernel
theorem dX6_hexFigure_96 : decode cX6_hexFigure 96 = .ok (.isub, 1) := by decide +kernel
theorem dX6_hexFigure_97 : decode cX6_hexFigure 97 = .ok (.bipush 10, 2) := by decide +kernel
theorem dX6_hexFigure_99 : decode cX6_hexFigure 99 = .ok (.iadd, 1) := by decide +kernel
theorem dX6_hexFigure_100 : decode cX6_hexFigure 100 = .ok (.ireturn, 1) := by decide +kernel
theorem dX6_hexFigure_101 : decode cX6_hexFigure 101 = .ok (.aload_n 0, 1) := by decide +kernel
theorem dX6_hexFigure_102 : decode cX6_hexFigure 102 = .ok (.aload_n 0, 1) := by decide +kernel
theorem dX6_hexFigure_103 : decode cX6_hexFigure 103 = .ok (.getfield 43, 3) := by decide +kernel
theorem dX6_hexFigure_106 : decode cX6_hexFigure 106 = .ok (.invokevirtual 67, 3) := by decide +kernel
theorem dX6_hexFigure_109 : decode cX6_hexFigure 109 = .ok (.pop, 1) := by decide +kernel
theorem dX6_hexFigure_110 : decode cX6_hexFigure 110 = .ok (.iconst 0, 1) := by decide +kernel
theorem dX6_hexFigure_111 : decode cX6_hexFigure 111 = .ok (.ireturn, 1) := by decide +kernel
theorem dX6_number_0 : decode cX6_number 0 = .ok (.aload_n 0, 1) := by decide +kernel
theorem dX6_number_1 : decode cX6_number 1 = .ok (.getfield 43, 3) := by decide +kernel
theorem dX6_number_4 : decode cX6_number 4 = .ok (.istore_n 1, 1) := by decide +kernel
theorem dX6_number_5 : decode cX6_number 5 = .ok (.aload_n 0, 1) := by decide +kernel
theorem dX6_number_6 : decode cX6_number 6 = .ok (.getfield 33, 3) := by decide +kernel
theorem dX6_number_9 : decode cX6_number 9 = .ok (.invokevirtual 55, 3) := by decide +kernel
theorem dX6_number_12 : decode cX6_number 12 = .ok (.aload_n 0, 1) := by decide +kernel
theorem dX6_number_13 : decode cX6_number 13 = .ok (.invokevirtual 63, 3) := by decide +kernel
theorem dX6_number_16 : decode cX6_number 16 = .ok (.bipush 45, 2) := by decide +kernel
theorem dX6_number_18 : decode cX6_number 18 = .ok (.if_icmp .ne 7, 3) := by decide +kernel
theorem dX6_number_21 : decode cX6_number 21 = .ok (.iconst 1, 1) := by decide +kernel
theorem dX6_number_22 : decode cX6_number 22 = .ok (.goto 4, 3) := by decide +kernel
theorem dX6_number_25 : decode cX6_number 25 = .ok (.iconst 0, 1) := by decide +kernel
theorem dX6_number_26 : decode cX6_number 26 = .ok (.istore_n 2, 1) := by decide +kernel
theorem dX6_number_27 : decode cX6_number 27 = .ok (.iload_n 2, 1) := by decide +kernel
theorem dX6_number_28 : decode cX6_number 28 = .ok (.ifCond .eq 13, 3) := by decide +kernel
theorem dX6_number_31 : decode cX6_number 31 = .ok (.aload_n 0, 1) := by decide +kernel
theorem dX6_number_32 : decode cX6_number 32 = .ok (.dup, 1) := by decide +kernel
theorem dX6_number_33 : decode cX6_number 33 = .ok (.getfield 43, 3) := by decide +kernel
theorem dX6_number_36 : decode cX6_number 36 = .ok (.iconst 1, 1) := by decide +kernel
theorem dX6_number_37 : decode cX6_number 37 = .ok (.iadd, 1) := by decide +kernel
theorem dX6_number_38 : decode cX6_number 38 = .ok (.putfield 43, 3) := by decide +kernel
theorem dX6_number_41 : decode cX6_number 41 = .ok (.aload_n 0, 1) := by decide +kernel
theorem dX6_number_42 : decode cX6_number 42 = .ok (.invokevirtual 63, 3) := by decide +kernel
theorem dX6_number_45 : decode cX6_number 45 = .ok (.bipush 48, 2) := by decide +kernel
theorem dX6_number_47 : decode cX6_number 47 = .ok (.if_icmp .ne 10, 3) := by decide +kernel
theorem dX6_number_50 : decode cX6_number 50 = .ok (.aload_n 0, 1) := by decide +kernel
theorem dX6_number_51 : decode cX6_number 51 = .ok (.invokevirtual 147, 3) := by decide +kernel
theorem dX6_number_54 : decode cX6_number 54 = .ok (.goto 7, 3) := by decide +kernel
theorem dX6_number_57 : decode cX6_number 57 = .ok (.aload_n 0, 1) := by decide +kernel
theorem dX6_number_58 : decode cX6_number 58 = .ok (.invokevirtual 150, 3) := by decide +kernel
theorem dX6_number_61 : decode cX6_number 61 = .ok (.aload_n 0, 1) := by decide +kernel
theorem dX6_number_62 : decode cX6_number 62 = .ok (.getfield 33, 3) := by decide +kernel
theorem dX6_number_65 : decode cX6_number 65 = .ok (.invokevirtual 73, 3) := by decide +kernel
theorem dX6_number_68 : decode cX6_number 68 = .ok (.istore_n 3, 1) := by decide +kernel
theorem dX6_number_69 : decode cX6_number 69 = .ok (.aload_n 0, 1) := by decide +kernel
theorem dX6_number_70 : decode cX6_number 70 = .ok (.invokevirtual 63, 3) := by decide +kernel
theorem dX6_number_73 : decode cX6_number 73 = .ok (.bipush 46, 2) := by decide +kernel
theorem dX6_number_75 : decode cX6_number 75 = .ok (.if_icmp .ne 24, 3) := by decide +kernel
theorem dX6_number_78 : decode cX6_number 78 = .ok (.aload_n 0, 1) := by decide +kernel
theorem dX6_number_79 : decode cX6_number 79 = .ok (.invokevirtual 120, 3) := by decide +kernel
theorem dX6_number_82 : decode cX6_number 82 = .ok (.ifCond .eq 17, 3) := by decide +kernel
theorem dX6_number_85 : decode cX6_number 85 = .ok (.aload_n 0, 1) := by decide +kernel
theorem dX6_number_86 : decode cX6_number 86 = .ok (.dup, 1) := by decide +kernel
theorem dX6_number_87 : decode cX6_number 87 = .ok (.getfield 43, 3) := by decide +kernel
theorem dX6_number_90 : decode cX6_number 90 = .ok (.iconst 1, 1) := by decide +kernel
theorem dX6_number_91 : decode cX6_number 91 = .ok (.iadd, 1) := by decide +kernel
theorem dX6_number_92 : decode cX6_number 92 = .ok (.putfield 43, 3) := by decide +kernel
theorem dX6_number_95 : decode cX6_number 95 = .ok (.aload_n 0, 1) := by decide +kernel
theorem dX6_number_96 : decode cX6_number 96 = .ok (.invokevirtual 150, 3) := by decide +kernel
theorem dX6_number_99 : decode cX6_number 99 = .ok (.iload_n 3, 1) := by decide +kernel
theorem dX6_number_100 : decode cX6_number 100 = .ok (.aload_n 0, 1) := by decide +kernel
theorem dX6_number_101 : decode cX6_number 101 = .ok (.getfield 33, 3) := by decide +kernel
theorem dX6_number_104 : decode cX6_number 104 = .ok (.invokevirtual 73, 3) := by decide +kernel
theorem dX6_number_107 : decode cX6_number 107 = .ok (.isub, 1) := by decide +kernel
theorem dX6_number_108 : decode cX6_number 108 = .ok (.istore 4, 2) := by decide +kernel
theorem dX6_number_110 : decode cX6_number 110 = .ok (.aload_n 0, 1) := by decide +kernel
theorem dX6_number_111 : decode cX6_number 111 = .ok (.invokevirtual 63, 3) := by decide +kernel
theorem dX6_number_114 : decode cX6_number 114 = .ok (.bipush 101, 2) := by decide +kernel
theorem dX6_number_116 : decode cX6_number 116 = .ok (.if_icmp .eq 12, 3) := by decide +kernel
theorem dX6_number_119 : decode cX6_number 119 = .ok (.aload_n 0, 1) := by decide +kernel
theorem dX6_number_120 : decode cX6_number 120 = .ok (.invokevirtual 63, 3) := by decide +kernel
theorem dX6_number_123 : decode cX6_number 123 = .ok (.bipush 69, 2) := by decide +kernel
theorem dX6_number_125 : decode cX6_number 125 = .ok (.if_icmp .ne 19, 3) := by decide +kernel
theorem dX6_number_128 : decode cX6_number 128 = .ok (.aload_n 0, 1) := by decide +kernel
theorem dX6_number_129 : decode cX6_number 129 = .ok (.invokevirtual 120, 3) := by decide +kernel
theorem dX6_number_132 : decode cX6_number 132 = .ok (.ifCond .eq 12, 3) := by decide +kernel
theorem dX6_number_135 : decode cX6_number 135 = .ok (.iload 4, 2) := by decide +kernel
theorem dX6_number_137 : decode cX6_number 137 = .ok (.aload_n 0, 1) := by decide +kernel
theorem dX6_number_138 : decode cX6_number 138 = .ok (.invokevirtual 153, 3) := by decide +kernel
theorem dX6_number_141 : decode cX6_number 141 = .ok (.iadd, 1) := by decide +kernel
theorem dX6_number_142 : decode cX6_number 142 = .ok (.istore 4, 2) := by decide +kernel
theorem dX6_number_144 : decode cX6_number 144 = .ok (.aload_n 0, 1) := by decide +kernel
theorem dX6_number_145 : decode cX6_number 145 = .ok (.iconst 2, 1) := by decide +kernel
theorem dX6_number_146 : decode cX6_number 146 = .ok (.invokevirtual 106, 3) := by decide +kernel
theorem dX6_number_149 : decode cX6_number 149 = .ok (.istore 5, 2) := by decide +kernel
theorem dX6_number_151 : decode cX6_number 151 = .ok (.aload_n 0, 1) := by decide +kernel
theorem dX6_number_152 : decode cX6_number 152 = .ok (.invokevirtual 120, 3) := by decide +kernel
theorem dX6_number_155 : decode cX6_number 155 = .ok (.ifCond .eq 28, 3) := by decide +kernel
theorem dX6_number_158 : decode cX6_number 158 = .ok (.aload_n 0, 1) := by decide +kernel
theorem dX6_number_159 : decode cX6_number 159 = .ok (.getfield 12, 3) := by decide +kernel
theorem dX6_number_162 : decode cX6_number 162 = .ok (.iload 5, 2) := by decide +kernel
theorem dX6_number_164 : decode cX6_number 164 = .ok (.iload_n 2, 1) := by decide +kernel
theorem dX6_number_165 : decode cX6_number 165 = .ok (.aload_n 0, 1) := by decide +kernel
theorem dX6_number_166 : decode cX6_number 166 = .ok (.getfield 33, 3) := by decide +kernel
theorem dX6_number_169 : decode cX6_number 169 = .ok (.iload 4, 2) := by decide +kernel
theorem dX6_number_171 : decode cX6_number 171 = .ok (.invokevirtual 156, 3) := by decide +kernel
theorem dX6_number_174 : decode cX6_number 174 = .ok (.ifCond .ne 9, 3) := by decide +kernel
theorem dX6_number_177 : decode cX6_number 177 = .ok (.aload_n 0, 1) := by decide +kernel
theorem dX6_number_178 : decode cX6_number 178 = .ok (.iload_n 1, 1) := by decide +kernel
theorem dX6_number_179 : decode cX6_number 179 = .ok (.invokevirtual 67, 3) := by decide +kernel
theorem dX6_number_182 : decode cX6_number 182 = .ok (.pop, 1) := by decide +kernel
theorem dX6_number_183 : decode cX6_number 183 = .ok (.iload 5, 2) := by decide +kernel
theorem dX6_number_185 : decode cX6_number 185 = .ok (.ireturn, 1) := by decide +kernel
theorem dX6_readFigure_0 : decode cX6_readFigure 0 = .ok (.aload_n 0, 1) := by decide +kernel
theorem dX6_readFigure_1 : decode cX6_readFigure 1 = .ok (.getfield 33, 3) := by decide +kernel
theorem dX6_readFigure_4 : decode cX6_readFigure 4 = .ok (.invokevirtual 73, 3) := by decide +kernel
theorem dX6_readFigure_7 : decode cX6_readFigure 7 = .ok (.bipush 24, 2) := by decide +kernel
theorem dX6_readFigure_9 : decode cX6_readFigure 9 = .ok (.if_icmp .lt 13, 3) := by decide +kernel
theorem dX6_readFigure_12 : decode cX6_readFigure 12 = .ok (.aload_n 0, 1) := by decide +kernel
theorem dX6_readFigure_13 : decode cX6_readFigure 13 = .ok (.aload_n 0, 1) := by decide +kernel
theorem dX6_readFigure_14 : decode cX6_readFigure 14 = .ok (.getfield 43, 3) := by decide +kernel
theorem dX6_readFigure_17 : decode cX6_readFigure 17 = .ok (.invokevirtual 67, 3) := by decide +kernel
theorem dX6_readFigure_20 : decode cX6_readFigure 20 = .ok (.pop, 1) := by decide +kernel
theorem dX6_readFigure_21 : decode cX6_readFigure 21 = .ok (.return_, 1) := by decide +kernel
theorem dX6_readFigure_22 : decode cX6_readFigure 22 = .ok (.aload_n 0, 1) := by decide +kernel
theorem dX6_readFigure_23 : decode cX6_readFigure 23 = .ok (.getfield 33, 3) := by decide +kernel
theorem dX6_readFigure_26 : decode cX6_readFigure 26 = .ok (.aload_n 0, 1) := by decide +kernel
theorem dX6_readFigure_27 : decode cX6_readFigure 27 = .ok (.invokevirtual 63, 3) := by decide +kernel
theorem dX6_readFigure_30 : decode cX6_readFigure 30 = .ok (.invokevirtual 142, 3) := by decide +kernel
theorem dX6_readFigure_33 : decode cX6_readFigure 33 = .ok (.aload_n 0, 1) := by decide +kernel
theorem dX6_readFigure_34 : decode cX6_readFigure 34 = .ok (.dup, 1) := by decide +kernel
theorem dX6_readFigure_35 : decode cX6_readFigure 35 = .ok (.getfield 43, 3) := by decide +kernel
theorem dX6_readFigure_38 : decode cX6_readFigure 38 = .ok (.iconst 1, 1) := by decide +kernel
theorem dX6_readFigure_39 : decode cX6_readFigure 39 = .ok (.iadd, 1) := by decide +kernel
theorem dX6_readFigure_40 : decode cX6_readFigure 40 = .ok (.putfield 43, 3) := by decide +kernel
theorem dX6_readFigure_43 : decode cX6_readFigure 43 = .ok (.return_, 1) := by decide +kernel
theorem dX6_readFigures_0 : decode cX6_readFigures 0 = .ok (.aload_n 0, 1) := by decide +kernel
theorem dX6_readFigures_1 : decode cX6_readFigures 1 = .ok (.invokevirtual 63, 3) := by decide +kernel
theorem dX6_readFigures_4 : decode cX6_readFigures 4 = .ok (.invokestatic 90, 3) := by decide +kernel
theorem dX6_readFigures_7 : decode cX6_readFigures 7 = .ok (.ifCond .ne 12, 3) := by decide +kernel
theorem dX6_readFigures_10 : decode cX6_readFigures 10 = .ok (.aload_n 0, 1) := by decide +kernel
theorem dX6_readFigures_11 : decode cX6_readFigures 11 = .ok (.aload_n 0, 1) := by decide +kernel
theorem dX6_readFigures_12 : decode cX6_readFigures 12 = .ok (.getfield 43, 3) := by decide +kernel
theorem dX6_readFigures_15 : decode cX6_readFigures 15 = .ok (.invokevirtual 67, 3) := by decide +kernel
theorem dX6_readFigures_18 : decode cX6_readFigures 18 = .ok (.pop, 1) := by decide +kernel
theorem dX6_readFigures_19 : decode cX6_readFigures 19 = .ok (.iconst 0, 1) := by decide +kernel
theorem dX6_readFigures_20 : decode cX6_readFigures 20 = .ok (.istore_n 1, 1) := by decide +kernel
theorem dX6_readFigures_21 : decode cX6_readFigures 21 = .ok (.iload_n 1, 1) := by decide +kernel
theorem dX6_readFigures_22 : decode cX6_readFigures 22 = .ok (.bipush 24, 2) := by decide +kernel
theorem dX6_readFigures_24 : decode cX6_readFigures 24 = .ok (.if_icmp .gt 30, 3) := by decide +kernel
theorem dX6_readFigures_27 : decode cX6_readFigures 27 = .ok (.aload_n 0, 1) := by decide +kernel
theorem dX6_readFigures_28 : decode cX6_readFigures 28 = .ok (.invokevirtual 63, 3) := by decide +kernel
theorem dX6_readFigures_31 : decode cX6_readFigures 31 = .ok (.invokestatic 90, 3) := by decide +kernel
theorem dX6_readFigures_34 : decode cX6_readFigures 34 = .ok (.ifCond .eq 20, 3) := by decide +kernel
theorem dX6_readFigures_37 : decode cX6_readFigures 37 = .ok (.aload_n 0, 1) := by decide +kernel
theorem dX6_readFigures_38 : decode cX6_readFigures 38 = .ok (.invokevirtual 120, 3) := by decide +kernel
theorem dX6_readFigures_41 : decode cX6_readFigures 41 = .ok (.ifCond .eq 13, 3) := by decide +kernel
theorem dX6_readFigures_44 : decode cX6_readFigures 44 = .ok (.aload_n 0, 1) := by decide +kernel
theorem dX6_readFigures_45 : decode cX6_readFigures 45 = .ok (.invokevirtual 147, 3) := by decide +kernel
theorem dX6_readFigures_48 : decode cX6_readFigures 48 = .ok (.iinc 1 1, 3) := by decide +kernel
theorem dX6_readFigures_51 : decode cX6_readFigures 51 = .ok (.goto (-30), 3) := by decide +kernel
theorem dX6_readFigures_54 : decode cX6_readFigures 54 = .ok (.return_, 1) := by decide +kernel
theorem dX6_exponent_0 : decode cX6_exponent 0 = .ok (.aload_n 0, 1) := by decide +kernel
theorem dX6_exponent_1 : decode cX6_exponent 1 = .ok (.dup, 1) := by decide +kernel
theorem dX6_exponent_2 : decode cX6_exponent 2 = .ok (.getfield 43, 3) := by decide +kernel
theorem dX6_exponent_5 : decode cX6_exponent 5 = .ok (.iconst 1, 1) := by decide +kernel
theorem dX6_exponent_6 : decode cX6_exponent 6 = .ok (.iadd, 1) := by decide +kernel
theorem dX6_exponent_7 : decode cX6_exponent 7 = .ok (.putfield 43, 3) := by decide +kernel
theorem dX6_exponent_10 : decode cX6_exponent 10 = .ok (.aload_n 0, 1) := by decide +kernel
theorem dX6_exponent_11 : decode cX6_exponent 11 = .ok (.invokevirtual 63, 3) := by decide +kernel
theorem dX6_exponent_14 : decode cX6_exponent 14 = .ok (.bipush 45, 2) := by decide +kernel
theorem dX6_exponent_16 : decode cX6_exponent 16 = .ok (.if_icmp .ne 7, 3) := by decide +kernel
theorem dX6_exponent_19 : decode cX6_exponent 19 = .ok (.iconst 1, 1) := by decide +kernel
theorem dX6_exponent_20 : decode cX6_exponent 20 = .ok (.goto 4, 3) := by decide +kernel
theorem dX6_exponent_23 : decode cX6_exponent 23 = .ok (.iconst 0, 1) := by decide +kernel
theorem dX6_exponent_24 : decode cX6_exponent 24 = .ok (.istore_n 1, 1) := by decide +kernel
theorem dX6_exponent_25 : decode cX6_exponent 25 = .ok (.iload_n 1, 1) := by decide +kernel
theorem dX6_exponent_26 : decode cX6_exponent 26 = .ok (.ifCond .ne 12, 3) := by decide +kernel
theorem dX6_exponent_29 : decode cX6_exponent 29 = .ok (.aload_n 0, 1) := by decide +kernel
theorem dX6_exponent_30 : decode cX6_exponent 30 = .ok (.invokevirtual 63, 3) := by decide +kernel
theorem dX6_exponent_33 : decode cX6_exponent 33 = .ok (.bipush 43, 2) := by decide +kernel
theorem dX6_exponent_35 : decode cX6_exponent 35 = .ok (.if_icmp .ne 13, 3) := by decide +kernel
theorem dX6_exponent_38 : decode cX6_exponent 38 = .ok (.aload_n 0, 1) := by decide +kernel
theorem dX6_exponent_39 : decode cX6_exponent 39 = .ok (.dup, 1) := by decide +kernel
theorem dX6_exponent_40 : decode cX6_exponent 40 = .ok (.getfield 43, 3) := by decide +kernel
theorem dX6_exponent_43 : decode cX6_exponent 43 = .ok (.iconst 1, 1) := by decide +kernel
theorem dX6_exponent_44 : decode cX6_exponent 44 = .ok (.iadd, 1) := by decide +kernel
theorem dX6_exponent_45 : decode cX6_exponent 45 = .ok (.putfield 43, 3) := by decide +kernel
theorem dX6_exponent_48 : decode cX6_exponent 48 = .ok (.aload_n 0, 1) := by decide +kernel
theorem dX6_exponent_49 : decode cX6_exponent 49 = .ok (.invokevirtual 63, 3) := by decide +kernel
theorem dX6_exponent_52 : decode cX6_exponent 52 = .ok (.invokestatic 90, 3) := by decide +kernel
theorem dX6_exponent_55 : decode cX6_exponent 55 = .ok (.ifCond .ne 14, 3) := by decide +kernel
theorem dX6_exponent_58 : decode cX6_exponent 58 = .ok (.aload_n 0, 1) := by decide +kernel
theorem dX6_exponent_59 : decode cX6_exponent 59 = .ok (.aload_n 0, 1) := by decide +kernel
theorem dX6_exponent_60 : decode cX6_exponent 60 = .ok (.getfield 43, 3) := by decide +kernel
theorem dX6_exponent_63 : decode cX6_exponent 63 = .ok (.invokevirtual 67, 3) := by decide +kernel
theorem dX6_exponent_66 : decode cX6_exponent 66 = .ok (.pop, 1) := by decide +kernel
theorem dX6_exponent_67 : decode cX6_exponent 67 = .ok (.iconst 0, 1) := by decide +kernel
theorem dX6_exponent_68 : decode cX6_exponent 68 = .ok (.ireturn, 1) := by decide +kernel
theorem dX6_exponent_69 : decode cX6_exponent 69 = .ok (.aload_n 0, 1) := by decide +kernel
theorem dX6_exponent_70 : decode cX6_exponent 70 = .ok (.invokevirtual 63, 3) := by decide +kernel
theorem dX6_exponent_73 : decode cX6_exponent 73 = .ok (.bipush 48, 2) := by decide +kernel
theorem dX6_exponent_75 : decode cX6_exponent 75 = .ok (.isub, 1) := by decide +kernel
theorem dX6_exponent_76 : decode cX6_exponent 76 = .ok (.istore_n 2, 1) := by decide +kernel
theorem dX6_exponent_77 : decode cX6_exponent 77 = .ok (.aload_n 0, 1) := by decide +kernel
theorem dX6_exponent_78 : decode cX6_exponent 78 = .ok (.dup, 1) := by decide +kernel
theorem dX6_exponent_79 : decode cX6_exponent 79 = .ok (.getfield 43, 3) := by decide +kernel
theorem dX6_exponent_82 : decode cX6_exponent 82 = .ok (.iconst 1, 1) := by decide +kernel
theorem dX6_exponent_83 : decode cX6_exponent 83 = .ok (.iadd, 1) := by decide +kernel
theorem dX6_exponent_84 : decode cX6_exponent 84 = .ok (.putfield 43, 3) := by decide +kernel
theorem dX6_exponent_87 : decode cX6_exponent 87 = .ok (.aload_n 0, 1) := by decide +kernel
theorem dX6_exponent_88 : decode cX6_exponent 88 = .ok (.invokevirtual 63, 3) := by decide +kernel
theorem dX6_exponent_91 : decode cX6_exponent 91 = .ok (.invokestatic 90, 3) := by decide +kernel
theorem dX6_exponent_94 : decode cX6_exponent 94 = .ok (.ifCond .eq 26, 3) := by decide +kernel
theorem dX6_exponent_97 : decode cX6_exponent 97 = .ok (.iload_n 2, 1) := by decide +kernel
theorem dX6_exponent_98 : decode cX6_exponent 98 = .ok (.bipush 10, 2) := by decide +kernel
theorem dX6_exponent_100 : decode cX6_exponent 100 = .ok (.imul, 1) := by decide +kernel
theorem dX6_exponent_101 : decode cX6_exponent 101 = .ok (.aload_n 0, 1) := by decide +kernel
theorem dX6_exponent_102 : decode cX6_exponent 102 = .ok (.invokevirtual 63, 3) := by decide +kernel
theorem dX6_exponent_105 : decode cX6_exponent 105 = .ok (.iadd, 1) := by decide +kernel
theorem dX6_exponent_106 : decode cX6_exponent 106 = .ok (.bipush 48, 2) := by decide +kernel
theorem dX6_exponent_108 : decode cX6_exponent 108 = .ok (.isub, 1) := by decide +kernel
theorem dX6_exponent_109 : decode cX6_exponent 109 = .ok (.istore_n 2, 1) := by decide +kernel
theorem dX6_exponent_110 : decode cX6_exponent 110 = .ok (.aload_n 0, 1) := by decide +kernel
theorem dX6_exponent_111 : decode cX6_exponent 111 = .ok (.dup, 1) := by decide +kernel
theorem dX6_exponent_112 : decode cX6_exponent 112 = .ok (.getfield 43, 3) := by decide +kernel
theorem dX6_exponent_115 : decode cX6_exponent 115 = .ok (.iconst 1, 1) := by decide +kernel
theorem dX6_exponent_116 : decode cX6_exponent 116 = .ok (.iadd, 1) := by decide +kernel
theorem dX6_exponent_117 : decode cX6_exponent 117 = .ok (.putfield 43, 3) := by decide +kernel
theorem dX6_exponent_120 : decode cX6_exponent 120 = .ok (.iload_n 1, 1) := by decide +kernel
theorem dX6_exponent_121 : decode cX6_exponent 121 = .ok (.ifCond .eq 8, 3) := by decide +kernel
theorem dX6_exponent_124 : decode cX6_exponent 124 = .ok (.iload_n 2, 1) := by decide +kernel
theorem dX6_exponent_125 : decode cX6_exponent 125 = .ok (.ineg, 1) := by decide +kernel
theorem dX6_exponent_126 : decode cX6_exponent 126 = .ok (.goto 4, 3) := by decide +kernel
theorem dX6_exponent_129 : decode cX6_exponent 129 = .ok (.iload_n 2, 1) := by decide +kernel
theorem dX6_exponent_130 : decode cX6_exponent 130 = .ok (.ireturn, 1) := by decide +kernel
theorem dX6_group_0 : decode cX6_group 0 = .ok (.aload_n 0, 1) := by decide +kernel
theorem dX6_group_1 : decode cX6_group 1 = .ok (.iload_n 1, 1) := by decide +kernel
theorem dX6_group_2 : decode cX6_group 2 = .ok (.invokevirtual 106, 3) := by decide +kernel
theorem dX6_group_5 : decode cX6_group 5 = .ok (.istore_n 3, 1) := by decide +kernel
theorem dX6_group_6 : decode cX6_group 6 = .ok (.iload_n 1, 1) := by decide +kernel
theorem dX6_group_7 : decode cX6_group 7 = .ok (.iconst 4, 1) := by decide +kernel
theorem dX6_group_8 : decode cX6_group 8 = .ok (.if_icmp .ne 8, 3) := by decide +kernel
theorem dX6_group_11 : decode cX6_group 11 = .ok (.bipush 93, 2) := by decide +kernel
theorem dX6_group_13 : decode cX6_group 13 = .ok (.goto 5, 3) := by decide +kernel
theorem dX6_group_16 : decode cX6_group 16 = .ok (.bipush 125, 2) := by decide +kernel
theorem dX6_group_18 : decode cX6_group 18 = .ok (.istore 4, 2) := by decide +kernel
theorem dX6_group_20 : decode cX6_group 20 = .ok (.aload_n 0, 1) := by decide +kernel
theorem dX6_group_21 : decode cX6_group 21 = .ok (.dup, 1) := by decide +kernel
theorem dX6_group_22 : decode cX6_group 22 = .ok (.getfield 43, 3) := by decide +kernel
theorem dX6_group_25 : decode cX6_group 25 = .ok (.iconst 1, 1) := by decide +kernel
theorem dX6_group_26 : decode cX6_group 26 = .ok (.iadd, 1) := by decide +kernel
theorem dX6_group_27 : decode cX6_group 27 = .ok (.putfield 43, 3) := by decide +kernel
theorem dX6_group_30 : decode cX6_group 30 = .ok (.aload_n 0, 1) := by decide +kernel
theorem dX6_group_31 : decode cX6_group 31 = .ok (.invokevirtual 60, 3) := by decide +kernel
theorem dX6_group_34 : decode cX6_group 34 = .ok (.aload_n 0, 1) := by decide +kernel
theorem dX6_group_35 : decode cX6_group 35 = .ok (.invokevirtual 63, 3) := by decide +kernel
theorem dX6_group_38 : decode cX6_group 38 = .ok (.iload 4, 2) := by decide +kernel
theorem dX6_group_40 : decode cX6_group 40 = .ok (.if_icmp .ne 7, 3) := by decide +kernel
theorem dX6_group_43 : decode cX6_group 43 = .ok (.iconst 1, 1) := by decide +kernel
theorem dX6_group_44 : decode cX6_group 44 = .ok (.goto 4, 3) := by decide +kernel
theorem dX6_group_47 : decode cX6_group 47 = .ok (.iconst 0, 1) := by decide +kernel
theorem dX6_group_48 : decode cX6_group 48 = .ok (.istore 5, 2) := by decide +kernel
theorem dX6_group_50 : decode cX6_group 50 = .ok (.iconst 0, 1) := by decide +kernel
theorem dX6_group_51 : decode cX6_group 51 = .ok (.istore 6, 2) := by decide +kernel
theorem dX6_group_53 : decode cX6_group 53 = .ok (.iload 6, 2) := by decide +kernel
theorem dX6_group_55 : decode cX6_group 55 = .ok (.bipush 100, 2) := by decide +kernel
theorem dX6_group_57 : decode cX6_group 57 = .ok (.if_icmp .gt 79, 3) := by decide +kernel
theorem dX6_group_60 : decode cX6_group 60 = .ok (.iload 5, 2) := by decide +kernel
theorem dX6_group_62 : decode cX6_group 62 = .ok (.ifCond .ne 74, 3) := by decide +kernel
theorem dX6_group_65 : decode cX6_group 65 = .ok (.aload_n 0, 1) := by decide +kernel
theorem dX6_group_66 : decode cX6_group 66 = .ok (.invokevirtual 120, 3) := by decide +kernel
theorem dX6_group_69 : decode cX6_group 69 = .ok (.ifCond .eq 67, 3) := by decide +kernel
theorem dX6_group_72 : decode cX6_group 72 = .ok (.iload_n 1, 1) := by decide +kernel
theorem dX6_group_73 : decode cX6_group 73 = .ok (.iconst 4, 1) := by decide +kernel
theorem dX6_group_74 : decode cX6_group 74 = .ok (.if_icmp .ne 19, 3) := by decide +kernel
theorem dX6_group_77 : decode cX6_group 77 = .ok (.aload_n 0, 1) := by decide +kernel
theorem dX6_group_78 : decode cX6_group 78 = .ok (.getfield 26, 3) := by decide +kernel
theorem dX6_group_81 : decode cX6_group 81 = .ok (.invokevirtual 55, 3) := by decide +kernel
theorem dX6_group_84 : decode cX6_group 84 = .ok (.aload_n 0, 1) := by decide +kernel
theorem dX6_group_85 : decode cX6_group 85 = .ok (.iload_n 2, 1) := by decide +kernel
theorem dX6_group_86 : decode cX6_group 86 = .ok (.invokevirtual 56, 3) := by decide +kernel
theorem dX6_group_89 : decode cX6_group 89 = .ok (.pop, 1) := by decide +kernel
theorem dX6_group_90 : decode cX6_group 90 = .ok (.goto 9, 3) := by decide +kernel
theorem dX6_group_93 : decode cX6_group 93 = .ok (.aload_n 0, 1) := by decide +kernel
theorem dX6_group_94 : decode cX6_group 94 = .ok (.iload_n 3, 1) := by decide +kernel
theorem dX6_group_95 : decode cX6_group 95 = .ok (.iload_n 2, 1) := by decide +kernel
theorem dX6_group_96 : decode cX6_group 96 = .ok (.invokevirtual 160, 3) := by decide +kernel
theorem dX6_group_99 : decode cX6_group 99 = .ok (.aload_n 0, 1) := by decide +kernel
theorem dX6_group_100 : decode cX6_group 100 = .ok (.invokevirtual 60, 3) := by decide +kernel
theorem dX6_group_103 : decode cX6_group 103 = .ok (.aload_n 0, 1) := by decide +kernel
theorem dX6_group_104 : decode cX6_group 104 = .ok (.invokevirtual 63, 3) := by decide +kernel
theorem dX6_group_107 : decode cX6_group 107 = .ok (.iload 4, 2) := by decide +kernel
theorem dX6_group_109 : decode cX6_group 109 = .ok (.if_icmp .ne 7, 3) := by decide +kernel
theorem dX6_group_112 : decode cX6_group 112 = .ok (.iconst 1, 1) := by decide +kernel
theorem dX6_group_113 : decode cX6_group 113 = .ok (.goto 4, 3) := by decide +kernel
theorem dX6_group_116 : decode cX6_group 116 = .ok (.iconst 0, 1) := by decide +kernel
theorem dX6_group_117 : decode cX6_group 117 = .ok (.istore 5, 2) := by decide +kernel
theorem dX6_group_119 : decode cX6_group 119 = .ok (.iload 5, 2) := by decide +kernel
theorem dX6_group_121 : decode cX6_group 121 = .ok (.ifCond .ne 9, 3) := by decide +kernel
theorem dX6_group_124 : decode cX6_group 124 = .ok (.aload_n 0, 1) := by decide +kernel
theorem dX6_group_125 : decode cX6_group 125 = .ok (.bipush 44, 2) := by decide +kernel
theorem dX6_group_127 : decode cX6_group 127 = .ok (.invokevirtual 128, 3) := by decide +kernel
theorem dX6_group_130 : decode cX6_group 130 = .ok (.iinc 6 1, 3) := by decide +kernel
theorem dX6_group_133 : decode cX6_group 133 = .ok (.goto (-80), 3) := by decide +kernel
theorem dX6_group_136 : decode cX6_group 136 = .ok (.aload_n 0, 1) := by decide +kernel
theorem dX6_group_137 : decode cX6_group 137 = .ok (.iload 4, 2) := by decide +kernel
theorem dX6_group_139 : decode cX6_group 139 = .ok (.invokevirtual 128, 3) := by decide +kernel
theorem dX6_group_142 : decode cX6_group 142 = .ok (.aload_n 0, 1) := by decide +kernel
theorem dX6_group_143 : decode cX6_group 143 = .ok (.getfield 12, 3) := by decide +kernel
theorem dX6_group_146 : decode cX6_group 146 = .ok (.iload_n 3, 1) := by decide +kernel
theorem dX6_group_147 : decode cX6_group 147 = .ok (.invokevirtual 163, 3) := by decide +kernel
theorem dX6_group_150 : decode cX6_group 150 = .ok (.iload_n 3, 1) := by decide +kernel
theorem dX6_group_151 : decode cX6_group 151 = .ok (.ireturn, 1) := by decide +kernel
theorem dX6_entry_0 : decode cX6_entry 0 = .ok (.aload_n 0, 1) := by decide +kernel
theorem dX6_entry_1 : decode cX6_entry 1 = .ok (.invokevirtual 60, 3) := by decide +kernel
theorem dX6_entry_4 : decode cX6_entry 4 = .ok (.aload_n 0, 1) := by decide +kernel
theorem dX6_entry_5 : decode cX6_entry 5 = .ok (.aload_n 0, 1) := by decide +kernel
theorem dX6_entry_6 : decode cX6_entry 6 = .ok (.getfield 26, 3) := by decide +kernel
theorem dX6_entry_9 : decode cX6_entry 9 = .ok (.bipush 12, 2) := by decide +kernel
theorem dX6_entry_11 : decode cX6_entry 11 = .ok (.invokevirtual 131, 3) := by decide +kernel
theorem dX6_entry_14 : decode cX6_entry 14 = .ok (.aload_n 0, 1) := by decide +kernel
theorem dX6_entry_15 : decode cX6_entry 15 = .ok (.getfield 12, 3) := by decide +kernel
theorem dX6_entry_18 : decode cX6_entry 18 = .ok (.iload_n 1, 1) := by decide +kernel
theorem dX6_entry_19 : decode cX6_entry 19 = .ok (.invokevirtual 163, 3) := by decide +kernel
theorem dX6_entry_22 : decode cX6_entry 22 = .ok (.aload_n 0, 1) := by decide +kernel
theorem dX6_entry_23 : decode cX6_entry 23 = .ok (.getfield 12, 3) := by decide +kernel
theorem dX6_entry_26 : decode cX6_entry 26 = .ok (.iload_n 1, 1) := by decide +kernel
theorem dX6_entry_27 : decode cX6_entry 27 = .ok (.aload_n 0, 1) := by decide +kernel
theorem dX6_entry_28 : decode cX6_entry 28 = .ok (.getfield 26, 3) := by decide +kernel
theorem dX6_entry_31 : decode cX6_entry 31 = .ok (.invokevirtual 166, 3) := by decide +kernel
theorem dX6_entry_34 : decode cX6_entry 34 = .ok (.istore_n 3, 1) := by decide +kernel
theorem dX6_entry_35 : decode cX6_entry 35 = .ok (.aload_n 0, 1) := by decide +kernel
theorem dX6_entry_36 : decode cX6_entry 36 = .ok (.invokevirtual 120, 3) := by decide +kernel
theorem dX6_entry_39 : decode cX6_entry 39 = .ok (.ifCond .eq 26, 3) := by decide +kernel
theorem dX6_entry_42 : decode cX6_entry 42 = .ok (.iload_n 3, 1) := by decide +kernel
theorem dX6_entry_43 : decode cX6_entry 43 = .ok (.iconst (-1), 1) := by decide +kernel
theorem dX6_entry_44 : decode cX6_entry 44 = .ok (.if_icmp .eq 21, 3) := by decide +kernel
theorem dX6_entry_47 : decode cX6_entry 47 = .ok (.aload_n 0, 1) := by decide +kernel
theorem dX6_entry_48 : decode cX6_entry 48 = .ok (.getfield 39, 3) := by decide +kernel
theorem dX6_entry_51 : decode cX6_entry 51 = .ok (.ifCond .ne 14, 3) := by decide +kernel
theorem dX6_entry_54 : decode cX6_entry 54 = .ok (.aload_n 0, 1) := by decide +kernel
theorem dX6_entry_55 : decode cX6_entry 55 = .ok (.aload_n 0, 1) := by decide +kernel
theorem dX6_entry_56 : decode cX6_entry 56 = .ok (.getfield 43, 3) := by decide +kernel
theorem dX6_entry_59 : decode cX6_entry 59 = .ok (.iconst 1, 1) := by decide +kernel
theorem dX6_entry_60 : decode cX6_entry 60 = .ok (.isub, 1) := by decide +kernel
theorem dX6_entry_61 : decode cX6_entry 61 = .ok (.invokevirtual 67, 3) := by decide +kernel
theorem dX6_entry_64 : decode cX6_entry 64 = .ok (.pop, 1) := by decide +kernel
theorem dX6_entry_65 : decode cX6_entry 65 = .ok (.aload_n 0, 1) := by decide +kernel
theorem dX6_entry_66 : decode cX6_entry 66 = .ok (.invokevirtual 60, 3) := by decide +kernel
theorem dX6_entry_69 : decode cX6_entry 69 = .ok (.aload_n 0, 1) := by decide +kernel
theorem dX6_entry_70 : decode cX6_entry 70 = .ok (.bipush 58, 2) := by decide +kernel
theorem dX6_entry_72 : decode cX6_entry 72 = .ok (.invokevirtual 128, 3) := by decide +kernel
theorem dX6_entry_75 : decode cX6_entry 75 = .ok (.aload_n 0, 1) := by decide +kernel
theorem dX6_entry_76 : decode cX6_entry 76 = .ok (.invokevirtual 120, 3) := by decide +kernel
theorem dX6_entry_79 : decode cX6_entry 79 = .ok (.ifCond .ne 4, 3) := by decide +kernel
theorem dX6_entry_82 : decode cX6_entry 82 = .ok (.return_, 1) := by decide +kernel
theorem dX6_entry_83 : decode cX6_entry 83 = .ok (.aload_n 0, 1) := by decide +kernel
theorem dX6_entry_84 : decode cX6_entry 84 = .ok (.iload_n 2, 1) := by decide +kernel
theorem dX6_entry_85 : decode cX6_entry 85 = .ok (.invokevirtual 56, 3) := by decide +kernel
theorem dX6_entry_88 : decode cX6_entry 88 = .ok (.istore 4, 2) := by decide +kernel
theorem dX6_entry_90 : decode cX6_entry 90 = .ok (.aload_n 0, 1) := by decide +kernel
theorem dX6_entry_91 : decode cX6_entry 91 = .ok (.invokevirtual 120, 3) := by decide +kernel
theorem dX6_entry_94 : decode cX6_entry 94 = .ok (.ifCond .eq 28, 3) := by decide +kernel
theorem dX6_entry_97 : decode cX6_entry 97 = .ok (.iload_n 3, 1) := by decide +kernel
theorem dX6_entry_98 : decode cX6_entry 98 = .ok (.iconst (-1), 1) := by decide +kernel
theorem dX6_entry_99 : decode cX6_entry 99 = .ok (.if_icmp .eq 23, 3) := by decide +kernel
theorem dX6_entry_102 : decode cX6_entry 102 = .ok (.aload_n 0, 1) := by decide +kernel
theorem dX6_entry_103 : decode cX6_entry 103 = .ok (.getfield 39, 3) := by decide +kernel
theorem dX6_entry_106 : decode cX6_entry 106 = .ok (.iconst 1, 1) := by decide +kernel
theorem dX6_entry_107 : decode cX6_entry 107 = .ok (.if_icmp .ne 15, 3) := by decide +kernel
theorem dX6_entry_110 : decode cX6_entry 110 = .ok (.aload_n 0, 1) := by decide +kernel
theorem dX6_entry_111 : decode cX6_entry 111 = .ok (.getfield 12, 3) := by decide +kernel
theorem dX6_entry_114 : decode cX6_entry 114 = .ok (.iload 4, 2) := by decide +kernel
theorem dX6_entry_116 : decode cX6_entry 116 = .ok (.invokevirtual 170, 3) := by decide +kernel
theorem dX6_entry_119 : decode cX6_entry 119 = .ok (.goto 29, 3) := by decide +kernel
theorem dX6_entry_122 : decode cX6_entry 122 = .ok (.aload_n 0, 1) := by decide +kernel
theorem dX6_entry_123 : decode cX6_entry 123 = .ok (.invokevirtual 120, 3) := by decide +kernel
theorem dX6_entry_126 : decode cX6_entry 126 = .ok (.ifCond .eq 22, 3) := by decide +kernel
theorem dX6_entry_129 : decode cX6_entry 129 = .ok (.iload_n 3, 1) := by decide +kernel
theorem dX6_entry_130 : decode cX6_entry 130 = .ok (.iconst (-1), 1) := by decide +kernel
theorem dX6_entry_131 : decode cX6_entry 131 = .ok (.if_icmp .eq 17, 3) := by decide +kernel
theorem dX6_entry_134 : decode cX6_entry 134 = .ok (.aload_n 0, 1) := by decide +kernel
theorem dX6_entry_135 : decode cX6_entry 135 = .ok (.getfield 12, 3) := by decide +kernel
theorem dX6_entry_138 : decode cX6_entry 138 = .ok (.iload_n 3, 1) := by decide +kernel
theorem dX6_entry_139 : decode cX6_entry 139 = .ok (.iload 4, 2) := by decide +kernel
theorem dX6_entry_141 : decode cX6_entry 141 = .ok (.aload_n 0, 1) := by decide +kernel
theorem dX6_entry_142 : decode cX6_entry 142 = .ok (.getfield 18, 3) := by decide +kernel
theorem dX6_entry_145 : decode cX6_entry 145 = .ok (.invokevirtual 173, 3) := by decide +kernel
theorem dX6_entry_148 : decode cX6_entry 148 = .ok (.return_, 1) := by decide +kernel
theorem dX2_init_0 : decode cX2_init 0 = .ok (.aload_n 0, 1) := by decide +kernel
theorem dX2_init_1 : decode cX2_init 1 = .ok (.invokespecial 3, 3) := by decide +kernel
theorem dX2_init_4 : decode cX2_init 4 = .ok (.aload_n 0, 1) := by decide +kernel
theorem dX2_init_5 : decode cX2_init 5 = .ok (.new 9, 3) := by decide +kernel
theorem dX2_init_8 : decode cX2_init 8 = .ok (.dup, 1) := by decide +kernel
theorem dX2_init_9 : decode cX2_init 9 = .ok (.sipush 400, 3) := by decide +kernel
theorem dX2_init_12 : decode cX2_init 12 = .ok (.invokespecial 11, 3) := by decide +kernel
theorem dX2_init_15 : decode cX2_init 15 = .ok (.putfield 14, 3) := by decide +kernel
theorem dX2_init_18 : decode cX2_init 18 = .ok (.aload_n 0, 1) := by decide +kernel
theorem dX2_init_19 : decode cX2_init 19 = .ok (.new 9, 3) := by decide +kernel
theorem dX2_init_22 : decode cX2_init 22 = .ok (.dup, 1) := by decide +kernel
theorem dX2_init_23 : decode cX2_init 23 = .ok (.sipush 400, 3) := by decide +kernel
theorem dX2_init_26 : decode cX2_init 26 = .ok (.invokespecial 11, 3) := by decide +kernel
theorem dX2_init_29 : decode cX2_init 29 = .ok (.putfield 20, 3) := by decide +kernel
theorem dX2_init_32 : decode cX2_init 32 = .ok (.aload_n 0, 1) := by decide +kernel
theorem dX2_init_33 : decode cX2_init 33 = .ok (.new 9, 3) := by decide +kernel
theorem dX2_init_36 : decode cX2_init 36 = .ok (.dup, 1) := by decide +kernel
theorem dX2_init_37 : decode cX2_init 37 = .ok (.ldc 23, 2) := by decide +kernel
theorem dX2_init_39 : decode cX2_init 39 = .ok (.invokespecial 11, 3) := by decide +kernel
theorem dX2_init_42 : decode cX2_init 42 = .ok (.putfield 24, 3) := by decide +kernel
theorem dX2_init_45 : decode cX2_init 45 = .ok (.aload_n 0, 1) := by decide +kernel
theorem dX2_init_46 : decode cX2_init 46 = .ok (.bipush 100, 2) := by decide +kernel
theorem dX2_init_48 : decode cX2_init 48 = .ok (.newarray .int, 2) := by decide +kernel
theorem dX2_init_50 : decode cX2_init 50 = .ok (.putfield 27, 3) := by decide +kernel
theorem dX2_init_53 : decode cX2_init 53 = .ok (.aload_n 0, 1) := by decide +kernel
theorem dX2_init_54 : decode cX2_init 54 = .ok (.bipush 100, 2) := by decide +kernel
theorem dX2_init_56 : decode cX2_init 56 = .ok (.newarray .int, 2) := by decide +kernel
theorem dX2_init_58 : decode cX2_init 58 = .ok (.putfield 31, 3) := by decide +kernel
theorem dX2_init_61 : decode cX2_init 61 = .ok (.aload_n 0, 1) := by decide +kernel
theorem dX2_init_62 : decode cX2_init 62 = .ok (.bipush 100, 2) := by decide +kernel
theorem dX2_init_64 : decode cX2_init 64 = .ok (.newarray .boolean, 2) := by decide +kernel
theorem dX2_init_66 : decode cX2_init 66 = .ok (.putfield 34, 3) := by decide +kernel
theorem dX2_init_69 : decode cX2_init 69 = .ok (.return_, 1) := by decide +kernel
theorem dX2_count_0 : decode cX2_count 0 = .ok (.aload_n 0, 1) := by decide +kernel
theorem dX2_count_1 : decode cX2_count 1 = .ok (.getfield 38, 3) := by decide +kernel
theorem dX2_count_4 : decode cX2_count 4 = .ok (.ireturn, 1) := by decide +kernel
theorem dX2_at_0 : decode cX2_at 0 = .ok (.iload_n 1, 1) := by decide +kernel
theorem dX2_at_1 : decode cX2_at 1 = .ok (.ifCond .lt 26, 3) := by decide +kernel
theorem dX2_at_4 : decode cX2_at 4 = .ok (.iload_n 1, 1) := by decide +kernel
theorem dX2_at_5 : decode cX2_at 5 = .ok (.aload_n 0, 1) := by decide +kernel
theorem dX2_at_6 : decode cX2_at 6 = .ok (.getfield 38, 3) := by decide +kernel
theorem dX2_at_9 : decode cX2_at 9 = .ok (.if_icmp .ge 18, 3) := by decide +kernel
theorem dX2_at_12 : decode cX2_at 12 = .ok (.iload_n 1, 1) := by decide +kernel
theorem dX2_at_13 : decode cX2_at 13 = .ok (.bipush 100, 2) := by decide +kernel
theorem dX2_at_15 : decode cX2_at 15 = .ok (.if_icmp .ge 12, 3) := by decide +kernel
theorem dX2_at_18 : decode cX2_at 18 = .ok (.aload_n 0, 1) := by decide +kernel
theorem dX2_at_19 : decode cX2_at 19 = .ok (.getfield 27, 3) := by decide +kernel
theorem dX2_at_22 : decode cX2_at 22 = .ok (.iload_n 1, 1) := by decide +kernel
theorem dX2_at_23 : decode cX2_at 23 = .ok (.iaload, 1) := by decide +kernel
theorem dX2_at_24 : decode cX2_at 24 = .ok (.goto 4, 3) := by decide +kernel
theorem dX2_at_27 : decode cX2_at 27 = .ok (.iconst (-1), 1) := by decide +kernel
theorem dX2_at_28 : decode cX2_at 28 = .ok (.ireturn, 1) := by decide +kernel
theorem dX2_seek_0 : decode cX2_seek 0 = .ok (.aload_n 0, 1) := by decide +kernel
theorem dX2_seek_1 : decode cX2_seek 1 = .ok (.invokevirtual 42, 3) := by decide +kernel
theorem dX2_seek_4 : decode cX2_seek 4 = .ok (.aload_n 0, 1) := by decide +kernel
theorem dX2_seek_5 : decode cX2_seek 5 = .ok (.iconst 0, 1) := by decide +kernel
theorem dX2_seek_6 : decode cX2_seek 6 = .ok (.invokevirtual 45, 3) := by decide +kernel
theorem dX2_seek_9 : decode cX2_seek 9 = .ok (.iconst 0, 1) := by decide +kernel
theorem dX2_seek_10 : decode cX2_seek 10 = .ok (.istore_n 3, 1) := by decide +kernel
theorem dX2_seek_11 : decode cX2_seek 11 = .ok (.iload_n 3, 1) := by decide +kernel
theorem dX2_seek_12 : decode cX2_seek 12 = .ok (.aload_n 2, 1) := by decide +kernel
theorem dX2_seek_13 : decode cX2_seek 13 = .ok (.invokevirtual 48, 3) := by decide +kernel
theorem dX2_seek_16 : decode cX2_seek 16 = .ok (.if_icmp .ge 91, 3) := by decide +kernel
theorem dX2_seek_19 : decode cX2_seek 19 = .ok (.aload_n 2, 1) := by decide +kernel
theorem dX2_seek_20 : decode cX2_seek 20 = .ok (.iload_n 3, 1) := by decide +kernel
theorem dX2_seek_21 : decode cX2_seek 21 = .ok (.aload_n 0, 1) := by decide +kernel
theorem dX2_seek_22 : decode cX2_seek 22 = .ok (.getfield 14, 3) := by decide +kernel
theorem dX2_seek_25 : decode cX2_seek 25 = .ok (.invokevirtual 54, 3) := by decide +kernel
theorem dX2_seek_28 : decode cX2_seek 28 = .ok (.aload_n 0, 1) := by decide +kernel
theorem dX2_seek_29 : decode cX2_seek 29 = .ok (.getfield 38, 3) := by decide +kernel
theorem dX2_seek_32 : decode cX2_seek 32 = .ok (.bipush 100, 2) := by decide +kernel
theorem dX2_seek_34 : decode cX2_seek 34 = .ok (.invokestatic 58, 3) := by decide +kernel
theorem dX2_seek_37 : decode cX2_seek 37 = .ok (.istore 4, 2) := by decide +kernel
theorem dX2_seek_39 : decode cX2_seek 39 = .ok (.iconst 0, 1) := by decide +kernel
theorem dX2_seek_40 : decode cX2_seek 40 = .ok (.istore 5, 2) := by decide +kernel
theorem dX2_seek_42 : decode cX2_seek 42 = .ok (.iload 5, 2) := by decide +kernel
theorem dX2_seek_44 : decode cX2_seek 44 = .ok (.iload 4, 2) := by decide +kernel
theorem dX2_seek_46 : decode cX2_seek 46 = .ok (.if_icmp .ge 23, 3) := by decide +kernel
theorem dX2_seek_49 : decode cX2_seek 49 = .ok (.aload_n 0, 1) := by decide +kernel
theorem dX2_seek_50 : decode cX2_seek 50 = .ok (.getfield 31, 3) := by decide +kernel
theorem dX2_seek_53 : decode cX2_seek 53 = .ok (.iload 5, 2) := by decide +kernel
theorem dX2_seek_55 : decode cX2_seek 55 = .ok (.aload_n 0, 1) := by decide +kernel
theorem dX2_seek_56 : decode cX2_seek 56 = .ok (.getfield 27, 3) := by decide +kernel
theorem dX2_seek_59 : decode cX2_seek 59 = .ok (.iload 5, 2) := by decide +kernel
theorem dX2_seek_61 : decode cX2_seek 61 = .ok (.iaload, 1) := by decide +kernel
theorem dX2_seek_62 : decode cX2_seek 62 = .ok (.iastore, 1) := by decide +kernel
theorem dX2_seek_63 : decode cX2_seek 63 = .ok (.iinc 5 1, 3) := by decide +kernel
theorem dX2_seek_66 : decode cX2_seek 66 = .ok (.goto (-24), 3) := by decide +kernel
theorem dX2_seek_69 : decode cX2_seek 69 = .ok (.aload_n 0, 1) := by decide +kernel
theorem dX2_seek_70 : decode cX2_seek 70 = .ok (.invokevirtual 42, 3) := by decide +kernel
theorem dX2_seek_73 : decode cX2_seek 73 = .ok (.iconst 0, 1) := by decide +kernel
theorem dX2_seek_74 : decode cX2_seek 74 = .ok (.istore 5, 2) := by decide +kernel
theorem dX2_seek_76 : decode cX2_seek 76 = .ok (.iload 5, 2) := by decide +kernel
theorem dX2_seek_78 : decode cX2_seek 78 = .ok (.iload 4, 2) := by decide +kernel
theorem dX2_seek_80 : decode cX2_seek 80 = .ok (.if_icmp .ge 21, 3) := by decide +kernel
theorem dX2_seek_83 : decode cX2_seek 83 = .ok (.aload_n 0, 1) := by decide +kernel
theorem dX2_seek_84 : decode cX2_seek 84 = .ok (.aload_n 1, 1) := by decide +kernel
theorem dX2_seek_85 : decode cX2_seek 85 = .ok (.aload_n 0, 1) := by decide +kernel
theorem dX2_seek_86 : decode cX2_seek 86 = .ok (.getfield 31, 3) := by decide +kernel
theorem dX2_seek_89 : decode cX2_seek 89 = .ok (.iload 5, 2) := by decide +kernel
theorem dX2_seek_91 : decode cX2_seek 91 = .ok (.iaload, 1) := by decide +kernel
theorem dX2_seek_92 : decode cX2_seek 92 = .ok (.invokevirtual 64, 3) := by decide +kernel
theorem dX2_seek_95 : decode cX2_seek 95 = .ok (.iinc 5 1, 3) := by decide +kernel
theorem dX2_seek_98 : decode cX2_seek 98 = .ok (.goto (-22), 3) := by decide +kernel
theorem dX2_seek_101 : decode cX2_seek 101 = .ok (.iinc 3 1, 3) := by decide +kernel
theorem dX2_seek_104 : decode cX2_seek 104 = .ok (.goto (-93), 3) := by decide +kernel
theorem dX2_seek_107 : decode cX2_seek 107 = .ok (.return_, 1) := by decide +kernel
theorem dX2_begin_0 : decode cX2_begin 0 = .ok (.aload_n 0, 1) := by decide +kernel
theorem dX2_begin_1 : decode cX2_begin 1 = .ok (.iconst 0, 1) := by decide +kernel
theorem dX2_begin_2 : decode cX2_begin 2 = .ok (.putfield 38, 3) := by decide +kernel
theorem dX2_begin_5 : decode cX2_begin 5 = .ok (.iconst 0, 1) := by decide +kernel
theorem dX2_begin_6 : decode cX2_begin 6 = .ok (.istore_n 1, 1) := by decide +kernel
theorem dX2_begin_7 : decode cX2_begin 7 = .ok (.iload_n 1, 1) := by decide +kernel
theorem dX2_begin_8 : decode cX2_begin 8 = .ok (.bipush 100, 2) := by decide +kernel
theorem dX2_begin_10 : decode cX2_begin 10 = .ok (.if_icmp .ge 16, 3) := by decide +kernel
theorem dX2_begin_13 : decode cX2_begin 13 = .ok (.aload_n 0, 1) := by decide +kernel
theorem dX2_begin_14 : decode cX2_begin 14 = .ok (.getfield 34, 3) := by decide +kernel
theorem dX2_begin_17 : decode cX2_begin 17 = .ok (.iload_n 1, 1) := by decide +kernel
theorem dX2_begin_18 : decode cX2_begin 18 = .ok (.iconst 0, 1) := by decide +kernel
theorem dX2_begin_19 : decode cX2_begin 19 = .ok (.bastore, 1) := by decide +kernel
theorem dX2_begin_20 : decode cX2_begin 20 = .ok (.iinc 1 1, 3) := by decide +kernel
theorem dX2_begin_23 : decode cX2_begin 23 = .ok (.goto (-16), 3) := by decide +kernel
theorem dX2_begin_26 : decode cX2_begin 26 = .ok (.return_, 1) := by decide +kernel
theorem dX2_meet_0 : decode cX2_meet 0 = .ok (.iload_n 1, 1) := by decide +kernel
theorem dX2_meet_1 : decode cX2_meet 1 = .ok (.ifCond .lt 61, 3) := by decide +kernel
theorem dX2_meet_4 : decode cX2_meet 4 = .ok (.iload_n 1, 1) := by decide +kernel
theorem dX2_meet_5 : decode cX2_meet 5 = .ok (.bipush 100, 2) := by decide +kernel
theorem dX2_meet_7 : decode cX2_meet 7 = .ok (.if_icmp .ge 55, 3) := by decide +kernel
theorem dX2_meet_10 : decode cX2_meet 10 = .ok (.aload_n 0, 1) := by decide +kernel
theorem dX2_meet_11 : decode cX2_meet 11 = .ok (.getfield 38, 3) := by decide +kernel
theorem dX2_meet_14 : decode cX2_meet 14 = .ok (.ifCond .lt 48, 3) := by decide +kernel
theorem dX2_meet_17 : decode cX2_meet 17 = .ok (.aload_n 0, 1) := by decide +kernel
theorem dX2_meet_18 : decode cX2_meet 18 = .ok (.getfield 38, 3) := by decide +kernel
theorem dX2_meet_21 : decode cX2_meet 21 = .ok (.bipush 100, 2) := by decide +kernel
theorem dX2_meet_23 : decode cX2_meet 23 = .ok (.if_icmp .ge 39, 3) := by decide +kernel
theorem dX2_meet_26 : decode cX2_meet 26 = .ok (.aload_n 0, 1) := by decide +kernel
theorem dX2_meet_27 : decode cX2_meet 27 = .ok (.getfield 34, 3) := by decide +kernel
theorem dX2_meet_30 : decode cX2_meet 30 = .ok (.iload_n 1, 1) := by decide +kernel
theorem dX2_meet_31 : decode cX2_meet 31 = .ok (.baload, 1) := by decide +kernel
theorem dX2_meet_32 : decode cX2_meet 32 = .ok (.ifCond .ne 30, 3) := by decide +kernel
theorem dX2_meet_35 : decode cX2_meet 35 = .ok (.aload_n 0, 1) := by decide +kernel
theorem dX2_meet_36 : decode cX2_meet 36 = .ok (.getfield 34, 3) := by decide +kernel
theorem dX2_meet_39 : decode cX2_meet 39 = .ok (.iload_n 1, 1) := by decide +kernel
theorem dX2_meet_40 : decode cX2_meet 40 = .ok (.iconst 1, 1) := by decide +kernel
theorem dX2_meet_41 : decode cX2_meet 41 = .ok (.bastore, 1) := by decide +kernel
theorem dX2_meet_42 : decode cX2_meet 42 = .ok (.aload_n 0, 1) := by decide +kernel
theorem dX2_meet_43 : decode cX2_meet 43 = .ok (.getfield 27, 3) := by decide +kernel
theorem dX2_meet_46 : decode cX2_meet 46 = .ok (.aload_n 0, 1) := by decide +kernel
theorem dX2_meet_47 : decode cX2_meet 47 = .ok (.getfield 38, 3) := by decide +kernel
theorem dX2_meet_50 : decode cX2_meet 50 = .ok (.iload_n 1, 1) := by decide +kernel
theorem dX2_meet_51 : decode cX2_meet 51 = .ok (.iastore, 1) := by decide +kernel
theorem dX2_meet_52 : decode cX2_meet 52 = .ok (.aload_n 0, 1) := by decide +kernel
theorem dX2_meet_53 : decode cX2_meet 53 = .ok (.dup, 1) := by decide +kernel
theorem dX2_meet_54 : decode cX2_meet 54 = .ok (.getfield 38, 3) := by decide +kernel
theorem dX2_meet_57 : decode cX2_meet 57 = .ok (.iconst 1, 1) := by decide +kernel
theorem dX2_meet_58 : decode cX2_meet 58 = .ok (.iadd, 1) := by decide +kernel
theorem dX2_meet_59 : decode cX2_meet 59 = .ok (.putfield 38, 3) := by decide +kernel
theorem dX2_meet_62 : decode cX2_meet 62 = .ok (.return_, 1) := by decide +kernel
theorem dX2_stepFrom_0 : decode cX2_stepFrom 0 = .ok (.aload_n 0, 1) := by decide +kernel
theorem dX2_stepFrom_1 : decode cX2_stepFrom 1 = .ok (.getfield 14, 3) := by decide +kernel
theorem dX2_stepFrom_4 : decode cX2_stepFrom 4 = .ok (.ldc 68, 2) := by decide +kernel
theorem dX2_stepFrom_6 : decode cX2_stepFrom 6 = .ok (.invokevirtual 70, 3) := by decide +kernel
theorem dX2_stepFrom_9 : decode cX2_stepFrom 9 = .ok (.ifCond .eq 28, 3) := by decide +kernel
theorem dX2_stepFrom_12 : decode cX2_stepFrom 12 = .ok (.iload_n 2, 1) := by decide +kernel
theorem dX2_stepFrom_13 : decode cX2_stepFrom 13 = .ok (.istore_n 3, 1) := by decide +kernel
theorem dX2_stepFrom_14 : decode cX2_stepFrom 14 = .ok (.iload_n 3, 1) := by decide +kernel
theorem dX2_stepFrom_15 : decode cX2_stepFrom 15 = .ok (.aload_n 1, 1) := by decide +kernel
theorem dX2_stepFrom_16 : decode cX2_stepFrom 16 = .ok (.iload_n 2, 1) := by decide +kernel
theorem dX2_stepFrom_17 : decode cX2_stepFrom 17 = .ok (.invokevirtual 74, 3) := by decide +kernel
theorem dX2_stepFrom_20 : decode cX2_stepFrom 20 = .ok (.if_icmp .ge 14, 3) := by decide +kernel
theorem dX2_stepFrom_23 : decode cX2_stepFrom 23 = .ok (.aload_n 0, 1) := by decide +kernel
theorem dX2_stepFrom_24 : decode cX2_stepFrom 24 = .ok (.iload_n 3, 1) := by decide +kernel
theorem dX2_stepFrom_25 : decode cX2_stepFrom 25 = .ok (.invokevirtual 45, 3) := by decide +kernel
theorem dX2_stepFrom_28 : decode cX2_stepFrom 28 = .ok (.iinc 3 1, 3) := by decide +kernel
theorem dX2_stepFrom_31 : decode cX2_stepFrom 31 = .ok (.goto (-17), 3) := by decide +kernel
theorem dX2_stepFrom_34 : decode cX2_stepFrom 34 = .ok (.goto 119, 3) := by decide +kernel
theorem dX2_stepFrom_37 : decode cX2_stepFrom 37 = .ok (.aload_n 0, 1) := by decide +kernel
theorem dX2_stepFrom_38 : decode cX2_stepFrom 38 = .ok (.getfield 14, 3) := by decide +kernel
theorem dX2_stepFrom_41 : decode cX2_stepFrom 41 = .ok (.ldc 80, 2) := by decide +kernel
theorem dX2_stepFrom_43 : decode cX2_stepFrom 43 = .ok (.invokevirtual 70, 3) := by decide +kernel
theorem dX2_stepFrom_46 : decode cX2_stepFrom 46 = .ok (.ifCond .eq 45, 3) := by decide +kernel
theorem dX2_stepFrom_49 : decode cX2_stepFrom 49 = .ok (.aload_n 1, 1) := by decide +kernel
theorem dX2_stepFrom_50 : decode cX2_stepFrom 50 = .ok (.iload_n 2, 1) := by decide +kernel
theorem dX2_stepFrom_51 : decode cX2_stepFrom 51 = .ok (.invokevirtual 82, 3) := by decide +kernel
theorem dX2_stepFrom_54 : decode cX2_stepFrom 54 = .ok (.istore_n 3, 1) := by decide +kernel
theorem dX2_stepFrom_55 : decode cX2_stepFrom 55 = .ok (.iconst 0, 1) := by decide +kernel
theorem dX2_stepFrom_56 : decode cX2_stepFrom 56 = .ok (.istore 4, 2) := by decide +kernel
theorem dX2_stepFrom_58 : decode cX2_stepFrom 58 = .ok (.iload_n 3, 1) := by decide +kernel
theorem dX2_stepFrom_59 : decode cX2_stepFrom 59 = .ok (.iconst (-1), 1) := by decide +kernel
theorem dX2_stepFrom_60 : decode cX2_stepFrom 60 = .ok (.if_icmp .eq 28, 3) := by decide +kernel
theorem dX2_stepFrom_63 : decode cX2_stepFrom 63 = .ok (.iload 4, 2) := by decide +kernel
theorem dX2_stepFrom_65 : decode cX2_stepFrom 65 = .ok (.bipush 100, 2) := by decide +kernel
theorem dX2_stepFrom_67 : decode cX2_stepFrom 67 = .ok (.if_icmp .ge 21, 3) := by decide +kernel
theorem dX2_stepFrom_70 : decode cX2_stepFrom 70 = .ok (.aload_n 0, 1) := by decide +kernel
theorem dX2_stepFrom_71 : decode cX2_stepFrom 71 = .ok (.iload_n 3, 1) := by decide +kernel
theorem dX2_stepFrom_72 : decode cX2_stepFrom 72 = .ok (.invokevirtual 45, 3) := by decide +kernel
theorem dX2_stepFrom_75 : decode cX2_stepFrom 75 = .ok (.aload_n 1, 1) := by decide +kernel
theorem dX2_stepFrom_76 : decode cX2_stepFrom 76 = .ok (.iload_n 2, 1) := by decide +kernel
theorem dX2_stepFrom_77 : decode cX2_stepFrom 77 = .ok (.iload_n 3, 1) := by decide +kernel
theorem dX2_stepFrom_78 : decode cX2_stepFrom 78 = .ok (.invokevirtual 85, 3) := by decide +kernel
theorem dX2_stepFrom_81 : decode cX2_stepFrom 81 = .ok (.istore_n 3, 1) := by decide +kernel
theorem dX2_stepFrom_82 : decode cX2_stepFrom 82 = .ok (.iinc 4 1, 3) := by decide +kernel
theorem dX2_stepFrom_85 : decode cX2_stepFrom 85 = .ok (.goto (-27), 3) := by decide +kernel
theorem dX2_stepFrom_88 : decode cX2_stepFrom 88 = .ok (.goto 65, 3) := by decide +kernel
theorem dX2_stepFrom_91 : decode cX2_stepFrom 91 = .ok (.aload_n 0, 1) := by decide +kernel
theorem dX2_stepFrom_92 : decode cX2_stepFrom 92 = .ok (.getfield 14, 3) := by decide +kernel
theorem dX2_stepFrom_95 : decode cX2_stepFrom 95 = .ok (.iconst 0, 1) := by decide +kernel
theorem dX2_stepFrom_96 : decode cX2_stepFrom 96 = .ok (.invokevirtual 88, 3) := by decide +kernel
theorem dX2_stepFrom_99 : decode cX2_stepFrom 99 = .ok (.bipush 63, 2) := by decide +kernel
theorem dX2_stepFrom_101 : decode cX2_stepFrom 101 = .ok (.if_icmp .ne 12, 3) := by decide +kernel
theorem dX2_stepFrom_104 : decode cX2_stepFrom 104 = .ok (.aload_n 0, 1) := by decide +kernel
theorem dX2_stepFrom_105 : decode cX2_stepFrom 105 = .ok (.aload_n 1, 1) := by decide +kernel
theorem dX2_stepFrom_106 : decode cX2_stepFrom 106 = .ok (.iload_n 2, 1) := by decide +kernel
theorem dX2_stepFrom_107 : decode cX2_stepFrom 107 = .ok (.invokevirtual 91, 3) := by decide +kernel
theorem dX2_stepFrom_110 : decode cX2_stepFrom 110 = .ok (.goto 43, 3) := by decide +kernel
theorem dX2_stepFrom_113 : decode cX2_stepFrom 113 = .ok (.aload_n 1, 1) := by decide +kernel
theorem dX2_stepFrom_114 : decode cX2_stepFrom 114 = .ok (.iload_n 2, 1) := by decide +kernel
theorem dX2_stepFrom_115 : decode cX2_stepFrom 115 = .ok (.iconst 4, 1) := by decide +kernel
theorem dX2_stepFrom_116 : decode cX2_stepFrom 116 = .ok (.invokevirtual 94, 3) := by decide +kernel
theorem dX2_stepFrom_119 : decode cX2_stepFrom 119 = .ok (.ifCond .eq 21, 3) := by decide +kernel
theorem dX2_stepFrom_122 : decode cX2_stepFrom 122 = .ok (.aload_n 0, 1) := by decide +kernel
theorem dX2_stepFrom_123 : decode cX2_stepFrom 123 = .ok (.aload_n 1, 1) := by decide +kernel
theorem dX2_stepFrom_124 : decode cX2_stepFrom 124 = .ok (.iload_n 2, 1) := by decide +kernel
theorem dX2_stepFrom_125 : decode cX2_stepFrom 125 = .ok (.aload_n 0, 1) := by decide +kernel
theorem dX2_stepFrom_126 : decode cX2_stepFrom 126 = .ok (.aload_n 1, 1) := by decide +kernel
theorem dX2_stepFrom_127 : decode cX2_stepFrom 127 = .ok (.iload_n 2, 1) := by decide +kernel
theorem dX2_stepFrom_128 : decode cX2_stepFrom 128 = .ok (.invokevirtual 98, 3) := by decide +kernel
theorem dX2_stepFrom_131 : decode cX2_stepFrom 131 = .ok (.invokevirtual 102, 3) := by decide +kernel
theorem dX2_stepFrom_134 : decode cX2_stepFrom 134 = .ok (.invokevirtual 45, 3) := by decide +kernel
theorem dX2_stepFrom_137 : decode cX2_stepFrom 137 = .ok (.goto 16, 3) := by decide +kernel
theorem dX2_stepFrom_140 : decode cX2_stepFrom 140 = .ok (.aload_n 0, 1) := by decide +kernel
theorem dX2_stepFrom_141 : decode cX2_stepFrom 141 = .ok (.aload_n 1, 1) := by decide +kernel
theorem dX2_stepFrom_142 : decode cX2_stepFrom 142 = .ok (.iload_n 2, 1) := by decide +kernel
theorem dX2_stepFrom_143 : decode cX2_stepFrom 143 = .ok (.aload_n 0, 1) := by decide +kernel
theorem dX2_stepFrom_144 : decode cX2_stepFrom 144 = .ok (.getfield 14, 3) := by decide +kernel
theorem dX2_stepFrom_147 : decode cX2_stepFrom 147 = .ok (.invokevirtual 105, 3) := by decide +kernel
theorem dX2_stepFrom_150 : decode cX2_stepFrom 150 = .ok (.invokevirtual 45, 3) := by decide +kernel
theorem dX2_stepFrom_153 : decode cX2_stepFrom 153 = .ok (.return_, 1) := by decide +kernel
theorem dX2_placeIn_0 : decode cX2_placeIn 0 = .ok (.aload_n 0, 1) := by decide +kernel
theorem dX2_placeIn_1 : decode cX2_placeIn 1 = .ok (.getfield 14, 3) := by decide +kernel
theorem dX2_placeIn_4 : decode cX2_placeIn 4 = .ok (.iconst 0, 1) := by decide +kernel
theorem dX2_placeIn_5 : decode cX2_placeIn 5 = .ok (.invokevirtual 88, 3) := by decide +kernel
theorem dX2_placeIn_8 : decode cX2_placeIn 8 = .ok (.bipush 45, 2) := by decide +kernel
theorem dX2_placeIn_10 : decode cX2_placeIn 10 = .ok (.if_icmp .eq 12, 3) := by decide +kernel
theorem dX2_placeIn_13 : decode cX2_placeIn 13 = .ok (.aload_n 0, 1) := by decide +kernel
theorem dX2_placeIn_14 : decode cX2_placeIn 14 = .ok (.getfield 14, 3) := by decide +kernel
theorem dX2_placeIn_17 : decode cX2_placeIn 17 = .ok (.iconst 0, 1) := by decide +kernel
theorem dX2_placeIn_18 : decode cX2_placeIn 18 = .ok (.invokestatic 109, 3) := by decide +kernel
theorem dX2_placeIn_21 : decode cX2_placeIn 21 = .ok (.ireturn, 1) := by decide +kernel
theorem dX2_placeIn_22 : decode cX2_placeIn 22 = .ok (.aload_n 0, 1) := by decide +kernel
theorem dX2_placeIn_23 : decode cX2_placeIn 23 = .ok (.getfield 14, 3) := by decide +kernel
theorem dX2_placeIn_26 : decode cX2_placeIn 26 = .ok (.iconst 1, 1) := by decide +kernel
theorem dX2_placeIn_27 : decode cX2_placeIn 27 = .ok (.invokestatic 109, 3) := by decide +kernel
theorem dX2_placeIn_30 : decode cX2_placeIn 30 = .ok (.istore_n 3, 1) := by decide +kernel
theorem dX2_placeIn_31 : decode cX2_placeIn 31 = .ok (.iload_n 3, 1) := by decide +kernel
theorem dX2_placeIn_32 : decode cX2_placeIn 32 = .ok (.ifCond .le 13, 3) := by decide +kernel
theorem dX2_placeIn_35 : decode cX2_placeIn 35 = .ok (.aload_n 1, 1) := by decide +kernel
theorem dX2_placeIn_36 : decode cX2_placeIn 36 = .ok (.iload_n 2, 1) := by decide +kernel
theorem dX2_placeIn_37 : decode cX2_placeIn 37 = .ok (.invokevirtual 112, 3) := by decide +kernel
theorem dX2_placeIn_40 : decode cX2_placeIn 40 = .ok (.iload_n 3, 1) := by decide +kernel
theorem dX2_placeIn_41 : decode cX2_placeIn 41 = .ok (.isub, 1) := by decide +kernel
theorem dX2_placeIn_42 : decode cX2_placeIn 42 = .ok (.goto 4, 3) := by decide +kernel
theorem dX2_placeIn_45 : decode cX2_placeIn 45 = .ok (.iconst (-1), 1) := by decide +kernel
theorem dX2_placeIn_46 : decode cX2_placeIn 46 = .ok (.ireturn, 1) := by decide +kernel
theorem dX2_meetMatches_0 : decode cX2_meetMatches 0 = .ok (.aload_n 0, 1) := by decide +kernel
theorem dX2_meetMatches_1 : decode cX2_meetMatches 1 = .ok (.getfield 14, 3) := by decide +kernel
theorem dX2_meetMatches_4 : decode cX2_meetMatches 4 = .ok (.bipush 61, 2) := by decide +kernel
theorem dX2_meetMatches_6 : decode cX2_meetMatches 6 = .ok (.invokevirtual 115, 3) := by decide +kernel
theorem dX2_meetMatches_9 : decode cX2_meetMatches 9 = .ok (.istore_n 3, 1) := by decide +kernel
theorem dX2_meetMatches_10 : decode cX2_meetMatches 10 = .ok (.aload_n 0, 1) := by decide +kernel
theorem dX2_meetMatches_11 : decode cX2_meetMatches 11 = .ok (.getfield 20, 3) := by decide +kernel
theorem dX2_meetMatches_14 : decode cX2_meetMatches 14 = .ok (.invokevirtual 118, 3) := by decide +kernel
theorem dX2_meetMatches_17 : decode cX2_meetMatches 17 = .ok (.aload_n 0, 1) := by decide +kernel
theorem dX2_meetMatches_18 : decode cX2_meetMatches 18 = .ok (.getfield 20, 3) := by decide +kernel
theorem dX2_meetMatches_21 : decode cX2_meetMatches 21 = .ok (.aload_n 0, 1) := by decide +kernel
theorem dX2_meetMatches_22 : decode cX2_meetMatches 22 = .ok (.getfield 14, 3) := by decide +kernel
theorem dX2_meetMatches_25 : decode cX2_meetMatches 25 = .ok (.iconst 1, 1) := by decide +kernel
theorem dX2_meetMatches_26 : decode cX2_meetMatches 26 = .ok (.iload_n 3, 1) := by decide +kernel
theorem dX2_meetMatches_27 : decode cX2_meetMatches 27 = .ok (.invokevirtual 121, 3) := by decide +kernel
theorem dX2_meetMatches_30 : decode cX2_meetMatches 30 = .ok (.aload_n 1, 1) := by decide +kernel
theorem dX2_meetMatches_31 : decode cX2_meetMatches 31 = .ok (.iload_n 2, 1) := by decide +kernel
theorem dX2_meetMatches_32 : decode cX2_meetMatches 32 = .ok (.invokevirtual 82, 3) := by decide +kernel
theorem dX2_meetMatches_35 : decode cX2_meetMatches 35 = .ok (.istore 4, 2) := by decide +kernel
theorem dX2_meetMatches_37 : decode cX2_meetMatches 37 = .ok (.iconst 0, 1) := by decide +kernel
theorem dX2_meetMatches_38 : decode cX2_meetMatches 38 = .ok (.istore 5, 2) := by decide +kernel
theorem dX2_meetMatches_40 : decode cX2_meetMatches 40 = .ok (.iload 4, 2) := by decide +kernel
theorem dX2_meetMatches_42 : decode cX2_meetMatches 42 = .ok (.iconst (-1), 1) := by decide +kernel
theorem dX2_meetMatches_43 : decode cX2_meetMatches 43 = .ok (.if_icmp .eq 90, 3) := by decide +kernel
theorem dX2_meetMatches_46 : decode cX2_meetMatches 46 = .ok (.iload 5, 2) := by decide +kernel
theorem dX2_meetMatches_48 : decode cX2_meetMatches 48 = .ok (.bipush 100, 2) := by decide +kernel
theorem dX2_meetMatches_50 : decode cX2_meetMatches 50 = .ok (.if_icmp .ge 83, 3) := by decide +kernel
theorem dX2_meetMatches_53 : decode cX2_meetMatches 53 = .ok (.iload_n 3, 1) := by decide +kernel
theorem dX2_meetMatches_54 : decode cX2_meetMatches 54 = .ok (.iconst (-1), 1) := by decide +kernel
theorem dX2_meetMatches_55 : decode cX2_meetMatches 55 = .ok (.if_icmp .eq 78, 3) := by decide +kernel
theorem dX2_meetMatches_58 : decode cX2_meetMatches 58 = .ok (.aload_n 1, 1) := by decide +kernel
theorem dX2_meetMatches_59 : decode cX2_meetMatches 59 = .ok (.iload 4, 2) := by decide +kernel
theorem dX2_meetMatches_61 : decode cX2_meetMatches 61 = .ok (.aload_n 0, 1) := by decide +kernel
theorem dX2_meetMatches_62 : decode cX2_meetMatches 62 = .ok (.getfield 20, 3) := by decide +kernel
theorem dX2_meetMatches_65 : decode cX2_meetMatches 65 = .ok (.invokevirtual 105, 3) := by decide +kernel
theorem dX2_meetMatches_68 : decode cX2_meetMatches 68 = .ok (.istore 6, 2) := by decide +kernel
theorem dX2_meetMatches_70 : decode cX2_meetMatches 70 = .ok (.iload 6, 2) := by decide +kernel
theorem dX2_meetMatches_72 : decode cX2_meetMatches 72 = .ok (.iconst (-1), 1) := by decide +kernel
theorem dX2_meetMatches_73 : decode cX2_meetMatches 73 = .ok (.if_icmp .eq 45, 3) := by decide +kernel
theorem dX2_meetMatches_76 : decode cX2_meetMatches 76 = .ok (.aload_n 0, 1) := by decide +kernel
theorem dX2_meetMatches_77 : decode cX2_meetMatches 77 = .ok (.getfield 24, 3) := by decide +kernel
theorem dX2_meetMatches_80 : decode cX2_meetMatches 80 = .ok (.invokevirtual 118, 3) := by decide +kernel
theorem dX2_meetMatches_83 : decode cX2_meetMatches 83 = .ok (.aload_n 1, 1) := by decide +kernel
theorem dX2_meetMatches_84 : decode cX2_meetMatches 84 = .ok (.iload 6, 2) := by decide +kernel
theorem dX2_meetMatches_86 : decode cX2_meetMatches 86 = .ok (.iconst 0, 1) := by decide +kernel
theorem dX2_meetMatches_87 : decode cX2_meetMatches 87 = .ok (.iconst 0, 1) := by decide +kernel
theorem dX2_meetMatches_88 : decode cX2_meetMatches 88 = .ok (.aload_n 0, 1) := by decide +kernel
theorem dX2_meetMatches_89 : decode cX2_meetMatches 89 = .ok (.getfield 24, 3) := by decide +kernel
theorem dX2_meetMatches_92 : decode cX2_meetMatches 92 = .ok (.invokestatic 125, 3) := by decide +kernel
theorem dX2_meetMatches_95 : decode cX2_meetMatches 95 = .ok (.aload_n 0, 1) := by decide +kernel
theorem dX2_meetMatches_96 : decode cX2_meetMatches 96 = .ok (.getfield 14, 3) := by decide +kernel
theorem dX2_meetMatches_99 : decode cX2_meetMatches 99 = .ok (.aload_n 0, 1) := by decide +kernel
theorem dX2_meetMatches_100 : decode cX2_meetMatches 100 = .ok (.getfield 24, 3) := by decide +kernel
theorem dX2_meetMatches_103 : decode cX2_meetMatches 103 = .ok (.iload_n 3, 1) := by decide +kernel
theorem dX2_meetMatches_104 : decode cX2_meetMatches 104 = .ok (.iconst 1, 1) := by decide +kernel
theorem dX2_meetMatches_105 : decode cX2_meetMatches 105 = .ok (.iadd, 1) := by decide +kernel
theorem dX2_meetMatches_106 : decode cX2_meetMatches 106 = .ok (.invokevirtual 131, 3) := by decide +kernel
theorem dX2_meetMatches_109 : decode cX2_meetMatches 109 = .ok (.ifCond .eq 9, 3) := by decide +kernel
theorem dX2_meetMatches_112 : decode cX2_meetMatches 112 = .ok (.aload_n 0, 1) := by decide +kernel
theorem dX2_meetMatches_113 : decode cX2_meetMatches 113 = .ok (.iload 4, 2) := by decide +kernel
theorem dX2_meetMatches_115 : decode cX2_meetMatches 115 = .ok (.invokevirtual 45, 3) := by decide +kernel
theorem dX2_meetMatches_118 : decode cX2_meetMatches 118 = .ok (.aload_n 1, 1) := by decide +kernel
theorem dX2_meetMatches_119 : decode cX2_meetMatches 119 = .ok (.iload_n 2, 1) := by decide +kernel
theorem dX2_meetMatches_120 : decode cX2_meetMatches 120 = .ok (.iload 4, 2) := by decide +kernel
theorem dX2_meetMatches_122 : decode cX2_meetMatches 122 = .ok (.invokevirtual 85, 3) := by decide +kernel
theorem dX2_meetMatches_125 : decode cX2_meetMatches 125 = .ok (.istore 4, 2) := by decide +kernel
theorem dX2_meetMatches_127 : decode cX2_meetMatches 127 = .ok (.iinc 5 1, 3) := by decide +kernel
theorem dX2_meetMatches_130 : decode cX2_meetMatches 130 = .ok (.goto (-90), 3) := by decide +kernel
theorem dX2_meetMatches_133 : decode cX2_meetMatches 133 = .ok (.return_, 1) := by decide +kernel
theorem dX5_init_0 : decode cX5_init 0 = .ok (.aload_n 0, 1) := by decide +kernel
theorem dX5_init_1 : decode cX5_init 1 = .ok (.invokespecial 3, 3) := by decide +kernel
theorem dX5_init_4 : decode cX5_init 4 = .ok (.aload_n 0, 1) := by decide +kernel
theorem dX5_init_5 : decode cX5_init 5 = .ok (.new 9, 3) := by decide +kernel
theorem dX5_init_8 : decode cX5_init 8 = .ok (.dup, 1) := by decide +kernel
theorem dX5_init_9 : decode cX5_init 9 = .ok (.sipush 400, 3) := by decide +kernel
theorem dX5_init_12 : decode cX5_init 12 = .ok (.invokespecial 11, 3) := by decide +kernel
theorem dX5_init_15 : decode cX5_init 15 = .ok (.putfield 14, 3) := by decide +kernel
theorem dX5_init_18 : decode cX5_init 18 = .ok (.aload_n 0, 1) := by decide +kernel
theorem dX5_init_19 : decode cX5_init 19 = .ok (.sipush 10000, 3) := by decide +kernel
theorem dX5_init_22 : decode cX5_init 22 = .ok (.newarray .boolean, 2) := by decide +kernel
theorem dX5_init_24 : decode cX5_init 24 = .ok (.putfield 20, 3) := by decide +kernel
theorem dX5_init_27 : decode cX5_init 27 = .ok (.aload_n 0, 1) := by decide +kernel
theorem dX5_init_28 : decode cX5_init 28 = .ok (.sipush 10000, 3) := by decide +kernel
theorem dX5_init_31 : decode cX5_init 31 = .ok (.newarray .int, 2) := by decide +kernel
theorem dX5_init_33 : decode cX5_init 33 = .ok (.putfield 24, 3) := by decide +kernel
theorem dX5_init_36 : decode cX5_init 36 = .ok (.aload_n 0, 1) := by decide +kernel
theorem dX5_init_37 : decode cX5_init 37 = .ok (.bipush 100, 2) := by decide +kernel
theorem dX5_init_39 : decode cX5_init 39 = .ok (.newarray .int, 2) := by decide +kernel
theorem dX5_init_41 : decode cX5_init 41 = .ok (.putfield 28, 3) := by decide +kernel
theorem dX5_init_44 : decode cX5_init 44 = .ok (.aload_n 0, 1) := by decide +kernel
theorem dX5_init_45 : decode cX5_init 45 = .ok (.bipush 100, 2) := by decide +kernel
theorem dX5_init_47 : decode cX5_init 47 = .ok (.newarray .int, 2) := by decide +kernel
theorem dX5_init_49 : decode cX5_init 49 = .ok (.putfield 31, 3) := by decide +kernel
theorem dX5_init_52 : decode cX5_init 52 = .ok (.aload_n 0, 1) := by decide +kernel
theorem dX5_init_53 : decode cX5_init 53 = .ok (.new 34, 3) := by decide +kernel
theorem dX5_init_56 : decode cX5_init 56 = .ok (.dup, 1) := by decide +kernel
theorem dX5_init_57 : decode cX5_init 57 = .ok (.invokespecial 36, 3) := by decide +kernel
theorem dX5_init_60 : decode cX5_init 60 = .ok (.putfield 37, 3) := by decide +kernel
theorem dX5_init_63 : decode cX5_init 63 = .ok (.aload_n 0, 1) := by decide +kernel
theorem dX5_init_64 : decode cX5_init 64 = .ok (.aload_n 0, 1) := by decide +kernel
theorem dX5_init_65 : decode cX5_init 65 = .ok (.getfield 37, 3) := by decide +kernel
theorem dX5_init_68 : decode cX5_init 68 = .ok (.putfield 41, 3) := by decide +kernel
theorem dX5_init_71 : decode cX5_init 71 = .ok (.aload_n 0, 1) := by decide +kernel
theorem dX5_init_72 : decode cX5_init 72 = .ok (.aload_n 0, 1) := by decide +kernel
theorem dX5_init_73 : decode cX5_init 73 = .ok (.getfield 37, 3) := by decide +kernel
theorem dX5_init_76 : decode cX5_init 76 = .ok (.putfield 44, 3) := by decide +kernel
theorem dX5_init_79 : decode cX5_init 79 = .ok (.return_, 1) := by decide +kernel
theorem dX5_listTo_0 : decode cX5_listTo 0 = .ok (.aload_n 0, 1) := by decide +kernel
theorem dX5_listTo_1 : decode cX5_listTo 1 = .ok (.aload_n 1, 1) := by decide +kernel
theorem dX5_listTo_2 : decode cX5_listTo 2 = .ok (.putfield 41, 3) := by decide +kernel
theorem dX5_listTo_5 : decode cX5_listTo 5 = .ok (.aload_n 0, 1) := by decide +kernel
theorem dX5_listTo_6 : decode cX5_listTo 6 = .ok (.aload_n 2, 1) := by decide +kernel
theorem dX5_listTo_7 : decode cX5_listTo 7 = .ok (.putfield 44, 3) := by decide +kernel
theorem dX5_listTo_10 : decode cX5_listTo 10 = .ok (.aload_n 0, 1) := by decide +kernel
theorem dX5_listTo_11 : decode cX5_listTo 11 = .ok (.aload_n 3, 1) := by decide +kernel
theorem dX5_listTo_12 : decode cX5_listTo 12 = .ok (.putfield 37, 3) := by decide +kernel
theorem dX5_listTo_15 : decode cX5_listTo 15 = .ok (.aload_n 0, 1) := by decide +kernel
theorem dX5_listTo_16 : decode cX5_listTo 16 = .ok (.getfield 14, 3) := by decide +kernel
theorem dX5_listTo_19 : decode cX5_listTo 19 = .ok (.invokevirtual 47, 3) := by decide +kernel
theorem dX5_listTo_22 : decode cX5_listTo 22 = .ok (.aload_n 0, 1) := by decide +kernel
theorem dX5_listTo_23 : decode cX5_listTo 23 = .ok (.getfield 37, 3) := by decide +kernel
theorem dX5_listTo_26 : decode cX5_listTo 26 = .ok (.invokevirtual 50, 3) := by decide +kernel
theorem dX5_listTo_29 : decode cX5_listTo 29 = .ok (.aload_n 0, 1) := by decide +kernel
theorem dX5_listTo_30 : decode cX5_listTo 30 = .ok (.getfield 37, 3) := by decide +kernel
theorem dX5_listTo_33 : decode cX5_listTo 33 = .ok (.iconst 4, 1) := by decide +kernel
theorem dX5_listTo_34 : decode cX5_listTo 34 = .ok (.invokevirtual 51, 3) := by decide +kernel
theorem dX5_listTo_37 : decode cX5_listTo 37 = .ok (.istore 4, 2) := by decide +kernel
theorem dX5_listTo_39 : decode cX5_listTo 39 = .ok (.aload_n 0, 1) := by decide +kernel
theorem dX5_listTo_40 : decode cX5_listTo 40 = .ok (.iconst 0, 1) := by decide +kernel
theorem dX5_listTo_41 : decode cX5_listTo 41 = .ok (.iconst 0, 1) := by decide +kernel
theorem dX5_listTo_42 : decode cX5_listTo 42 = .ok (.iconst 0, 1) := by decide +kernel
theorem dX5_listTo_43 : decode cX5_listTo 43 = .ok (.invokevirtual 55, 3) := by decide +kernel
theorem dX5_listTo_46 : decode cX5_listTo 46 = .ok (.aload_n 0, 1) := by decide +kernel
theorem dX5_listTo_47 : decode cX5_listTo 47 = .ok (.getfield 37, 3) := by decide +kernel
theorem dX5_listTo_50 : decode cX5_listTo 50 = .ok (.iload 4, 2) := by decide +kernel
theorem dX5_listTo_52 : decode cX5_listTo 52 = .ok (.invokevirtual 59, 3) := by decide +kernel
theorem dX5_listTo_55 : decode cX5_listTo 55 = .ok (.return_, 1) := by decide +kernel
theorem dX5_between_0 : decode cX5_between 0 = .ok (.aload_n 0, 1) := by decide +kernel
theorem dX5_between_1 : decode cX5_between 1 = .ok (.getfield 41, 3) := by decide +kernel
theorem dX5_between_4 : decode cX5_between 4 = .ok (.iload_n 1, 1) := by decide +kernel
theorem dX5_between_5 : decode cX5_between 5 = .ok (.aload_n 0, 1) := by decide +kernel
theorem dX5_between_6 : decode cX5_between 6 = .ok (.getfield 44, 3) := by decide +kernel
theorem dX5_between_9 : decode cX5_between 9 = .ok (.iload_n 2, 1) := by decide +kernel
theorem dX5_between_10 : decode cX5_between 10 = .ok (.iconst 0, 1) := by decide +kernel
theorem dX5_between_11 : decode cX5_between 11 = .ok (.invokevirtual 62, 3) := by decide +kernel
theorem dX5_between_14 : decode cX5_between 14 = .ok (.ifCond .ne 9, 3) := by decide +kernel
theorem dX5_between_17 : decode cX5_between 17 = .ok (.iload_n 3, 1) := by decide +kernel
theorem dX5_between_18 : decode cX5_between 18 = .ok (.bipush 12, 2) := by decide +kernel
theorem dX5_between_20 : decode cX5_between 20 = .ok (.if_icmp .le 4, 3) := by decide +kernel
theorem dX5_between_23 : decode cX5_between 23 = .ok (.return_, 1) := by decide +kernel
theorem dX5_between_24 : decode cX5_between 24 = .ok (.aload_n 0, 1) := by decide +kernel
theorem dX5_between_25 : decode cX5_between 25 = .ok (.getfield 41, 3) := by decide +kernel
theorem dX5_between_28 : decode cX5_between 28 = .ok (.iload_n 1, 1) := by decide +kernel
theorem dX5_between_29 : decode cX5_between 29 = .ok (.iconst 5, 1) := by decide +kernel
theorem dX5_between_30 : decode cX5_between 30 = .ok (.invokevirtual 66, 3) := by decide +kernel
theorem dX5_between_33 : decode cX5_between 33 = .ok (.ifCond .eq 25, 3) := by decide +kernel
theorem dX5_between_36 : decode cX5_between 36 = .ok (.aload_n 0, 1) := by decide +kernel
theorem dX5_between_37 : decode cX5_between 37 = .ok (.getfield 44, 3) := by decide +kernel
theorem dX5_between_40 : decode cX5_between 40 = .ok (.iload_n 2, 1) := by decide +kernel
theorem dX5_between_41 : decode cX5_between 41 = .ok (.iconst 5, 1) := by decide +kernel
theorem dX5_between_42 : decode cX5_between 42 = .ok (.invokevirtual 66, 3) := by decide +kernel
theorem dX5_between_45 : decode cX5_between 45 = .ok (.ifCond .eq 13, 3) := by decide +kernel
theorem dX5_between_48 : decode cX5_between 48 = .ok (.aload_n 0, 1) := by decide +kernel
theorem dX5_between_49 : decode cX5_between 49 = .ok (.iload_n 1, 1) := by decide +kernel
theorem dX5_between_50 : decode cX5_between 50 = .ok (.iload_n 2, 1) := by decide +kernel
theorem dX5_between_51 : decode cX5_between 51 = .ok (.iload_n 3, 1) := by decide +kernel
theorem dX5_between_52 : decode cX5_between 52 = .ok (.invokevirtual 70, 3) := by decide +kernel
theorem dX5_between_55 : decode cX5_between 55 = .ok (.goto 54, 3) := by decide +kernel
theorem dX5_between_58 : decode cX5_between 58 = .ok (.aload_n 0, 1) := by decide +kernel
theorem dX5_between_59 : decode cX5_between 59 = .ok (.getfield 41, 3) := by decide +kernel
theorem dX5_between_62 : decode cX5_between 62 = .ok (.iload_n 1, 1) := by decide +kernel
theorem dX5_between_63 : decode cX5_between 63 = .ok (.iconst 4, 1) := by decide +kernel
theorem dX5_between_64 : decode cX5_between 64 = .ok (.invokevirtual 66, 3) := by decide +kernel
theorem dX5_between_67 : decode cX5_between 67 = .ok (.ifCond .eq 24, 3) := by decide +kernel
theorem dX5_between_70 : decode cX5_between 70 = .ok (.aload_n 0, 1) := by decide +kernel
theorem dX5_between_71 : decode cX5_between 71 = .ok (.getfield 44, 3) := by decide +kernel
theorem dX5_between_74 : decode cX5_between 74 = .ok (.iload_n 2, 1) := by decide +kernel
theorem dX5_between_75 : decode cX5_between 75 = .ok (.iconst 4, 1) := by decide +kernel
theorem dX5_between_76 : decode cX5_between 76 = .ok (.invokevirtual 66, 3) := by decide +kernel
theorem dX5_between_79 : decode cX5_between 79 = .ok (.ifCond .eq 12, 3) := by decide +kernel
theorem dX5_between_82 : decode cX5_between 82 = .ok (.aload_n 0, 1) := by decide +kernel
theorem dX5_between_83 : decode cX5_between 83 = .ok (.iload_n 1, 1) := by decide +kernel
theorem dX5_between_84 : decode cX5_between 84 = .ok (.iload_n 2, 1) := by decide +kernel
theorem dX5_between_85 : decode cX5_between 85 = .ok (.invokevirtual 73, 3) := by decide +kernel
theorem dX5_between_88 : decode cX5_between 88 = .ok (.goto 21, 3) := by decide +kernel
theorem dX5_between_91 : decode cX5_between 91 = .ok (.aload_n 0, 1) := by decide +kernel
theorem dX5_between_92 : decode cX5_between 92 = .ok (.getfield 37, 3) := by decide +kernel
theorem dX5_between_95 : decode cX5_between 95 = .ok (.ldc 77, 2) := by decide +kernel
theorem dX5_between_97 : decode cX5_between 97 = .ok (.aload_n 0, 1) := by decide +kernel
theorem dX5_between_98 : decode cX5_between 98 = .ok (.getfield 14, 3) := by decide +kernel
theorem dX5_between_101 : decode cX5_between 101 = .ok (.aload_n 0, 1) := by decide +kernel
theorem dX5_between_102 : decode cX5_between 102 = .ok (.getfield 44, 3) := by decide +kernel
theorem dX5_between_105 : decode cX5_between 105 = .ok (.iload_n 2, 1) := by decide +kernel
theorem dX5_between_106 : decode cX5_between 106 = .ok (.invokestatic 79, 3) := by decide +kernel
theorem dX5_between_109 : decode cX5_between 109 = .ok (.return_, 1) := by decide +kernel
theorem dX5_betweenMaps_0 : decode cX5_betweenMaps 0 = .ok (.aload_n 0, 1) := by decide +kernel
theorem dX5_betweenMaps_1 : decode cX5_betweenMaps 1 = .ok (.getfield 14, 3) := by decide +kernel
theorem dX5_betweenMaps_4 : decode cX5_betweenMaps 4 = .ok (.invokevirtual 82, 3) := by decide +kernel
theorem dX5_betweenMaps_7 : decode cX5_betweenMaps 7 = .ok (.istore 4, 2) := by decide +kernel
theorem dX5_betweenMaps_9 : decode cX5_betweenMaps 9 = .ok (.aload_n 0, 1) := by decide +kernel
theorem dX5_betweenMaps_10 : decode cX5_betweenMaps 10 = .ok (.getfield 41, 3) := by decide +kernel
theorem dX5_betweenMaps_13 : decode cX5_betweenMaps 13 = .ok (.iload_n 1, 1) := by decide +kernel
theorem dX5_betweenMaps_14 : decode cX5_betweenMaps 14 = .ok (.invokevirtual 86, 3) := by decide +kernel
theorem dX5_betweenMaps_17 : decode cX5_betweenMaps 17 = .ok (.istore 5, 2) := by decide +kernel
theorem dX5_betweenMaps_19 : decode cX5_betweenMaps 19 = .ok (.iconst 0, 1) := by decide +kernel
theorem dX5_betweenMaps_20 : decode cX5_betweenMaps 20 = .ok (.istore 6, 2) := by decide +kernel
theorem dX5_betweenMaps_22 : decode cX5_betweenMaps 22 = .ok (.iload 5, 2) := by decide +kernel
theorem dX5_betweenMaps_24 : decode cX5_betweenMaps 24 = .ok (.iconst (-1), 1) := by decide +kernel
theorem dX5_betweenMaps_25 : decode cX5_betweenMaps 25 = .ok (.if_icmp .eq 86, 3) := by decide +kernel
theorem dX5_betweenMaps_28 : decode cX5_betweenMaps 28 = .ok (.iload 6, 2) := by decide +kernel
theorem dX5_betweenMaps_30 : decode cX5_betweenMaps 30 = .ok (.bipush 100, 2) := by decide +kernel
theorem dX5_betweenMaps_32 : decode cX5_betweenMaps 32 = .ok (.if_icmp .ge 79, 3) := by decide +kernel
theorem dX5_betweenMaps_35 : decode cX5_betweenMaps 35 = .ok (.aload_n 0, 1) := by decide +kernel
theorem dX5_betweenMaps_36 : decode cX5_betweenMaps 36 = .ok (.getfield 44, 3) := by decide +kernel
theorem dX5_betweenMaps_39 : decode cX5_betweenMaps 39 = .ok (.iload_n 2, 1) := by decide +kernel
theorem dX5_betweenMaps_40 : decode cX5_betweenMaps 40 = .ok (.aload_n 0, 1) := by decide +kernel
theorem dX5_betweenMaps_41 : decode cX5_betweenMaps 41 = .ok (.getfield 41, 3) := by decide +kernel
theorem dX5_betweenMaps_44 : decode cX5_betweenMaps 44 = .ok (.iload 5, 2) := by decide +kernel
theorem dX5_betweenMaps_46 : decode cX5_betweenMaps 46 = .ok (.invokevirtual 89, 3) := by decide +kernel
theorem dX5_betweenMaps_49 : decode cX5_betweenMaps 49 = .ok (.iconst (-1), 1) := by decide +kernel
theorem dX5_betweenMaps_50 : decode cX5_betweenMaps 50 = .ok (.if_icmp .ne 43, 3) := by decide +kernel
theorem dX5_betweenMaps_53 : decode cX5_betweenMaps 53 = .ok (.aload_n 0, 1) := by decide +kernel
theorem dX5_betweenMaps_54 : decode cX5_betweenMaps 54 = .ok (.getfield 41, 3) := by decide +kernel
theorem dX5_betweenMaps_57 : decode cX5_betweenMaps 57 = .ok (.iload 5, 2) := by decide +kernel
theorem dX5_betweenMaps_59 : decode cX5_betweenMaps 59 = .ok (.aload_n 0, 1) := by decide +kernel
theorem dX5_betweenMaps_60 : decode cX5_betweenMaps 60 = .ok (.getfield 14, 3) := by decide +kernel
theorem dX5_betweenMaps_63 : decode cX5_betweenMaps 63 = .ok (.invokevirtual 93, 3) := by decide +kernel
theorem dX5_betweenMaps_66 : decode cX5_betweenMaps 66 = .ok (.aload_n 0, 1) := by decide +kernel
theorem dX5_betweenMaps_67 : decode cX5_betweenMaps 67 = .ok (.getfield 37, 3) := by decide +kernel
theorem dX5_betweenMaps_70 : decode cX5_betweenMaps 70 = .ok (.ldc 97, 2) := by decide +kernel
theorem dX5_betweenMaps_72 : decode cX5_betweenMaps 72 = .ok (.aload_n 0, 1) := by decide +kernel
theorem dX5_betweenMaps_73 : decode cX5_betweenMaps 73 = .ok (.getfield 14, 3) := by decide +kernel
theorem dX5_betweenMaps_76 : decode cX5_betweenMaps 76 = .ok (.aload_n 0, 1) := by decide +kernel
theorem dX5_betweenMaps_77 : decode cX5_betweenMaps 77 = .ok (.getfield 41, 3) := by decide +kernel
theorem dX5_betweenMaps_80 : decode cX5_betweenMaps 80 = .ok (.iconst (-1), 1) := by decide +kernel
theorem dX5_betweenMaps_81 : decode cX5_betweenMaps 81 = .ok (.invokestatic 79, 3) := by decide +kernel
theorem dX5_betweenMaps_84 : decode cX5_betweenMaps 84 = .ok (.aload_n 0, 1) := by decide +kernel
theorem dX5_betweenMaps_85 : decode cX5_betweenMaps 85 = .ok (.getfield 14, 3) := by decide +kernel
theorem dX5_betweenMaps_88 : decode cX5_betweenMaps 88 = .ok (.iload 4, 2) := by decide +kernel
theorem dX5_betweenMaps_90 : decode cX5_betweenMaps 90 = .ok (.invokevirtual 99, 3) := by decide +kernel
theorem dX5_betweenMaps_93 : decode cX5_betweenMaps 93 = .ok (.aload_n 0, 1) := by decide +kernel
theorem dX5_betweenMaps_94 : decode cX5_betweenMaps 94 = .ok (.getfield 41, 3) := by decide +kernel
theorem dX5_betweenMaps_97 : decode cX5_betweenMaps 97 = .ok (.iload_n 1, 1) := by decide +kernel
theorem dX5_betweenMaps_98 : decode cX5_betweenMaps 98 = .ok (.iload 5, 2) := by decide +kernel
theorem dX5_betweenMaps_100 : decode cX5_betweenMaps 100 = .ok (.invokevirtual 102, 3) := by decide +kernel
theorem dX5_betweenMaps_103 : decode cX5_betweenMaps 103 = .ok (.istore 5, 2) := by decide +kernel
theorem dX5_betweenMaps_105 : decode cX5_betweenMaps 105 = .ok (.iinc 6 1, 3) := by decide +kernel
theorem dX5_betweenMaps_108 : decode cX5_betweenMaps 108 = .ok (.goto (-86), 3) := by decide +kernel
theorem dX5_betweenMaps_111 : decode cX5_betweenMaps 111 = .ok (.aload_n 0, 1) := by decide +kernel
theorem dX5_betweenMaps_112 : decode cX5_betweenMaps 112 = .ok (.getfield 41, 3) := by decide +kernel
theorem dX5_betweenMaps_115 : decode cX5_betweenMaps 115 = .ok (.iload_n 1, 1) := by decide +kernel
theorem dX5_betweenMaps_116 : decode cX5_betweenMaps 116 = .ok (.invokevirtual 86, 3) := by decide +kernel
theorem dX5_betweenMaps_119 : decode cX5_betweenMaps 119 = .ok (.istore 5, 2) := by decide +kernel
theorem dX5_betweenMaps_121 : decode cX5_betweenMaps 121 = .ok (.iconst 0, 1) := by decide +kernel
theorem dX5_betweenMaps_122 : decode cX5_betweenMaps 122 = .ok (.istore 6, 2) := by decide +kernel
theorem dX5_betweenMaps_124 : decode cX5_betweenMaps 124 = .ok (.iload 5, 2) := by decide +kernel
theorem dX5_betweenMaps_126 : decode cX5_betweenMaps 126 = .ok (.iconst (-1), 1) := by decide +kernel
theorem dX5_betweenMaps_127 : decode cX5_betweenMaps 127 = .ok (.if_icmp .eq 83, 3) := by decide +kernel
theorem dX5_betweenMaps_130 : decode cX5_betweenMaps 130 = .ok (.iload 6, 2) := by decide +kernel
theorem dX5_betweenMaps_132 : decode cX5_betweenMaps 132 = .ok (.bipush 100, 2) := by decide +kernel
theorem dX5_betweenMaps_134 : decode cX5_betweenMaps 134 = .ok (.if_icmp .ge 76, 3) := by decide +kernel
theorem dX5_betweenMaps_137 : decode cX5_betweenMaps 137 = .ok (.aload_n 0, 1) := by decide +kernel
theorem dX5_betweenMaps_138 : decode cX5_betweenMaps 138 = .ok (.getfield 44, 3) := by decide +kernel
theorem dX5_betweenMaps_141 : decode cX5_betweenMaps 141 = .ok (.iload_n 2, 1) := by decide +kernel
theorem dX5_betweenMaps_142 : decode cX5_betweenMaps 142 = .ok (.aload_n 0, 1) := by decide +kernel
theorem dX5_betweenMaps_143 : decode cX5_betweenMaps 143 = .ok (.getfield 41, 3) := by decide +kernel
theorem dX5_betweenMaps_146 : decode cX5_betweenMaps 146 = .ok (.iload 5, 2) := by decide +kernel
theorem dX5_betweenMaps_148 : decode cX5_betweenMaps 148 = .ok (.invokevirtual 89, 3) := by decide +kernel
theorem dX5_betweenMaps_151 : decode cX5_betweenMaps 151 = .ok (.istore 7, 2) := by decide +kernel
theorem dX5_betweenMaps_153 : decode cX5_betweenMaps 153 = .ok (.iload 7, 2) := by decide +kernel
theorem dX5_betweenMaps_155 : decode cX5_betweenMaps 155 = .ok (.iconst (-1), 1) := by decide +kernel
theorem dX5_betweenMaps_156 : decode cX5_betweenMaps 156 = .ok (.if_icmp .eq 36, 3) := by decide +kernel
theorem dX5_betweenMaps_159 : decode cX5_betweenMaps 159 = .ok (.aload_n 0, 1) := by decide +kernel
theorem dX5_betweenMaps_160 : decode cX5_betweenMaps 160 = .ok (.getfield 41, 3) := by decide +kernel
theorem dX5_betweenMaps_163 : decode cX5_betweenMaps 163 = .ok (.iload 5, 2) := by decide +kernel
theorem dX5_betweenMaps_165 : decode cX5_betweenMaps 165 = .ok (.aload_n 0, 1) := by decide +kernel
theorem dX5_betweenMaps_166 : decode cX5_betweenMaps 166 = .ok (.getfield 14, 3) := by decide +kernel
theorem dX5_betweenMaps_169 : decode cX5_betweenMaps 169 = .ok (.invokevirtual 93, 3) := by decide +kernel
theorem dX5_betweenMaps_172 : decode cX5_betweenMaps 172 = .ok (.aload_n 0, 1) := by decide +kernel
theorem dX5_betweenMaps_173 : decode cX5_betweenMaps 173 = .ok (.iload 5, 2) := by decide +kernel
theorem dX5_betweenMaps_175 : decode cX5_betweenMaps 175 = .ok (.iload 7, 2) := by decide +kernel
theorem dX5_betweenMaps_177 : decode cX5_betweenMaps 177 = .ok (.iload_n 3, 1) := by decide +kernel
theorem dX5_betweenMaps_178 : decode cX5_betweenMaps 178 = .ok (.iconst 1, 1) := by decide +kernel
theorem dX5_betweenMaps_179 : decode cX5_betweenMaps 179 = .ok (.iadd, 1) := by decide +kernel
theorem dX5_betweenMaps_180 : decode cX5_betweenMaps 180 = .ok (.invokevirtual 55, 3) := by decide +kernel
theorem dX5_betweenMaps_183 : decode cX5_betweenMaps 183 = .ok (.aload_n 0, 1) := by decide +kernel
theorem dX5_betweenMaps_184 : decode cX5_betweenMaps 184 = .ok (.getfield 14, 3) := by decide +kernel
theorem dX5_betweenMaps_187 : decode cX5_betweenMaps 187 = .ok (.iload 4, 2) := by decide +kernel
theorem dX5_betweenMaps_189 : decode cX5_betweenMaps 189 = .ok (.invokevirtual 99, 3) := by decide +kernel
theorem dX5_betweenMaps_192 : decode cX5_betweenMaps 192 = .ok (.aload_n 0, 1) := by decide +kernel
theorem dX5_betweenMaps_193 : decode cX5_betweenMaps 193 = .ok (.getfield 41, 3) := by decide +kernel
theorem dX5_betweenMaps_196 : decode cX5_betweenMaps 196 = .ok (.iload_n 1, 1) := by decide +kernel
theorem dX5_betweenMaps_197 : decode cX5_betweenMaps 197 = .ok (.iload 5, 2) := by decide +kernel
theorem dX5_betweenMaps_199 : decode cX5_betweenMaps 199 = .ok (.invokevirtual 102, 3) := by decide +kernel
theorem dX5_betweenMaps_202 : decode cX5_betweenMaps 202 = .ok (.istore 5, 2) := by decide +kernel
theorem dX5_betweenMaps_204 : decode cX5_betweenMaps 204 = .ok (.iinc 6 1, 3) := by decide +kernel
theorem dX5_betweenMaps_207 : decode cX5_betweenMaps 207 = .ok (.goto (-83), 3) := by decide +kernel
theorem dX5_betweenMaps_210 : decode cX5_betweenMaps 210 = .ok (.aload_n 0, 1) := by decide +kernel
theorem dX5_betweenMaps_211 : decode cX5_betweenMaps 211 = .ok (.getfield 44, 3) := by decide +kernel
theorem dX5_betweenMaps_214 : decode cX5_betweenMaps 214 = .ok (.iload_n 2, 1) := by decide +kernel
theorem dX5_betweenMaps_215 : decode cX5_betweenMaps 215 = .ok (.invokevirtual 86, 3) := by decide +kernel
theorem dX5_betweenMaps_218 : decode cX5_betweenMaps 218 = .ok (.istore 5, 2) := by decide +kernel
theorem dX5_betweenMaps_220 : decode cX5_betweenMaps 220 = .ok (.iconst 0, 1) := by decide +kernel
theorem dX5_betweenMaps_221 : decode cX5_betweenMaps 221 = .ok (.istore 6, 2) := by decide +kernel
theorem dX5_betweenMaps_223 : decode cX5_betweenMaps 223 = .ok (.iload 5, 2) := by decide +kernel
theorem dX5_betweenMaps_225 : decode cX5_betweenMaps 225 = .ok (.iconst (-1), 1) := by decide +kernel
theorem dX5_betweenMaps_226 : decode cX5_betweenMaps 226 = .ok (.if_icmp .eq 87, 3) := by decide +kernel
theorem dX5_betweenMaps_229 : decode cX5_betweenMaps 229 = .ok (.iload 6, 2) := by decide +kernel
theorem dX5_betweenMaps_231 : decode cX5_betweenMaps 231 = .ok (.bipush 100, 2) := by decide +kernel
theorem dX5_betweenMaps_233 : decode cX5_betweenMaps 233 = .ok (.if_icmp .ge 80, 3) := by decide +kernel
theorem dX5_betweenMaps_236 : decode cX5_betweenMaps 236 = .ok (.aload_n 0, 1) := by decide +kernel
theorem dX5_betweenMaps_237 : decode cX5_betweenMaps 237 = .ok (.getfield 41, 3) := by decide +kernel
theorem dX5_betweenMaps_240 : decode cX5_betweenMaps 240 = .ok (.iload_n 1, 1) := by decide +kernel
theorem dX5_betweenMaps_241 : decode cX5_betweenMaps 241 = .ok (.aload_n 0, 1) := by decide +kernel
theorem dX5_betweenMaps_242 : decode cX5_betweenMaps 242 = .ok (.getfield 44, 3) := by decide +kernel
theorem dX5_betweenMaps_245 : decode cX5_betweenMaps 245 = .ok (.iload 5, 2) := by decide +kernel
theorem dX5_betweenMaps_247 : decode cX5_betweenMaps 247 = .ok (.invokevirtual 89, 3) := by decide +kernel
theorem dX5_betweenMaps_250 : decode cX5_betweenMaps 250 = .ok (.iconst (-1), 1) := by decide +kernel
theorem dX5_betweenMaps_251 : decode cX5_betweenMaps 251 = .ok (.if_icmp .ne 44, 3) := by decide +kernel
theorem dX5_betweenMaps_254 : decode cX5_betweenMaps 254 = .ok (.aload_n 0, 1) := by decide +kernel
theorem dX5_betweenMaps_255 : decode cX5_betweenMaps 255 = .ok (.getfield 44, 3) := by decide +kernel
theorem dX5_betweenMaps_258 : decode cX5_betweenMaps 258 = .ok (.iload 5, 2) := by decide +kernel
theorem dX5_betweenMaps_260 : decode cX5_betweenMaps 260 = .ok (.aload_n 0, 1) := by decide +kernel
theorem dX5_betweenMaps_261 : decode cX5_betweenMaps 261 = .ok (.getfield 14, 3) := by decide +kernel
theorem dX5_betweenMaps_264 : decode cX5_betweenMaps 264 = .ok (.invokevirtual 93, 3) := by decide +kernel
theorem dX5_betweenMaps_267 : decode cX5_betweenMaps 267 = .ok (.aload_n 0, 1) := by decide +kernel
theorem dX5_betweenMaps_268 : decode cX5_betweenMaps 268 = .ok (.getfield 37, 3) := by decide +kernel
theorem dX5_betweenMaps_271 : decode cX5_betweenMaps 271 = .ok (.ldc 106, 2) := by decide +kernel
theorem dX5_betweenMaps_273 : decode cX5_betweenMaps 273 = .ok (.aload_n 0, 1) := by decide +kernel
theorem dX5_betweenMaps_274 : decode cX5_betweenMaps 274 = .ok (.getfield 14, 3) := by decide +kernel
theorem dX5_betweenMaps_277 : decode cX5_betweenMaps 277 = .ok (.aload_n 0, 1) := by decide +kernel
theorem dX5_betweenMaps_278 : decode cX5_betweenMaps 278 = .ok (.getfield 44, 3) := by decide +kernel
theorem dX5_betweenMaps_281 : decode cX5_betweenMaps 281 = .ok (.iload 5, 2) := by decide +kernel
theorem dX5_betweenMaps_283 : decode cX5_betweenMaps 283 = .ok (.invokestatic 79, 3) := by decide +kernel
theorem dX5_betweenMaps_286 : decode cX5_betweenMaps 286 = .ok (.aload_n 0, 1) := by decide +kernel
theorem dX5_betweenMaps_287 : decode cX5_betweenMaps 287 = .ok (.getfield 14, 3) := by decide +kernel
theorem dX5_betweenMaps_290 : decode cX5_betweenMaps 290 = .ok (.iload 4, 2) := by decide +kernel
theorem dX5_betweenMaps_292 : decode cX5_betweenMaps 292 = .ok (.invokevirtual 99, 3) := by decide +kernel
theorem dX5_betweenMaps_295 : decode cX5_betweenMaps 295 = .ok (.aload_n 0, 1) := by decide +kernel
theorem dX5_betweenMaps_296 : decode cX5_betweenMaps 296 = .ok (.getfield 44, 3) := by decide +kernel
theorem dX5_betweenMaps_299 : decode cX5_betweenMaps 299 = .ok (.iload_n 2, 1) := by decide +kernel
theorem dX5_betweenMaps_300 : decode cX5_betweenMaps 300 = .ok (.iload 5, 2) := by decide +kernel
theorem dX5_betweenMaps_302 : decode cX5_betweenMaps 302 = .ok (.invokevirtual 102, 3) := by decide +kernel
theorem dX5_betweenMaps_305 : decode cX5_betweenMaps 305 = .ok (.istore 5, 2) := by decide +kernel
theorem dX5_betweenMaps_307 : decode cX5_betweenMaps 307 = .ok (.iinc 6 1, 3) := by decide +kernel
theorem dX5_betweenMaps_310 : decode cX5_betweenMaps 310 = .ok (.goto (-87), 3) := by decide +kernel
theorem dX5_betweenMaps_313 : decode cX5_betweenMaps 313 = .ok (.return_, 1) := by decide +kernel
theorem dX5_betweenRows_0 : decode cX5_betweenRows 0 = .ok (.aload_n 0, 1) := by decide +kernel
theorem dX5_betweenRows_1 : decode cX5_betweenRows 1 = .ok (.getfield 41, 3) := by decide +kernel
theorem dX5_betweenRows_4 : decode cX5_betweenRows 4 = .ok (.iload_n 1, 1) := by decide +kernel
theorem dX5_betweenRows_5 : decode cX5_betweenRows 5 = .ok (.aload_n 0, 1) := by decide +kernel
theorem dX5_betweenRows_6 : decode cX5_betweenRows 6 = .ok (.getfield 28, 3) := by decide +kernel
theorem dX5_betweenRows_9 : decode cX5_betweenRows 9 = .ok (.invokestatic 107, 3) := by decide +kernel
theorem dX5_betweenRows_12 : decode cX5_betweenRows 12 = .ok (.istore_n 3, 1) := by decide +kernel
theorem dX5_betweenRows_13 : decode cX5_betweenRows 13 = .ok (.aload_n 0, 1) := by decide +kernel
theorem dX5_betweenRows_14 : decode cX5_betweenRows 14 = .ok (.getfield 44, 3) := by decide +kernel
theorem dX5_betweenRows_17 : decode cX5_betweenRows 17 = .ok (.iload_n 2, 1) := by decide +kernel
theorem dX5_betweenRows_18 : decode cX5_betweenRows 18 = .ok (.aload_n 0, 1) := by decide +kernel
theorem dX5_betweenRows_19 : decode cX5_betweenRows 19 = .ok (.getfield 31, 3) := by decide +kernel
theorem dX5_betweenRows_22 : decode cX5_betweenRows 22 = .ok (.invokestatic 107, 3) := by decide +kernel
theorem dX5_betweenRows_25 : decode cX5_betweenRows 25 = .ok (.istore 4, 2) := by decide +kernel
theorem dX5_betweenRows_27 : decode cX5_betweenRows 27 = .ok (.aload_n 0, 1) := by decide +kernel
theorem dX5_betweenRows_28 : decode cX5_betweenRows 28 = .ok (.iload_n 3, 1) := by decide +kernel
theorem dX5_betweenRows_29 : decode cX5_betweenRows 29 = .ok (.iload 4, 2) := by decide +kernel
theorem dX5_betweenRows_31 : decode cX5_betweenRows 31 = .ok (.invokevirtual 111, 3) := by decide +kernel
theorem dX5_betweenRows_34 : decode cX5_betweenRows 34 = .ok (.aload_n 0, 1) := by decide +kernel
theorem dX5_betweenRows_35 : decode cX5_betweenRows 35 = .ok (.iload_n 3, 1) := by decide +kernel
theorem dX5_betweenRows_36 : decode cX5_betweenRows 36 = .ok (.iload 4, 2) := by decide +kernel
theorem dX5_betweenRows_38 : decode cX5_betweenRows 38 = .ok (.invokevirtual 114, 3) := by decide +kernel
theorem dX5_betweenRows_41 : decode cX5_betweenRows 41 = .ok (.aload_n 0, 1) := by decide +kernel
theorem dX5_betweenRows_42 : decode cX5_betweenRows 42 = .ok (.iload_n 3, 1) := by decide +kernel
theorem dX5_betweenRows_43 : decode cX5_betweenRows 43 = .ok (.iload 4, 2) := by decide +kernel
theorem dX5_betweenRows_45 : decode cX5_betweenRows 45 = .ok (.invokevirtual 117, 3) := by decide +kernel
theorem dX5_betweenRows_48 : decode cX5_betweenRows 48 = .ok (.aload_n 0, 1) := by decide +kernel
theorem dX5_betweenRows_49 : decode cX5_betweenRows 49 = .ok (.getfield 14, 3) := by decide +kernel
theorem dX5_betweenRows_52 : decode cX5_betweenRows 52 = .ok (.invokevirtual 82, 3) := by decide +kernel
theorem dX5_betweenRows_55 : decode cX5_betweenRows 55 = .ok (.istore 5, 2) := by decide +kernel
theorem dX5_betweenRows_57 : decode cX5_betweenRows 57 = .ok (.iload_n 3, 1) := by decide +kernel
theorem dX5_betweenRows_58 : decode cX5_betweenRows 58 = .ok (.iconst 1, 1) := by decide +kernel
theorem dX5_betweenRows_59 : decode cX5_betweenRows 59 = .ok (.isub, 1) := by decide +kernel
theorem dX5_betweenRows_60 : decode cX5_betweenRows 60 = .ok (.istore 6, 2) := by decide +kernel
theorem dX5_betweenRows_62 : decode cX5_betweenRows 62 = .ok (.iload 6, 2) := by decide +kernel
theorem dX5_betweenRows_64 : decode cX5_betweenRows 64 = .ok (.ifCond .lt 45, 3) := by decide +kernel
theorem dX5_betweenRows_67 : decode cX5_betweenRows 67 = .ok (.iload 6, 2) := by decide +kernel
theorem dX5_betweenRows_69 : decode cX5_betweenRows 69 = .ok (.bipush 100, 2) := by decide +kernel
theorem dX5_betweenRows_71 : decode cX5_betweenRows 71 = .ok (.if_icmp .ge 38, 3) := by decide +kernel
theorem dX5_betweenRows_74 : decode cX5_betweenRows 74 = .ok (.aload_n 0, 1) := by decide +kernel
theorem dX5_betweenRows_75 : decode cX5_betweenRows 75 = .ok (.getfield 28, 3) := by decide +kernel
theorem dX5_betweenRows_78 : decode cX5_betweenRows 78 = .ok (.iload 6, 2) := by decide +kernel
theorem dX5_betweenRows_80 : decode cX5_betweenRows 80 = .ok (.iaload, 1) := by decide +kernel
theorem dX5_betweenRows_81 : decode cX5_betweenRows 81 = .ok (.iconst (-1), 1) := by decide +kernel
theorem dX5_betweenRows_82 : decode cX5_betweenRows 82 = .ok (.if_icmp .eq 21, 3) := by decide +kernel
theorem dX5_betweenRows_85 : decode cX5_betweenRows 85 = .ok (.aload_n 0, 1) := by decide +kernel
theorem dX5_betweenRows_86 : decode cX5_betweenRows 86 = .ok (.ldc 97, 2) := by decide +kernel
theorem dX5_betweenRows_88 : decode cX5_betweenRows 88 = .ok (.iload 6, 2) := by decide +kernel
theorem dX5_betweenRows_90 : decode cX5_betweenRows 90 = .ok (.iconst (-1), 1) := by decide +kernel
theorem dX5_betweenRows_91 : decode cX5_betweenRows 91 = .ok (.invokevirtual 120, 3) := by decide +kernel
theorem dX5_betweenRows_94 : decode cX5_betweenRows 94 = .ok (.aload_n 0, 1) := by decide +kernel
theorem dX5_betweenRows_95 : decode cX5_betweenRows 95 = .ok (.getfield 14, 3) := by decide +kernel
theorem dX5_betweenRows_98 : decode cX5_betweenRows 98 = .ok (.iload 5, 2) := by decide +kernel
theorem dX5_betweenRows_100 : decode cX5_betweenRows 100 = .ok (.invokevirtual 99, 3) := by decide +kernel
theorem dX5_betweenRows_103 : decode cX5_betweenRows 103 = .ok (.iinc 6 (-1), 3) := by decide +kernel
theorem dX5_betweenRows_106 : decode cX5_betweenRows 106 = .ok (.goto (-44), 3) := by decide +kernel
theorem dX5_betweenRows_109 : decode cX5_betweenRows 109 = .ok (.iconst 0, 1) := by decide +kernel
theorem dX5_betweenRows_110 : decode cX5_betweenRows 110 = .ok (.istore 6, 2) := by decide +kernel
theorem dX5_betweenRows_112 : decode cX5_betweenRows 112 = .ok (.iload 6, 2) := by decide +kernel
theorem dX5_betweenRows_114 : decode cX5_betweenRows 114 = .ok (.iload 4, 2) := by decide +kernel
theorem dX5_betweenRows_116 : decode cX5_betweenRows 116 = .ok (.if_icmp .ge 51, 3) := by decide +kernel
theorem dX5_betweenRows_119 : decode cX5_betweenRows 119 = .ok (.iload 6, 2) := by decide +kernel
theorem dX5_betweenRows_121 : decode cX5_betweenRows 121 = .ok (.bipush 100, 2) := by decide +kernel
theorem dX5_betweenRows_123 : decode cX5_betweenRows 123 = .ok (.if_icmp .ge 44, 3) := by decide +kernel
theorem dX5_betweenRows_126 : decode cX5_betweenRows 126 = .ok (.aload_n 0, 1) := by decide +kernel
theorem dX5_betweenRows_127 : decode cX5_betweenRows 127 = .ok (.getfield 31, 3) := by decide +kernel
theorem dX5_betweenRows_130 : decode cX5_betweenRows 130 = .ok (.iload 6, 2) := by decide +kernel
theorem dX5_betweenRows_132 : decode cX5_betweenRows 132 = .ok (.iaload, 1) := by decide +kernel
theorem dX5_betweenRows_133 : decode cX5_betweenRows 133 = .ok (.iconst (-1), 1) := by decide +kernel
theorem dX5_betweenRows_134 : decode cX5_betweenRows 134 = .ok (.if_icmp .eq 27, 3) := by decide +kernel
theorem dX5_betweenRows_137 : decode cX5_betweenRows 137 = .ok (.aload_n 0, 1) := by decide +kernel
theorem dX5_betweenRows_138 : decode cX5_betweenRows 138 = .ok (.ldc 106, 2) := by decide +kernel
theorem dX5_betweenRows_140 : decode cX5_betweenRows 140 = .ok (.iload 6, 2) := by decide +kernel
theorem dX5_betweenRows_142 : decode cX5_betweenRows 142 = .ok (.aload_n 0, 1) := by decide +kernel
theorem dX5_betweenRows_143 : decode cX5_betweenRows 143 = .ok (.getfield 31, 3) := by decide +kernel
theorem dX5_betweenRows_146 : decode cX5_betweenRows 146 = .ok (.iload 6, 2) := by decide +kernel
theorem dX5_betweenRows_148 : decode cX5_betweenRows 148 = .ok (.iaload, 1) := by decide +kernel
theorem dX5_betweenRows_149 : decode cX5_betweenRows 149 = .ok (.invokevirtual 120, 3) := by decide +kernel
theorem dX5_betweenRows_152 : decode cX5_betweenRows 152 = .ok (.aload_n 0, 1) := by decide +kernel
theorem dX5_betweenRows_153 : decode cX5_betweenRows 153 = .ok (.getfield 14, 3) := by decide +kernel
theorem dX5_betweenRows_156 : decode cX5_betweenRows 156 = .ok (.iload 5, 2) := by decide +kernel
theorem dX5_betweenRows_158 : decode cX5_betweenRows 158 = .ok (.invokevirtual 99, 3) := by decide +kernel
theorem dX5_betweenRows_161 : decode cX5_betweenRows 161 = .ok (.iinc 6 1, 3) := by decide +kernel
theorem dX5_betweenRows_164 : decode cX5_betweenRows 164 = .ok (.goto (-52), 3) := by decide +kernel
theorem dX5_betweenRows_167 : decode cX5_betweenRows 167 = .ok (.return_, 1) := by decide +kernel
theorem dX5_addAtPlace_0 : decode cX5_addAtPlace 0 = .ok (.aload_n 0, 1) := by decide +kernel
theorem dX5_addAtPlace_1 : decode cX5_addAtPlace 1 = .ok (.getfield 14, 3) := by decide +kernel
theorem dX5_addAtPlace_4 : decode cX5_addAtPlace 4 = .ok (.bipush 47, 2) := by decide +kernel
theorem dX5_addAtPlace_6 : decode cX5_addAtPlace 6 = .ok (.invokevirtual 124, 3) := by decide +kernel
theorem dX5_addAtPlace_9 : decode cX5_addAtPlace 9 = .ok (.aload_n 0, 1) := by decide +kernel
theorem dX5_addAtPlace_10 : decode cX5_addAtPlace 10 = .ok (.getfield 14, 3) := by decide +kernel
theorem dX5_addAtPlace_13 : decode cX5_addAtPlace 13 = .ok (.iload_n 2, 1) := by decide +kernel
theorem dX5_addAtPlace_14 : decode cX5_addAtPlace 14 = .ok (.invokevirtual 126, 3) := by decide +kernel
theorem dX5_addAtPlace_17 : decode cX5_addAtPlace 17 = .ok (.aload_n 0, 1) := by decide +kernel
theorem dX5_addAtPlace_18 : decode cX5_addAtPlace 18 = .ok (.getfield 37, 3) := by decide +kernel
theorem dX5_addAtPlace_21 : decode cX5_addAtPlace 21 = .ok (.aload_n 1, 1) := by decide +kernel
theorem dX5_addAtPlace_22 : decode cX5_addAtPlace 22 = .ok (.aload_n 0, 1) := by decide +kernel
theorem dX5_addAtPlace_23 : decode cX5_addAtPlace 23 = .ok (.getfield 14, 3) := by decide +kernel
theorem dX5_addAtPlace_26 : decode cX5_addAtPlace 26 = .ok (.aload_n 0, 1) := by decide +kernel
theorem dX5_addAtPlace_27 : decode cX5_addAtPlace 27 = .ok (.getfield 44, 3) := by decide +kernel
theorem dX5_addAtPlace_30 : decode cX5_addAtPlace 30 = .ok (.iload_n 3, 1) := by decide +kernel
theorem dX5_addAtPlace_31 : decode cX5_addAtPlace 31 = .ok (.invokestatic 79, 3) := by decide +kernel
theorem dX5_addAtPlace_34 : decode cX5_addAtPlace 34 = .ok (.return_, 1) := by decide +kernel
theorem dX5_gather_0 : decode cX5_gather 0 = .ok (.iconst 0, 1) := by decide +kernel
theorem dX5_gather_1 : decode cX5_gather 1 = .ok (.istore_n 3, 1) := by decide +kernel
theorem dX5_gather_2 : decode cX5_gather 2 = .ok (.aload_n 0, 1) := by decide +kernel
theorem dX5_gather_3 : decode cX5_gather 3 = .ok (.iload_n 1, 1) := by decide +kernel
theorem dX5_gather_4 : decode cX5_gather 4 = .ok (.invokevirtual 86, 3) := by decide +kernel
theorem dX5_gather_7 : decode cX5_gather 7 = .ok (.istore 4, 2) := by decide +kernel
theorem dX5_gather_9 : decode cX5_gather 9 = .ok (.iload 4, 2) := by decide +kernel
theorem dX5_gather_11 : decode cX5_gather 11 = .ok (.iconst (-1), 1) := by decide +kernel
theorem dX5_gather_12 : decode cX5_gather 12 = .ok (.if_icmp .eq 29, 3) := by decide +kernel
theorem dX5_gather_15 : decode cX5_gather 15 = .ok (.iload_n 3, 1) := by decide +kernel
theorem dX5_gather_16 : decode cX5_gather 16 = .ok (.aload_n 2, 1) := by decide +kernel
theorem dX5_gather_17 : decode cX5_gather 17 = .ok (.arraylength, 1) := by decide +kernel
theorem dX5_gather_18 : decode cX5_gather 18 = .ok (.if_icmp .ge 23, 3) := by decide +kernel
theorem dX5_gather_21 : decode cX5_gather 21 = .ok (.aload_n 2, 1) := by decide +kernel
theorem dX5_gather_22 : decode cX5_gather 22 = .ok (.iload_n 3, 1) := by decide +kernel
theorem dX5_gather_23 : decode cX5_gather 23 = .ok (.iload 4, 2) := by decide +kernel
theorem dX5_gather_25 : decode cX5_gather 25 = .ok (.iastore, 1) := by decide +kernel
theorem dX5_gather_26 : decode cX5_gather 26 = .ok (.iinc 3 1, 3) := by decide +kernel
theorem dX5_gather_29 : decode cX5_gather 29 = .ok (.aload_n 0, 1) := by decide +kernel
theorem dX5_gather_30 : decode cX5_gather 30 = .ok (.iload_n 1, 1) := by decide +kernel
theorem dX5_gather_31 : decode cX5_gather 31 = .ok (.iload 4, 2) := by decide +kernel
theorem dX5_gather_33 : decode cX5_gather 33 = .ok (.invokevirtual 102, 3) := by decide +kernel
theorem dX5_gather_36 : decode cX5_gather 36 = .ok (.istore 4, 2) := by decide +kernel
theorem dX5_gather_38 : decode cX5_gather 38 = .ok (.goto (-29), 3) := by decide +kernel
theorem dX5_gather_41 : decode cX5_gather 41 = .ok (.iload_n 3, 1) := by decide +kernel
theorem dX5_gather_42 : decode cX5_gather 42 = .ok (.ireturn, 1) := by decide +kernel
theorem dX5_matchAll_0 : decode cX5_matchAll 0 = .ok (.iconst 0, 1) := by decide +kernel
theorem dX5_matchAll_1 : decode cX5_matchAll 1 = .ok (.istore_n 3, 1) := by decide +kernel
theorem dX5_matchAll_2 : decode cX5_matchAll 2 = .ok (.iload_n 3, 1) := by decide +kernel
theorem dX5_matchAll_3 : decode cX5_matchAll 3 = .ok (.iload_n 1, 1) := by decide +kernel
theorem dX5_matchAll_4 : decode cX5_matchAll 4 = .ok (.if_icmp .ge 74, 3) := by decide +kernel
theorem dX5_matchAll_7 : decode cX5_matchAll 7 = .ok (.iload_n 3, 1) := by decide +kernel
theorem dX5_matchAll_8 : decode cX5_matchAll 8 = .ok (.bipush 100, 2) := by decide +kernel
theorem dX5_matchAll_10 : decode cX5_matchAll 10 = .ok (.if_icmp .ge 68, 3) := by decide +kernel
theorem dX5_matchAll_13 : decode cX5_matchAll 13 = .ok (.iconst 0, 1) := by decide +kernel
theorem dX5_matchAll_14 : decode cX5_matchAll 14 = .ok (.istore 4, 2) := by decide +kernel
theorem dX5_matchAll_16 : decode cX5_matchAll 16 = .ok (.iload 4, 2) := by decide +kernel
theorem dX5_matchAll_18 : decode cX5_matchAll 18 = .ok (.iload_n 2, 1) := by decide +kernel
theorem dX5_matchAll_19 : decode cX5_matchAll 19 = .ok (.if_icmp .ge 53, 3) := by decide +kernel
theorem dX5_matchAll_22 : decode cX5_matchAll 22 = .ok (.iload 4, 2) := by decide +kernel
theorem dX5_matchAll_24 : decode cX5_matchAll 24 = .ok (.bipush 100, 2) := by decide +kernel
theorem dX5_matchAll_26 : decode cX5_matchAll 26 = .ok (.if_icmp .ge 46, 3) := by decide +kernel
theorem dX5_matchAll_29 : decode cX5_matchAll 29 = .ok (.aload_n 0, 1) := by decide +kernel
theorem dX5_matchAll_30 : decode cX5_matchAll 30 = .ok (.getfield 20, 3) := by decide +kernel
theorem dX5_matchAll_33 : decode cX5_matchAll 33 = .ok (.iload_n 3, 1) := by decide +kernel
theorem dX5_matchAll_34 : decode cX5_matchAll 34 = .ok (.bipush 100, 2) := by decide +kernel
theorem dX5_matchAll_36 : decode cX5_matchAll 36 = .ok (.imul, 1) := by decide +kernel
theorem dX5_matchAll_37 : decode cX5_matchAll 37 = .ok (.iload 4, 2) := by decide +kernel
theorem dX5_matchAll_39 : decode cX5_matchAll 39 = .ok (.iadd, 1) := by decide +kernel
theorem dX5_matchAll_40 : decode cX5_matchAll 40 = .ok (.aload_n 0, 1) := by decide +kernel
theorem dX5_matchAll_41 : decode cX5_matchAll 41 = .ok (.getfield 41, 3) := by decide +kernel
theorem dX5_matchAll_44 : decode cX5_matchAll 44 = .ok (.aload_n 0, 1) := by decide +kernel
theorem dX5_matchAll_45 : decode cX5_matchAll 45 = .ok (.getfield 28, 3) := by decide +kernel
theorem dX5_matchAll_48 : decode cX5_matchAll 48 = .ok (.iload_n 3, 1) := by decide +kernel
theorem dX5_matchAll_49 : decode cX5_matchAll 49 = .ok (.iaload, 1) := by decide +kernel
theorem dX5_matchAll_50 : decode cX5_matchAll 50 = .ok (.aload_n 0, 1) := by decide +kernel
theorem dX5_matchAll_51 : decode cX5_matchAll 51 = .ok (.getfield 44, 3) := by decide +kernel
theorem dX5_matchAll_54 : decode cX5_matchAll 54 = .ok (.aload_n 0, 1) := by decide +kernel
theorem dX5_matchAll_55 : decode cX5_matchAll 55 = .ok (.getfield 31, 3) := by decide +kernel
theorem dX5_matchAll_58 : decode cX5_matchAll 58 = .ok (.iload 4, 2) := by decide +kernel
theorem dX5_matchAll_60 : decode cX5_matchAll 60 = .ok (.iaload, 1) := by decide +kernel
theorem dX5_matchAll_61 : decode cX5_matchAll 61 = .ok (.iconst 0, 1) := by decide +kernel
theorem dX5_matchAll_62 : decode cX5_matchAll 62 = .ok (.invokevirtual 62, 3) := by decide +kernel
theorem dX5_matchAll_65 : decode cX5_matchAll 65 = .ok (.bastore, 1) := by decide +kernel
theorem dX5_matchAll_66 : decode cX5_matchAll 66 = .ok (.iinc 4 1, 3) := by decide +kernel
theorem dX5_matchAll_69 : decode cX5_matchAll 69 = .ok (.goto (-53), 3) := by decide +kernel
theorem dX5_matchAll_72 : decode cX5_matchAll 72 = .ok (.iinc 3 1, 3) := by decide +kernel
theorem dX5_matchAll_75 : decode cX5_matchAll 75 = .ok (.goto (-73), 3) := by decide +kernel
theorem dX5_matchAll_78 : decode cX5_matchAll 78 = .ok (.return_, 1) := by decide +kernel
theorem dX5_pairsFrom_0 : decode cX5_pairsFrom 0 = .ok (.iload_n 1, 1) := by decide +kernel
theorem dX5_pairsFrom_1 : decode cX5_pairsFrom 1 = .ok (.ifCond .lt 33, 3) := by decide +kernel
theorem dX5_pairsFrom_4 : decode cX5_pairsFrom 4 = .ok (.iload_n 1, 1) := by decide +kernel
theorem dX5_pairsFrom_5 : decode cX5_pairsFrom 5 = .ok (.bipush 100, 2) := by decide +kernel
theorem dX5_pairsFrom_7 : decode cX5_pairsFrom 7 = .ok (.if_icmp .ge 27, 3) := by decide +kernel
theorem dX5_pairsFrom_10 : decode cX5_pairsFrom 10 = .ok (.iload_n 2, 1) := by decide +kernel
theorem dX5_pairsFrom_11 : decode cX5_pairsFrom 11 = .ok (.ifCond .lt 23, 3) := by decide +kernel
theorem dX5_pairsFrom_14 : decode cX5_pairsFrom 14 = .ok (.iload_n 2, 1) := by decide +kernel
theorem dX5_pairsFrom_15 : decode cX5_pairsFrom 15 = .ok (.bipush 100, 2) := by decide +kernel
theorem dX5_pairsFrom_17 : decode cX5_pairsFrom 17 = .ok (.if_icmp .ge 17, 3) := by decide +kernel
theorem dX5_pairsFrom_20 : decode cX5_pairsFrom 20 = .ok (.aload_n 0, 1) := by decide +kernel
theorem dX5_pairsFrom_21 : decode cX5_pairsFrom 21 = .ok (.getfield 24, 3) := by decide +kernel
theorem dX5_pairsFrom_24 : decode cX5_pairsFrom 24 = .ok (.iload_n 1, 1) := by decide +kernel
theorem dX5_pairsFrom_25 : decode cX5_pairsFrom 25 = .ok (.bipush 100, 2) := by decide +kernel
theorem dX5_pairsFrom_27 : decode cX5_pairsFrom 27 = .ok (.imul, 1) := by decide +kernel
theorem dX5_pairsFrom_28 : decode cX5_pairsFrom 28 = .ok (.iload_n 2, 1) := by decide +kernel
theorem dX5_pairsFrom_29 : decode cX5_pairsFrom 29 = .ok (.iadd, 1) := by decide +kernel
theorem dX5_pairsFrom_30 : decode cX5_pairsFrom 30 = .ok (.iaload, 1) := by decide +kernel
theorem dX5_pairsFrom_31 : decode cX5_pairsFrom 31 = .ok (.goto 4, 3) := by decide +kernel
theorem dX5_pairsFrom_34 : decode cX5_pairsFrom 34 = .ok (.iconst 0, 1) := by decide +kernel
theorem dX5_pairsFrom_35 : decode cX5_pairsFrom 35 = .ok (.ireturn, 1) := by decide +kernel
theorem dX5_countPairs_0 : decode cX5_countPairs 0 = .ok (.iload_n 1, 1) := by decide +kernel
theorem dX5_countPairs_1 : decode cX5_countPairs 1 = .ok (.bipush 99, 2) := by decide +kernel
theorem dX5_countPairs_3 : decode cX5_countPairs 3 = .ok (.invokestatic 129, 3) := by decide +kernel
theorem dX5_countPairs_6 : decode cX5_countPairs 6 = .ok (.istore_n 3, 1) := by decide +kernel
theorem dX5_countPairs_7 : decode cX5_countPairs 7 = .ok (.iload_n 3, 1) := by decide +kernel
theorem dX5_countPairs_8 : decode cX5_countPairs 8 = .ok (.ifCond .lt 112, 3) := by decide +kernel
theorem dX5_countPairs_11 : decode cX5_countPairs 11 = .ok (.iload_n 2, 1) := by decide +kernel
theorem dX5_countPairs_12 : decode cX5_countPairs 12 = .ok (.bipush 99, 2) := by decide +kernel
theorem dX5_countPairs_14 : decode cX5_countPairs 14 = .ok (.invokestatic 129, 3) := by decide +kernel
theorem dX5_countPairs_17 : decode cX5_countPairs 17 = .ok (.istore 4, 2) := by decide +kernel
theorem dX5_countPairs_19 : decode cX5_countPairs 19 = .ok (.iload 4, 2) := by decide +kernel
theorem dX5_countPairs_21 : decode cX5_countPairs 21 = .ok (.ifCond .lt 93, 3) := by decide +kernel
theorem dX5_countPairs_24 : decode cX5_countPairs 24 = .ok (.aload_n 0, 1) := by decide +kernel
theorem dX5_countPairs_25 : decode cX5_countPairs 25 = .ok (.iload_n 3, 1) := by decide +kernel
theorem dX5_countPairs_26 : decode cX5_countPairs 26 = .ok (.iconst 1, 1) := by decide +kernel
theorem dX5_countPairs_27 : decode cX5_countPairs 27 = .ok (.iadd, 1) := by decide +kernel
theorem dX5_countPairs_28 : decode cX5_countPairs 28 = .ok (.iload 4, 2) := by decide +kernel
theorem dX5_countPairs_30 : decode cX5_countPairs 30 = .ok (.invokevirtual 134, 3) := by decide +kernel
theorem dX5_countPairs_33 : decode cX5_countPairs 33 = .ok (.aload_n 0, 1) := by decide +kernel
theorem dX5_countPairs_34 : decode cX5_countPairs 34 = .ok (.iload_n 3, 1) := by decide +kernel
theorem dX5_countPairs_35 : decode cX5_countPairs 35 = .ok (.iload 4, 2) := by decide +kernel
theorem dX5_countPairs_37 : decode cX5_countPairs 37 = .ok (.iconst 1, 1) := by decide +kernel
theorem dX5_countPairs_38 : decode cX5_countPairs 38 = .ok (.iadd, 1) := by decide +kernel
theorem dX5_countPairs_39 : decode cX5_countPairs 39 = .ok (.invokevirtual 134, 3) := by decide +kernel
theorem dX5_countPairs_42 : decode cX5_countPairs 42 = .ok (.invokestatic 137, 3) := by decide +kernel
theorem dX5_countPairs_45 : decode cX5_countPairs 45 = .ok (.istore 5, 2) := by decide +kernel
theorem dX5_countPairs_47 : decode cX5_countPairs 47 = .ok (.iload_n 3, 1) := by decide +kernel
theorem dX5_countPairs_48 : decode cX5_countPairs 48 = .ok (.iload_n 1, 1) := by decide +kernel
theorem dX5_countPairs_49 : decode cX5_countPairs 49 = .ok (.if_icmp .eq 9, 3) := by decide +kernel
theorem dX5_countPairs_52 : decode cX5_countPairs 52 = .ok (.iload 4, 2) := by decide +kernel
theorem dX5_countPairs_54 : decode cX5_countPairs 54 = .ok (.iload_n 2, 1) := by decide +kernel
theorem dX5_countPairs_55 : decode cX5_countPairs 55 = .ok (.if_icmp .ne 9, 3) := by decide +kernel
theorem dX5_countPairs_58 : decode cX5_countPairs 58 = .ok (.iconst 0, 1) := by decide +kernel
theorem dX5_countPairs_59 : decode cX5_countPairs 59 = .ok (.istore 5, 2) := by decide +kernel
theorem dX5_countPairs_61 : decode cX5_countPairs 61 = .ok (.goto 33, 3) := by decide +kernel
theorem dX5_countPairs_64 : decode cX5_countPairs 64 = .ok (.aload_n 0, 1) := by decide +kernel
theorem dX5_countPairs_65 : decode cX5_countPairs 65 = .ok (.getfield 20, 3) := by decide +kernel
theorem dX5_countPairs_68 : decode cX5_countPairs 68 = .ok (.iload_n 3, 1) := by decide +kernel
theorem dX5_countPairs_69 : decode cX5_countPairs 69 = .ok (.bipush 100, 2) := by decide +kernel
theorem dX5_countPairs_71 : decode cX5_countPairs 71 = .ok (.imul, 1) := by decide +kernel
theorem dX5_countPairs_72 : decode cX5_countPairs 72 = .ok (.iload 4, 2) := by decide +kernel
theorem dX5_countPairs_74 : decode cX5_countPairs 74 = .ok (.iadd, 1) := by decide +kernel
theorem dX5_countPairs_75 : decode cX5_countPairs 75 = .ok (.baload, 1) := by decide +kernel
theorem dX5_countPairs_76 : decode cX5_countPairs 76 = .ok (.ifCond .eq 18, 3) := by decide +kernel
theorem dX5_countPairs_79 : decode cX5_countPairs 79 = .ok (.aload_n 0, 1) := by decide +kernel
theorem dX5_countPairs_80 : decode cX5_countPairs 80 = .ok (.iload_n 3, 1) := by decide +kernel
theorem dX5_countPairs_81 : decode cX5_countPairs 81 = .ok (.iconst 1, 1) := by decide +kernel
theorem dX5_countPairs_82 : decode cX5_countPairs 82 = .ok (.iadd, 1) := by decide +kernel
theorem dX5_countPairs_83 : decode cX5_countPairs 83 = .ok (.iload 4, 2) := by decide +kernel
theorem dX5_countPairs_85 : decode cX5_countPairs 85 = .ok (.iconst 1, 1) := by decide +kernel
theorem dX5_countPairs_86 : decode cX5_countPairs 86 = .ok (.iadd, 1) := by decide +kernel
theorem dX5_countPairs_87 : decode cX5_countPairs 87 = .ok (.invokevirtual 134, 3) := by decide +kernel
theorem dX5_countPairs_90 : decode cX5_countPairs 90 = .ok (.iconst 1, 1) := by decide +kernel
theorem dX5_countPairs_91 : decode cX5_countPairs 91 = .ok (.iadd, 1) := by decide +kernel
theorem dX5_countPairs_92 : decode cX5_countPairs 92 = .ok (.istore 5, 2) := by decide +kernel
theorem dX5_countPairs_94 : decode cX5_countPairs 94 = .ok (.aload_n 0, 1) := by decide +kernel
theorem dX5_countPairs_95 : decode cX5_countPairs 95 = .ok (.getfield 24, 3) := by decide +kernel
theorem dX5_countPairs_98 : decode cX5_countPairs 98 = .ok (.iload_n 3, 1) := by decide +kernel
theorem dX5_countPairs_99 : decode cX5_countPairs 99 = .ok (.bipush 100, 2) := by decide +kernel
theorem dX5_countPairs_101 : decode cX5_countPairs 101 = .ok (.imul, 1) := by decide +kernel
theorem dX5_countPairs_102 : decode cX5_countPairs 102 = .ok (.iload 4, 2) := by decide +kernel
theorem dX5_countPairs_104 : decode cX5_countPairs 104 = .ok (.iadd, 1) := by decide +kernel
theorem dX5_countPairs_105 : decode cX5_countPairs 105 = .ok (.iload 5, 2) := by decide +kernel
theorem dX5_countPairs_107 : decode cX5_countPairs 107 = .ok (.iastore, 1) := by decide +kernel
theorem dX5_countPairs_108 : decode cX5_countPairs 108 = .ok (.iinc 4 (-1), 3) := by decide +kernel
theorem dX5_countPairs_111 : decode cX5_countPairs 111 = .ok (.goto (-92), 3) := by decide +kernel
theorem dX5_countPairs_114 : decode cX5_countPairs 114 = .ok (.iinc 3 (-1), 3) := by decide +kernel
theorem dX5_countPairs_117 : decode cX5_countPairs 117 = .ok (.goto (-110), 3) := by decide +kernel
theorem dX5_countPairs_120 : decode cX5_countPairs 120 = .ok (.return_, 1) := by decide +kernel
theorem dX5_markPairs_0 : decode cX5_markPairs 0 = .ok (.iconst 0, 1) := by decide +kernel
theorem dX5_markPairs_1 : decode cX5_markPairs 1 = .ok (.istore_n 3, 1) := by decide +kernel
theorem dX5_markPairs_2 : decode cX5_markPairs 2 = .ok (.iconst 0, 1) := by decide +kernel
theorem dX5_markPairs_3 : decode cX5_markPairs 3 = .ok (.istore 4, 2) := by decide +kernel
theorem dX5_markPairs_5 : decode cX5_markPairs 5 = .ok (.iconst 0, 1) := by decide +kernel
theorem dX5_markPairs_6 : decode cX5_markPairs 6 = .ok (.istore 5, 2) := by decide +kernel
theorem dX5_markPairs_8 : decode cX5_markPairs 8 = .ok (.iload 5, 2) := by decide +kernel
theorem dX5_markPairs_10 : decode cX5_markPairs 10 = .ok (.sipush 200, 3) := by decide +kernel
theorem dX5_markPairs_13 : decode cX5_markPairs 13 = .ok (.if_icmp .ge 100, 3) := by decide +kernel
theorem dX5_markPairs_16 : decode cX5_markPairs 16 = .ok (.iload_n 3, 1) := by decide +kernel
theorem dX5_markPairs_17 : decode cX5_markPairs 17 = .ok (.iload_n 1, 1) := by decide +kernel
theorem dX5_markPairs_18 : decode cX5_markPairs 18 = .ok (.if_icmp .ge 95, 3) := by decide +kernel
theorem dX5_markPairs_21 : decode cX5_markPairs 21 = .ok (.iload 4, 2) := by decide +kernel
theorem dX5_markPairs_23 : decode cX5_markPairs 23 = .ok (.iload_n 2, 1) := by decide +kernel
theorem dX5_markPairs_24 : decode cX5_markPairs 24 = .ok (.if_icmp .ge 89, 3) := by decide +kernel
theorem dX5_markPairs_27 : decode cX5_markPairs 27 = .ok (.iload_n 3, 1) := by decide +kernel
theorem dX5_markPairs_28 : decode cX5_markPairs 28 = .ok (.bipush 100, 2) := by decide +kernel
theorem dX5_markPairs_30 : decode cX5_markPairs 30 = .ok (.if_icmp .ge 83, 3) := by decide +kernel
theorem dX5_markPairs_33 : decode cX5_markPairs 33 = .ok (.iload 4, 2) := by decide +kernel
theorem dX5_markPairs_35 : decode cX5_markPairs 35 = .ok (.bipush 100, 2) := by decide +kernel
theorem dX5_markPairs_37 : decode cX5_markPairs 37 = .ok (.if_icmp .ge 76, 3) := by decide +kernel
theorem dX5_markPairs_40 : decode cX5_markPairs 40 = .ok (.aload_n 0, 1) := by decide +kernel
theorem dX5_markPairs_41 : decode cX5_markPairs 41 = .ok (.getfield 20, 3) := by decide +kernel
theorem dX5_markPairs_44 : decode cX5_markPairs 44 = .ok (.iload_n 3, 1) := by decide +kernel
theorem dX5_markPairs_45 : decode cX5_markPairs 45 = .ok (.bipush 100, 2) := by decide +kernel
theorem dX5_markPairs_47 : decode cX5_markPairs 47 = .ok (.imul, 1) := by decide +kernel
theorem dX5_markPairs_48 : decode cX5_markPairs 48 = .ok (.iload 4, 2) := by decide +kernel
theorem dX5_markPairs_50 : decode cX5_markPairs 50 = .ok (.iadd, 1) := by decide +kernel
theorem dX5_markPairs_51 : decode cX5_markPairs 51 = .ok (.baload, 1) := by decide +kernel
theorem dX5_markPairs_52 : decode cX5_markPairs 52 = .ok (.ifCond .eq 27, 3) := by decide +kernel
theorem dX5_markPairs_55 : decode cX5_markPairs 55 = .ok (.aload_n 0, 1) := by decide +kernel
theorem dX5_markPairs_56 : decode cX5_markPairs 56 = .ok (.getfield 28, 3) := by decide +kernel
theorem dX5_markPairs_59 : decode cX5_markPairs 59 = .ok (.iload_n 3, 1) := by decide +kernel
theorem dX5_markPairs_60 : decode cX5_markPairs 60 = .ok (.iconst (-1), 1) := by decide +kernel
theorem dX5_markPairs_61 : decode cX5_markPairs 61 = .ok (.iastore, 1) := by decide +kernel
theorem dX5_markPairs_62 : decode cX5_markPairs 62 = .ok (.aload_n 0, 1) := by decide +kernel
theorem dX5_markPairs_63 : decode cX5_markPairs 63 = .ok (.getfield 31, 3) := by decide +kernel
theorem dX5_markPairs_66 : decode cX5_markPairs 66 = .ok (.iload 4, 2) := by decide +kernel
theorem dX5_markPairs_68 : decode cX5_markPairs 68 = .ok (.iconst (-1), 1) := by decide +kernel
theorem dX5_markPairs_69 : decode cX5_markPairs 69 = .ok (.iastore, 1) := by decide +kernel
theorem dX5_markPairs_70 : decode cX5_markPairs 70 = .ok (.iinc 3 1, 3) := by decide +kernel
theorem dX5_markPairs_73 : decode cX5_markPairs 73 = .ok (.iinc 4 1, 3) := by decide +kernel
theorem dX5_markPairs_76 : decode cX5_markPairs 76 = .ok (.goto 31, 3) := by decide +kernel
theorem dX5_markPairs_79 : decode cX5_markPairs 79 = .ok (.aload_n 0, 1) := by decide +kernel
theorem dX5_markPairs_80 : decode cX5_markPairs 80 = .ok (.iload_n 3, 1) := by decide +kernel
theorem dX5_markPairs_81 : decode cX5_markPairs 81 = .ok (.iconst 1, 1) := by decide +kernel
theorem dX5_markPairs_82 : decode cX5_markPairs 82 = .ok (.iadd, 1) := by decide +kernel
theorem dX5_markPairs_83 : decode cX5_markPairs 83 = .ok (.iload 4, 2) := by decide +kernel
theorem dX5_markPairs_85 : decode cX5_markPairs 85 = .ok (.invokevirtual 134, 3) := by decide +kernel
theorem dX5_markPairs_88 : decode cX5_markPairs 88 = .ok (.aload_n 0, 1) := by decide +kernel
theorem dX5_markPairs_89 : decode cX5_markPairs 89 = .ok (.iload_n 3, 1) := by decide +kernel
theorem dX5_markPairs_90 : decode cX5_markPairs 90 = .ok (.iload 4, 2) := by decide +kernel
theorem dX5_markPairs_92 : decode cX5_markPairs 92 = .ok (.invokevirtual 134, 3) := by decide +kernel
theorem dX5_markPairs_95 : decode cX5_markPairs 95 = .ok (.if_icmp .ne 9, 3) := by decide +kernel
theorem dX5_markPairs_98 : decode cX5_markPairs 98 = .ok (.iinc 3 1, 3) := by decide +kernel
theorem dX5_markPairs_101 : decode cX5_markPairs 101 = .ok (.goto 6, 3) := by decide +kernel
theorem dX5_markPairs_104 : decode cX5_markPairs 104 = .ok (.iinc 4 1, 3) := by decide +kernel
theorem dX5_markPairs_107 : decode cX5_markPairs 107 = .ok (.iinc 5 1, 3) := by decide +kernel
theorem dX5_markPairs_110 : decode cX5_markPairs 110 = .ok (.goto (-102), 3) := by decide +kernel
theorem dX5_markPairs_113 : decode cX5_markPairs 113 = .ok (.return_, 1) := by decide +kernel
theorem dX5_add_0 : decode cX5_add 0 = .ok (.aload_n 0, 1) := by decide +kernel
theorem dX5_add_1 : decode cX5_add 1 = .ok (.iconst 5, 1) := by decide +kernel
theorem dX5_add_2 : decode cX5_add 2 = .ok (.invokevirtual 51, 3) := by decide +kernel
theorem dX5_add_5 : decode cX5_add 5 = .ok (.istore 5, 2) := by decide +kernel
theorem dX5_add_7 : decode cX5_add 7 = .ok (.aload_n 0, 1) := by decide +kernel
theorem dX5_add_8 : decode cX5_add 8 = .ok (.iconst 3, 1) := by decide +kernel
theorem dX5_add_9 : decode cX5_add 9 = .ok (.invokevirtual 51, 3) := by decide +kernel
theorem dX5_add_12 : decode cX5_add 12 = .ok (.istore 6, 2) := by decide +kernel
theorem dX5_add_14 : decode cX5_add 14 = .ok (.aload_n 0, 1) := by decide +kernel
theorem dX5_add_15 : decode cX5_add 15 = .ok (.iload 6, 2) := by decide +kernel
theorem dX5_add_17 : decode cX5_add 17 = .ok (.ldc 140, 2) := by decide +kernel
theorem dX5_add_19 : decode cX5_add 19 = .ok (.invokevirtual 142, 3) := by decide +kernel
theorem dX5_add_22 : decode cX5_add 22 = .ok (.iconst 0, 1) := by decide +kernel
theorem dX5_add_23 : decode cX5_add 23 = .ok (.istore 7, 2) := by decide +kernel
theorem dX5_add_25 : decode cX5_add 25 = .ok (.iload 7, 2) := by decide +kernel
theorem dX5_add_27 : decode cX5_add 27 = .ok (.aload_n 1, 1) := by decide +kernel
theorem dX5_add_28 : decode cX5_add 28 = .ok (.invokevirtual 146, 3) := by decide +kernel
theorem dX5_add_31 : decode cX5_add 31 = .ok (.if_icmp .ge 21, 3) := by decide +kernel
theorem dX5_add_34 : decode cX5_add 34 = .ok (.aload_n 0, 1) := by decide +kernel
theorem dX5_add_35 : decode cX5_add 35 = .ok (.iload 6, 2) := by decide +kernel
theorem dX5_add_37 : decode cX5_add 37 = .ok (.aload_n 1, 1) := by decide +kernel
theorem dX5_add_38 : decode cX5_add 38 = .ok (.iload 7, 2) := by decide +kernel
theorem dX5_add_40 : decode cX5_add 40 = .ok (.invokevirtual 149, 3) := by decide +kernel
theorem dX5_add_43 : decode cX5_add 43 = .ok (.invokevirtual 153, 3) := by decide +kernel
theorem dX5_add_46 : decode cX5_add 46 = .ok (.iinc 7 1, 3) := by decide +kernel
theorem dX5_add_49 : decode cX5_add 49 = .ok (.goto (-24), 3) := by decide +kernel
theorem dX5_add_52 : decode cX5_add 52 = .ok (.aload_n 0, 1) := by decide +kernel
theorem dX5_add_53 : decode cX5_add 53 = .ok (.iconst 3, 1) := by decide +kernel
theorem dX5_add_54 : decode cX5_add 54 = .ok (.invokevirtual 51, 3) := by decide +kernel
theorem dX5_add_57 : decode cX5_add 57 = .ok (.istore 7, 2) := by decide +kernel
theorem dX5_add_59 : decode cX5_add 59 = .ok (.aload_n 0, 1) := by decide +kernel
theorem dX5_add_60 : decode cX5_add 60 = .ok (.iload 7, 2) := by decide +kernel
theorem dX5_add_62 : decode cX5_add 62 = .ok (.ldc 156, 2) := by decide +kernel
theorem dX5_add_64 : decode cX5_add 64 = .ok (.invokevirtual 142, 3) := by decide +kernel
theorem dX5_add_67 : decode cX5_add 67 = .ok (.iconst 0, 1) := by decide +kernel
theorem dX5_add_68 : decode cX5_add 68 = .ok (.istore 8, 2) := by decide +kernel
theorem dX5_add_70 : decode cX5_add 70 = .ok (.iload 8, 2) := by decide +kernel
theorem dX5_add_72 : decode cX5_add 72 = .ok (.aload_n 2, 1) := by decide +kernel
theorem dX5_add_73 : decode cX5_add 73 = .ok (.invokevirtual 82, 3) := by decide +kernel
theorem dX5_add_76 : decode cX5_add 76 = .ok (.if_icmp .ge 21, 3) := by decide +kernel
theorem dX5_add_79 : decode cX5_add 79 = .ok (.aload_n 0, 1) := by decide +kernel
theorem dX5_add_80 : decode cX5_add 80 = .ok (.iload 7, 2) := by decide +kernel
theorem dX5_add_82 : decode cX5_add 82 = .ok (.aload_n 2, 1) := by decide +kernel
theorem dX5_add_83 : decode cX5_add 83 = .ok (.iload 8, 2) := by decide +kernel
theorem dX5_add_85 : decode cX5_add 85 = .ok (.invokevirtual 157, 3) := by decide +kernel
theorem dX5_add_88 : decode cX5_add 88 = .ok (.invokevirtual 153, 3) := by decide +kernel
theorem dX5_add_91 : decode cX5_add 91 = .ok (.iinc 8 1, 3) := by decide +kernel
theorem dX5_add_94 : decode cX5_add 94 = .ok (.goto (-24), 3) := by decide +kernel
theorem dX5_add_97 : decode cX5_add 97 = .ok (.iload 4, 2) := by decide +kernel
theorem dX5_add_99 : decode cX5_add 99 = .ok (.iconst (-1), 1) := by decide +kernel
theorem dX5_add_100 : decode cX5_add 100 = .ok (.if_icmp .eq 16, 3) := by decide +kernel
theorem dX5_add_103 : decode cX5_add 103 = .ok (.aload_n 0, 1) := by decide +kernel
theorem dX5_add_104 : decode cX5_add 104 = .ok (.aload_n 0, 1) := by decide +kernel
theorem dX5_add_105 : decode cX5_add 105 = .ok (.aload_n 3, 1) := by decide +kernel
theorem dX5_add_106 : decode cX5_add 106 = .ok (.iload 4, 2) := by decide +kernel
theorem dX5_add_108 : decode cX5_add 108 = .ok (.invokevirtual 160, 3) := by decide +kernel
theorem dX5_add_111 : decode cX5_add 111 = .ok (.ldc 164, 2) := by decide +kernel
theorem dX5_add_113 : decode cX5_add 113 = .ok (.invokevirtual 142, 3) := by decide +kernel
theorem dX5_add_116 : decode cX5_add 116 = .ok (.aload_n 0, 1) := by decide +kernel
theorem dX5_add_117 : decode cX5_add 117 = .ok (.iload 5, 2) := by decide +kernel
theorem dX5_add_119 : decode cX5_add 119 = .ok (.invokevirtual 59, 3) := by decide +kernel
theorem dX5_add_122 : decode cX5_add 122 = .ok (.return_, 1) := by decide +kernel
theorem dX1_init_0 : decode cX1_init 0 = .ok (.aload_n 0, 1) := by decide +kernel
theorem dX1_init_1 : decode cX1_init 1 = .ok (.invokespecial 3, 3) := by decide +kernel
theorem dX1_init_4 : decode cX1_init 4 = .ok (.aload_n 0, 1) := by decide +kernel
theorem dX1_init_5 : decode cX1_init 5 = .ok (.new 9, 3) := by decide +kernel
theorem dX1_init_8 : decode cX1_init 8 = .ok (.dup, 1) := by decide +kernel
theorem dX1_init_9 : decode cX1_init 9 = .ok (.invokespecial 11, 3) := by decide +kernel
theorem dX1_init_12 : decode cX1_init 12 = .ok (.putfield 12, 3) := by decide +kernel
theorem dX1_init_15 : decode cX1_init 15 = .ok (.aload_n 0, 1) := by decide +kernel
theorem dX1_init_16 : decode cX1_init 16 = .ok (.new 9, 3) := by decide +kernel
theorem dX1_init_19 : decode cX1_init 19 = .ok (.dup, 1) := by decide +kernel
theorem dX1_init_20 : decode cX1_init 20 = .ok (.invokespecial 11, 3) := by decide +kernel
theorem dX1_init_23 : decode cX1_init 23 = .ok (.putfield 18, 3) := by decide +kernel
theorem dX1_init_26 : decode cX1_init 26 = .ok (.aload_n 0, 1) := by decide +kernel
theorem dX1_init_27 : decode cX1_init 27 = .ok (.new 9, 3) := by decide +kernel
theorem dX1_init_30 : decode cX1_init 30 = .ok (.dup, 1) := by decide +kernel
theorem dX1_init_31 : decode cX1_init 31 = .ok (.invokespecial 11, 3) := by decide +kernel
theorem dX1_init_34 : decode cX1_init 34 = .ok (.putfield 21, 3) := by decide +kernel
theorem dX1_init_37 : decode cX1_init 37 = .ok (.aload_n 0, 1) := by decide +kernel
theorem dX1_init_38 : decode cX1_init 38 = .ok (.new 9, 3) := by decide +kernel
theorem dX1_init_41 : decode cX1_init 41 = .ok (.dup, 1) := by decide +kernel
theorem dX1_init_42 : decode cX1_init 42 = .ok (.invokespecial 11, 3) := by decide +kernel
theorem dX1_init_45 : decode cX1_init 45 = .ok (.putfield 24, 3) := by decide +kernel
theorem dX1_init_48 : decode cX1_init 48 = .ok (.aload_n 0, 1) := by decide +kernel
theorem dX1_init_49 : decode cX1_init 49 = .ok (.new 27, 3) := by decide +kernel
theorem dX1_init_52 : decode cX1_init 52 = .ok (.dup, 1) := by decide +kernel
theorem dX1_init_53 : decode cX1_init 53 = .ok (.invokespecial 29, 3) := by decide +kernel
theorem dX1_init_56 : decode cX1_init 56 = .ok (.putfield 30, 3) := by decide +kernel
theorem dX1_init_59 : decode cX1_init 59 = .ok (.aload_n 0, 1) := by decide +kernel
theorem dX1_init_60 : decode cX1_init 60 = .ok (.new 34, 3) := by decide +kernel
theorem dX1_init_63 : decode cX1_init 63 = .ok (.dup, 1) := by decide +kernel
theorem dX1_init_64 : decode cX1_init 64 = .ok (.sipush 400, 3) := by decide +kernel
theorem dX1_init_67 : decode cX1_init 67 = .ok (.invokespecial 36, 3) := by decide +kernel
theorem dX1_init_70 : decode cX1_init 70 = .ok (.putfield 39, 3) := by decide +kernel
theorem dX1_init_73 : decode cX1_init 73 = .ok (.aload_n 0, 1) := by decide +kernel
theorem dX1_init_74 : decode cX1_init 74 = .ok (.new 34, 3) := by decide +kernel
theorem dX1_init_77 : decode cX1_init 77 = .ok (.dup, 1) := by decide +kernel
theorem dX1_init_78 : decode cX1_init 78 = .ok (.sipush 400, 3) := by decide +kernel
theorem dX1_init_81 : decode cX1_init 81 = .ok (.invokespecial 36, 3) := by decide +kernel
theorem dX1_init_84 : decode cX1_init 84 = .ok (.putfield 43, 3) := by decide +kernel
theorem dX1_init_87 : decode cX1_init 87 = .ok (.return_, 1) := by decide +kernel
theorem dX1_result_0 : decode cX1_result 0 = .ok (.aload_n 0, 1) := by decide +kernel
theorem dX1_result_1 : decode cX1_result 1 = .ok (.getfield 12, 3) := by decide +kernel
theorem dX1_result_4 : decode cX1_result 4 = .ok (.areturn, 1) := by decide +kernel
theorem dX1_wayBack_0 : decode cX1_wayBack 0 = .ok (.aload_n 0, 1) := by decide +kernel
theorem dX1_wayBack_1 : decode cX1_wayBack 1 = .ok (.getfield 24, 3) := by decide +kernel
theorem dX1_wayBack_4 : decode cX1_wayBack 4 = .ok (.areturn, 1) := by decide +kernel
theorem dX1_begin_0 : decode cX1_begin 0 = .ok (.aload_n 0, 1) := by decide +kernel
theorem dX1_begin_1 : decode cX1_begin 1 = .ok (.getfield 12, 3) := by decide +kernel
theorem dX1_begin_4 : decode cX1_begin 4 = .ok (.aload_n 1, 1) := by decide +kernel
theorem dX1_begin_5 : decode cX1_begin 5 = .ok (.iconst 0, 1) := by decide +kernel
theorem dX1_begin_6 : decode cX1_begin 6 = .ok (.invokevirtual 46, 3) := by decide +kernel
theorem dX1_begin_9 : decode cX1_begin 9 = .ok (.aload_n 0, 1) := by decide +kernel
theorem dX1_begin_10 : decode cX1_begin 10 = .ok (.iload_n 2, 1) := by decide +kernel
theorem dX1_begin_11 : decode cX1_begin 11 = .ok (.putfield 50, 3) := by decide +kernel
theorem dX1_begin_14 : decode cX1_begin 14 = .ok (.aload_n 0, 1) := by decide +kernel
theorem dX1_begin_15 : decode cX1_begin 15 = .ok (.getfield 24, 3) := by decide +kernel
theorem dX1_begin_18 : decode cX1_begin 18 = .ok (.invokevirtual 54, 3) := by decide +kernel
theorem dX1_begin_21 : decode cX1_begin 21 = .ok (.aload_n 0, 1) := by decide +kernel
theorem dX1_begin_22 : decode cX1_begin 22 = .ok (.getfield 24, 3) := by decide +kernel
theorem dX1_begin_25 : decode cX1_begin 25 = .ok (.iconst 4, 1) := by decide +kernel
theorem dX1_begin_26 : decode cX1_begin 26 = .ok (.invokevirtual 57, 3) := by decide +kernel
theorem dX1_begin_29 : decode cX1_begin 29 = .ok (.pop, 1) := by decide +kernel
theorem dX1_begin_30 : decode cX1_begin 30 = .ok (.return_, 1) := by decide +kernel
theorem dX1_putIn_0 : decode cX1_putIn 0 = .ok (.aload_n 0, 1) := by decide +kernel
theorem dX1_putIn_1 : decode cX1_putIn 1 = .ok (.aload_n 1, 1) := by decide +kernel
theorem dX1_putIn_2 : decode cX1_putIn 2 = .ok (.aload_n 0, 1) := by decide +kernel
theorem dX1_putIn_3 : decode cX1_putIn 3 = .ok (.getfield 12, 3) := by decide +kernel
theorem dX1_putIn_6 : decode cX1_putIn 6 = .ok (.aload_n 1, 1) := by decide +kernel
theorem dX1_putIn_7 : decode cX1_putIn 7 = .ok (.invokevirtual 61, 3) := by decide +kernel
theorem dX1_putIn_10 : decode cX1_putIn 10 = .ok (.iconst 1, 1) := by decide +kernel
theorem dX1_putIn_11 : decode cX1_putIn 11 = .ok (.isub, 1) := by decide +kernel
theorem dX1_putIn_12 : decode cX1_putIn 12 = .ok (.invokevirtual 65, 3) := by decide +kernel
theorem dX1_putIn_15 : decode cX1_putIn 15 = .ok (.putfield 69, 3) := by decide +kernel
theorem dX1_putIn_18 : decode cX1_putIn 18 = .ok (.aload_n 0, 1) := by decide +kernel
theorem dX1_putIn_19 : decode cX1_putIn 19 = .ok (.aload_n 1, 1) := by decide +kernel
theorem dX1_putIn_20 : decode cX1_putIn 20 = .ok (.invokevirtual 73, 3) := by decide +kernel
theorem dX1_putIn_23 : decode cX1_putIn 23 = .ok (.ifCond .ne 5, 3) := by decide +kernel
theorem dX1_putIn_26 : decode cX1_putIn 26 = .ok (.iconst 0, 1) := by decide +kernel
theorem dX1_putIn_27 : decode cX1_putIn 27 = .ok (.ireturn, 1) := by decide +kernel
theorem dX1_putIn_28 : decode cX1_putIn 28 = .ok (.aload_n 0, 1) := by decide +kernel
theorem dX1_putIn_29 : decode cX1_putIn 29 = .ok (.getfield 50, 3) := by decide +kernel
theorem dX1_putIn_32 : decode cX1_putIn 32 = .ok (.ifCond .eq 35, 3) := by decide +kernel
theorem dX1_putIn_35 : decode cX1_putIn 35 = .ok (.aload_n 0, 1) := by decide +kernel
theorem dX1_putIn_36 : decode cX1_putIn 36 = .ok (.getfield 77, 3) := by decide +kernel
theorem dX1_putIn_39 : decode cX1_putIn 39 = .ok (.ifCond .eq 28, 3) := by decide +kernel
theorem dX1_putIn_42 : decode cX1_putIn 42 = .ok (.aload_n 1, 1) := by decide +kernel
theorem dX1_putIn_43 : decode cX1_putIn 43 = .ok (.aload_n 0, 1) := by decide +kernel
theorem dX1_putIn_44 : decode cX1_putIn 44 = .ok (.getfield 43, 3) := by decide +kernel
theorem dX1_putIn_47 : decode cX1_putIn 47 = .ok (.invokevirtual 80, 3) := by decide +kernel
theorem dX1_putIn_50 : decode cX1_putIn 50 = .ok (.aload_n 0, 1) := by decide +kernel
theorem dX1_putIn_51 : decode cX1_putIn 51 = .ok (.ldc 84, 2) := by decide +kernel
theorem dX1_putIn_53 : decode cX1_putIn 53 = .ok (.aload_n 0, 1) := by decide +kernel
theorem dX1_putIn_54 : decode cX1_putIn 54 = .ok (.getfield 12, 3) := by decide +kernel
theorem dX1_putIn_57 : decode cX1_putIn 57 = .ok (.aload_n 0, 1) := by decide +kernel
theorem dX1_putIn_58 : decode cX1_putIn 58 = .ok (.getfield 86, 3) := by decide +kernel
theorem dX1_putIn_61 : decode cX1_putIn 61 = .ok (.invokevirtual 89, 3) := by decide +kernel
theorem dX1_putIn_64 : decode cX1_putIn 64 = .ok (.goto 26, 3) := by decide +kernel
theorem dX1_putIn_67 : decode cX1_putIn 67 = .ok (.aload_n 0, 1) := by decide +kernel
theorem dX1_putIn_68 : decode cX1_putIn 68 = .ok (.getfield 50, 3) := by decide +kernel
theorem dX1_putIn_71 : decode cX1_putIn 71 = .ok (.ifCond .eq 19, 3) := by decide +kernel
theorem dX1_putIn_74 : decode cX1_putIn 74 = .ok (.aload_n 0, 1) := by decide +kernel
theorem dX1_putIn_75 : decode cX1_putIn 75 = .ok (.aload_n 1, 1) := by decide +kernel
theorem dX1_putIn_76 : decode cX1_putIn 76 = .ok (.invokevirtual 93, 3) := by decide +kernel
theorem dX1_putIn_79 : decode cX1_putIn 79 = .ok (.aload_n 0, 1) := by decide +kernel
theorem dX1_putIn_80 : decode cX1_putIn 80 = .ok (.ldc 97, 2) := by decide +kernel
theorem dX1_putIn_82 : decode cX1_putIn 82 = .ok (.aload_n 0, 1) := by decide +kernel
theorem dX1_putIn_83 : decode cX1_putIn 83 = .ok (.getfield 12, 3) := by decide +kernel
theorem dX1_putIn_86 : decode cX1_putIn 86 = .ok (.iconst (-1), 1) := by decide +kernel
theorem dX1_putIn_87 : decode cX1_putIn 87 = .ok (.invokevirtual 89, 3) := by decide +kernel
theorem dX1_putIn_90 : decode cX1_putIn 90 = .ok (.aload_n 0, 1) := by decide +kernel
theorem dX1_putIn_91 : decode cX1_putIn 91 = .ok (.getfield 77, 3) := by decide +kernel
theorem dX1_putIn_94 : decode cX1_putIn 94 = .ok (.ifCond .eq 24, 3) := by decide +kernel
theorem dX1_putIn_97 : decode cX1_putIn 97 = .ok (.aload_n 0, 1) := by decide +kernel
theorem dX1_putIn_98 : decode cX1_putIn 98 = .ok (.getfield 12, 3) := by decide +kernel
theorem dX1_putIn_101 : decode cX1_putIn 101 = .ok (.aload_n 0, 1) := by decide +kernel
theorem dX1_putIn_102 : decode cX1_putIn 102 = .ok (.getfield 86, 3) := by decide +kernel
theorem dX1_putIn_105 : decode cX1_putIn 105 = .ok (.aload_n 2, 1) := by decide +kernel
theorem dX1_putIn_106 : decode cX1_putIn 106 = .ok (.iload_n 3, 1) := by decide +kernel
theorem dX1_putIn_107 : decode cX1_putIn 107 = .ok (.invokevirtual 99, 3) := by decide +kernel
theorem dX1_putIn_110 : decode cX1_putIn 110 = .ok (.aload_n 0, 1) := by decide +kernel
theorem dX1_putIn_111 : decode cX1_putIn 111 = .ok (.getfield 12, 3) := by decide +kernel
theorem dX1_putIn_114 : decode cX1_putIn 114 = .ok (.invokevirtual 102, 3) := by decide +kernel
theorem dX1_putIn_117 : decode cX1_putIn 117 = .ok (.ireturn, 1) := by decide +kernel
theorem dX1_putIn_118 : decode cX1_putIn 118 = .ok (.aload_n 0, 1) := by decide +kernel
theorem dX1_putIn_119 : decode cX1_putIn 119 = .ok (.getfield 12, 3) := by decide +kernel
theorem dX1_putIn_122 : decode cX1_putIn 122 = .ok (.aload_n 0, 1) := by decide +kernel
theorem dX1_putIn_123 : decode cX1_putIn 123 = .ok (.getfield 69, 3) := by decide +kernel
theorem dX1_putIn_126 : decode cX1_putIn 126 = .ok (.aload_n 0, 1) := by decide +kernel
theorem dX1_putIn_127 : decode cX1_putIn 127 = .ok (.getfield 86, 3) := by decide +kernel
theorem dX1_putIn_130 : decode cX1_putIn 130 = .ok (.aload_n 2, 1) := by decide +kernel
theorem dX1_putIn_131 : decode cX1_putIn 131 = .ok (.iload_n 3, 1) := by decide +kernel
theorem dX1_putIn_132 : decode cX1_putIn 132 = .ok (.invokevirtual 106, 3) := by decide +kernel
theorem dX1_putIn_135 : decode cX1_putIn 135 = .ok (.aload_n 0, 1) := by decide +kernel
theorem dX1_putIn_136 : decode cX1_putIn 136 = .ok (.getfield 12, 3) := by decide +kernel
theorem dX1_putIn_139 : decode cX1_putIn 139 = .ok (.aload_n 0, 1) := by decide +kernel
theorem dX1_putIn_140 : decode cX1_putIn 140 = .ok (.getfield 86, 3) := by decide +kernel
theorem dX1_putIn_143 : decode cX1_putIn 143 = .ok (.invokevirtual 110, 3) := by decide +kernel
theorem dX1_putIn_146 : decode cX1_putIn 146 = .ok (.aload_n 0, 1) := by decide +kernel
theorem dX1_putIn_147 : decode cX1_putIn 147 = .ok (.getfield 12, 3) := by decide +kernel
theorem dX1_putIn_150 : decode cX1_putIn 150 = .ok (.aload_n 0, 1) := by decide +kernel
theorem dX1_putIn_151 : decode cX1_putIn 151 = .ok (.getfield 69, 3) := by decide +kernel
theorem dX1_putIn_154 : decode cX1_putIn 154 = .ok (.iconst 5, 1) := by decide +kernel
theorem dX1_putIn_155 : decode cX1_putIn 155 = .ok (.invokevirtual 113, 3) := by decide +kernel
theorem dX1_putIn_158 : decode cX1_putIn 158 = .ok (.ifCond .eq 18, 3) := by decide +kernel
theorem dX1_putIn_161 : decode cX1_putIn 161 = .ok (.aload_n 0, 1) := by decide +kernel
theorem dX1_putIn_162 : decode cX1_putIn 162 = .ok (.getfield 12, 3) := by decide +kernel
theorem dX1_putIn_165 : decode cX1_putIn 165 = .ok (.aload_n 0, 1) := by decide +kernel
theorem dX1_putIn_166 : decode cX1_putIn 166 = .ok (.getfield 86, 3) := by decide +kernel
theorem dX1_putIn_169 : decode cX1_putIn 169 = .ok (.aload_n 0, 1) := by decide +kernel
theorem dX1_putIn_170 : decode cX1_putIn 170 = .ok (.getfield 39, 3) := by decide +kernel
theorem dX1_putIn_173 : decode cX1_putIn 173 = .ok (.invokevirtual 117, 3) := by decide +kernel
theorem dX1_putIn_176 : decode cX1_putIn 176 = .ok (.aload_n 0, 1) := by decide +kernel
theorem dX1_putIn_177 : decode cX1_putIn 177 = .ok (.getfield 12, 3) := by decide +kernel
theorem dX1_putIn_180 : decode cX1_putIn 180 = .ok (.invokevirtual 102, 3) := by decide +kernel
theorem dX1_putIn_183 : decode cX1_putIn 183 = .ok (.ireturn, 1) := by decide +kernel
theorem dX1_aimedPathTo_0 : decode cX1_aimedPathTo 0 = .ok (.aload_n 0, 1) := by decide +kernel
theorem dX1_aimedPathTo_1 : decode cX1_aimedPathTo 1 = .ok (.getfield 12, 3) := by decide +kernel
theorem dX1_aimedPathTo_4 : decode cX1_aimedPathTo 4 = .ok (.aload_n 0, 1) := by decide +kernel
theorem dX1_aimedPathTo_5 : decode cX1_aimedPathTo 5 = .ok (.getfield 69, 3) := by decide +kernel
theorem dX1_aimedPathTo_8 : decode cX1_aimedPathTo 8 = .ok (.iconst 4, 1) := by decide +kernel
theorem dX1_aimedPathTo_9 : decode cX1_aimedPathTo 9 = .ok (.invokevirtual 113, 3) := by decide +kernel
theorem dX1_aimedPathTo_12 : decode cX1_aimedPathTo 12 = .ok (.ifCond .eq 18, 3) := by decide +kernel
theorem dX1_aimedPathTo_15 : decode cX1_aimedPathTo 15 = .ok (.aload_n 1, 1) := by decide +kernel
theorem dX1_aimedPathTo_16 : decode cX1_aimedPathTo 16 = .ok (.aload_n 0, 1) := by decide +kernel
theorem dX1_aimedPathTo_17 : decode cX1_aimedPathTo 17 = .ok (.getfield 121, 3) := by decide +kernel
theorem dX1_aimedPathTo_20 : decode cX1_aimedPathTo 20 = .ok (.aload_n 0, 1) := by decide +kernel
theorem dX1_aimedPathTo_21 : decode cX1_aimedPathTo 21 = .ok (.getfield 43, 3) := by decide +kernel
theorem dX1_aimedPathTo_24 : decode cX1_aimedPathTo 24 = .ok (.invokevirtual 124, 3) := by decide +kernel
theorem dX1_aimedPathTo_27 : decode cX1_aimedPathTo 27 = .ok (.goto 11, 3) := by decide +kernel
theorem dX1_aimedPathTo_30 : decode cX1_aimedPathTo 30 = .ok (.aload_n 1, 1) := by decide +kernel
theorem dX1_aimedPathTo_31 : decode cX1_aimedPathTo 31 = .ok (.aload_n 0, 1) := by decide +kernel
theorem dX1_aimedPathTo_32 : decode cX1_aimedPathTo 32 = .ok (.getfield 43, 3) := by decide +kernel
theorem dX1_aimedPathTo_35 : decode cX1_aimedPathTo 35 = .ok (.invokevirtual 80, 3) := by decide +kernel
theorem dX1_aimedPathTo_38 : decode cX1_aimedPathTo 38 = .ok (.return_, 1) := by decide +kernel
theorem dX1_aim_0 : decode cX1_aim 0 = .ok (.aload_n 0, 1) := by decide +kernel
theorem dX1_aim_1 : decode cX1_aim 1 = .ok (.iconst 0, 1) := by decide +kernel
theorem dX1_aim_2 : decode cX1_aim 2 = .ok (.putfield 86, 3) := by decide +kernel
theorem dX1_aim_5 : decode cX1_aim 5 = .ok (.aload_n 0, 1) := by decide +kernel
theorem dX1_aim_6 : decode cX1_aim 6 = .ok (.aload_n 1, 1) := by decide +kernel
theorem dX1_aim_7 : decode cX1_aim 7 = .ok (.invokevirtual 61, 3) := by decide +kernel
theorem dX1_aim_10 : decode cX1_aim 10 = .ok (.ifCond .ne 7, 3) := by decide +kernel
theorem dX1_aim_13 : decode cX1_aim 13 = .ok (.iconst 1, 1) := by decide +kernel
theorem dX1_aim_14 : decode cX1_aim 14 = .ok (.goto 4, 3) := by decide +kernel
theorem dX1_aim_17 : decode cX1_aim 17 = .ok (.iconst 0, 1) := by decide +kernel
theorem dX1_aim_18 : decode cX1_aim 18 = .ok (.putfield 77, 3) := by decide +kernel
theorem dX1_aim_21 : decode cX1_aim 21 = .ok (.aload_n 0, 1) := by decide +kernel
theorem dX1_aim_22 : decode cX1_aim 22 = .ok (.getfield 77, 3) := by decide +kernel
theorem dX1_aim_25 : decode cX1_aim 25 = .ok (.ifCond .eq 5, 3) := by decide +kernel
theorem dX1_aim_28 : decode cX1_aim 28 = .ok (.iconst 1, 1) := by decide +kernel
theorem dX1_aim_29 : decode cX1_aim 29 = .ok (.ireturn, 1) := by decide +kernel
theorem dX1_aim_30 : decode cX1_aim 30 = .ok (.aload_n 1, 1) := by decide +kernel
theorem dX1_aim_31 : decode cX1_aim 31 = .ok (.aload_n 1, 1) := by decide +kernel
theorem dX1_aim_32 : decode cX1_aim 32 = .ok (.invokevirtual 61, 3) := by decide +kernel
theorem dX1_aim_35 : decode cX1_aim 35 = .ok (.iconst 1, 1) := by decide +kernel
theorem dX1_aim_36 : decode cX1_aim 36 = .ok (.isub, 1) := by decide +kernel
theorem dX1_aim_37 : decode cX1_aim 37 = .ok (.aload_n 0, 1) := by decide +kernel
theorem dX1_aim_38 : decode cX1_aim 38 = .ok (.getfield 39, 3) := by decide +kernel
theorem dX1_aim_41 : decode cX1_aim 41 = .ok (.invokevirtual 127, 3) := by decide +kernel
theorem dX1_aim_44 : decode cX1_aim 44 = .ok (.aload_n 0, 1) := by decide +kernel
theorem dX1_aim_45 : decode cX1_aim 45 = .ok (.getfield 12, 3) := by decide +kernel
theorem dX1_aim_48 : decode cX1_aim 48 = .ok (.aload_n 0, 1) := by decide +kernel
theorem dX1_aim_49 : decode cX1_aim 49 = .ok (.getfield 69, 3) := by decide +kernel
theorem dX1_aim_52 : decode cX1_aim 52 = .ok (.iconst 5, 1) := by decide +kernel
theorem dX1_aim_53 : decode cX1_aim 53 = .ok (.invokevirtual 113, 3) := by decide +kernel
theorem dX1_aim_56 : decode cX1_aim 56 = .ok (.ifCond .eq 86, 3) := by decide +kernel
theorem dX1_aim_59 : decode cX1_aim 59 = .ok (.aload_n 0, 1) := by decide +kernel
theorem dX1_aim_60 : decode cX1_aim 60 = .ok (.aload_n 0, 1) := by decide +kernel
theorem dX1_aim_61 : decode cX1_aim 61 = .ok (.getfield 12, 3) := by decide +kernel
theorem dX1_aim_64 : decode cX1_aim 64 = .ok (.aload_n 0, 1) := by decide +kernel
theorem dX1_aim_65 : decode cX1_aim 65 = .ok (.getfield 69, 3) := by decide +kernel
theorem dX1_aim_68 : decode cX1_aim 68 = .ok (.aload_n 0, 1) := by decide +kernel
theorem dX1_aim_69 : decode cX1_aim 69 = .ok (.getfield 39, 3) := by decide +kernel
theorem dX1_aim_72 : decode cX1_aim 72 = .ok (.invokevirtual 130, 3) := by decide +kernel
theorem dX1_aim_75 : decode cX1_aim 75 = .ok (.putfield 86, 3) := by decide +kernel
theorem dX1_aim_78 : decode cX1_aim 78 = .ok (.aload_n 0, 1) := by decide +kernel
theorem dX1_aim_79 : decode cX1_aim 79 = .ok (.aload_n 0, 1) := by decide +kernel
theorem dX1_aim_80 : decode cX1_aim 80 = .ok (.getfield 86, 3) := by decide +kernel
theorem dX1_aim_83 : decode cX1_aim 83 = .ok (.iconst (-1), 1) := by decide +kernel
theorem dX1_aim_84 : decode cX1_aim 84 = .ok (.if_icmp .eq 7, 3) := by decide +kernel
theorem dX1_aim_87 : decode cX1_aim 87 = .ok (.iconst 1, 1) := by decide +kernel
theorem dX1_aim_88 : decode cX1_aim 88 = .ok (.goto 4, 3) := by decide +kernel
theorem dX1_aim_91 : decode cX1_aim 91 = .ok (.iconst 0, 1) := by decide +kernel
theorem dX1_aim_92 : decode cX1_aim 92 = .ok (.putfield 77, 3) := by decide +kernel
theorem dX1_aim_95 : decode cX1_aim 95 = .ok (.aload_n 0, 1) := by decide +kernel
theorem dX1_aim_96 : decode cX1_aim 96 = .ok (.aload_n 0, 1) := by decide +kernel
theorem dX1_aim_97 : decode cX1_aim 97 = .ok (.getfield 77, 3) := by decide +kernel
theorem dX1_aim_100 : decode cX1_aim 100 = .ok (.ifCond .eq 10, 3) := by decide +kernel
theorem dX1_aim_103 : decode cX1_aim 103 = .ok (.aload_n 0, 1) := by decide +kernel
theorem dX1_aim_104 : decode cX1_aim 104 = .ok (.getfield 86, 3) := by decide +kernel
theorem dX1_aim_107 : decode cX1_aim 107 = .ok (.goto 14, 3) := by decide +kernel
theorem dX1_aim_110 : decode cX1_aim 110 = .ok (.aload_n 0, 1) := by decide +kernel
theorem dX1_aim_111 : decode cX1_aim 111 = .ok (.getfield 12, 3) := by decide +kernel
theorem dX1_aim_114 : decode cX1_aim 114 = .ok (.aload_n 0, 1) := by decide +kernel
theorem dX1_aim_115 : decode cX1_aim 115 = .ok (.getfield 69, 3) := by decide +kernel
theorem dX1_aim_118 : decode cX1_aim 118 = .ok (.invokevirtual 134, 3) := by decide +kernel
theorem dX1_aim_121 : decode cX1_aim 121 = .ok (.putfield 86, 3) := by decide +kernel
theorem dX1_aim_124 : decode cX1_aim 124 = .ok (.aload_n 0, 1) := by decide +kernel
theorem dX1_aim_125 : decode cX1_aim 125 = .ok (.getfield 39, 3) := by decide +kernel
theorem dX1_aim_128 : decode cX1_aim 128 = .ok (.invokevirtual 137, 3) := by decide +kernel
theorem dX1_aim_131 : decode cX1_aim 131 = .ok (.bipush 12, 2) := by decide +kernel
theorem dX1_aim_133 : decode cX1_aim 133 = .ok (.if_icmp .gt 7, 3) := by decide +kernel
theorem dX1_aim_136 : decode cX1_aim 136 = .ok (.iconst 1, 1) := by decide +kernel
theorem dX1_aim_137 : decode cX1_aim 137 = .ok (.goto 4, 3) := by decide +kernel
theorem dX1_aim_140 : decode cX1_aim 140 = .ok (.iconst 0, 1) := by decide +kernel
theorem dX1_aim_141 : decode cX1_aim 141 = .ok (.ireturn, 1) := by decide +kernel
theorem dX1_aim_142 : decode cX1_aim 142 = .ok (.aload_n 0, 1) := by decide +kernel
theorem dX1_aim_143 : decode cX1_aim 143 = .ok (.getfield 12, 3) := by decide +kernel
theorem dX1_aim_146 : decode cX1_aim 146 = .ok (.aload_n 0, 1) := by decide +kernel
theorem dX1_aim_147 : decode cX1_aim 147 = .ok (.getfield 69, 3) := by decide +kernel
theorem dX1_aim_150 : decode cX1_aim 150 = .ok (.iconst 4, 1) := by decide +kernel
theorem dX1_aim_151 : decode cX1_aim 151 = .ok (.invokevirtual 113, 3) := by decide +kernel
theorem dX1_aim_154 : decode cX1_aim 154 = .ok (.ifCond .ne 5, 3) := by decide +kernel
theorem dX1_aim_157 : decode cX1_aim 157 = .ok (.iconst 0, 1) := by decide +kernel
theorem dX1_aim_158 : decode cX1_aim 158 = .ok (.ireturn, 1) := by decide +kernel
theorem dX1_aim_159 : decode cX1_aim 159 = .ok (.aload_n 0, 1) := by decide +kernel
theorem dX1_aim_160 : decode cX1_aim 160 = .ok (.getfield 12, 3) := by decide +kernel
theorem dX1_aim_163 : decode cX1_aim 163 = .ok (.aload_n 0, 1) := by decide +kernel
theorem dX1_aim_164 : decode cX1_aim 164 = .ok (.getfield 69, 3) := by decide +kernel
theorem dX1_aim_167 : decode cX1_aim 167 = .ok (.invokevirtual 140, 3) := by decide +kernel
theorem dX1_aim_170 : decode cX1_aim 170 = .ok (.istore_n 2, 1) := by decide +kernel
theorem dX1_aim_171 : decode cX1_aim 171 = .ok (.aload_n 0, 1) := by decide +kernel
theorem dX1_aim_172 : decode cX1_aim 172 = .ok (.aload_n 0, 1) := by decide +kernel
theorem dX1_aim_173 : decode cX1_aim 173 = .ok (.getfield 39, 3) := by decide +kernel
theorem dX1_aim_176 : decode cX1_aim 176 = .ok (.ldc 143, 2) := by decide +kernel
theorem dX1_aim_178 : decode cX1_aim 178 = .ok (.invokevirtual 145, 3) := by decide +kernel
theorem dX1_aim_181 : decode cX1_aim 181 = .ok (.ifCond .eq 7, 3) := by decide +kernel
theorem dX1_aim_184 : decode cX1_aim 184 = .ok (.iload_n 2, 1) := by decide +kernel
theorem dX1_aim_185 : decode cX1_aim 185 = .ok (.goto 11, 3) := by decide +kernel
theorem dX1_aim_188 : decode cX1_aim 188 = .ok (.aload_n 0, 1) := by decide +kernel
theorem dX1_aim_189 : decode cX1_aim 189 = .ok (.getfield 39, 3) := by decide +kernel
theorem dX1_aim_192 : decode cX1_aim 192 = .ok (.iconst 0, 1) := by decide +kernel
theorem dX1_aim_193 : decode cX1_aim 193 = .ok (.invokestatic 149, 3) := by decide +kernel
theorem dX1_aim_196 : decode cX1_aim 196 = .ok (.putfield 121, 3) := by decide +kernel
theorem dX1_aim_199 : decode cX1_aim 199 = .ok (.aload_n 0, 1) := by decide +kernel
theorem dX1_aim_200 : decode cX1_aim 200 = .ok (.aload_n 0, 1) := by decide +kernel
theorem dX1_aim_201 : decode cX1_aim 201 = .ok (.getfield 121, 3) := by decide +kernel
theorem dX1_aim_204 : decode cX1_aim 204 = .ok (.iload_n 2, 1) := by decide +kernel
theorem dX1_aim_205 : decode cX1_aim 205 = .ok (.if_icmp .ge 21, 3) := by decide +kernel
theorem dX1_aim_208 : decode cX1_aim 208 = .ok (.aload_n 0, 1) := by decide +kernel
theorem dX1_aim_209 : decode cX1_aim 209 = .ok (.getfield 12, 3) := by decide +kernel
theorem dX1_aim_212 : decode cX1_aim 212 = .ok (.aload_n 0, 1) := by decide +kernel
theorem dX1_aim_213 : decode cX1_aim 213 = .ok (.getfield 69, 3) := by decide +kernel
theorem dX1_aim_216 : decode cX1_aim 216 = .ok (.aload_n 0, 1) := by decide +kernel
theorem dX1_aim_217 : decode cX1_aim 217 = .ok (.getfield 121, 3) := by decide +kernel
theorem dX1_aim_220 : decode cX1_aim 220 = .ok (.invokevirtual 153, 3) := by decide +kernel
theorem dX1_aim_223 : decode cX1_aim 223 = .ok (.goto 14, 3) := by decide +kernel
theorem dX1_aim_226 : decode cX1_aim 226 = .ok (.aload_n 0, 1) := by decide +kernel
theorem dX1_aim_227 : decode cX1_aim 227 = .ok (.getfield 12, 3) := by decide +kernel
theorem dX1_aim_230 : decode cX1_aim 230 = .ok (.aload_n 0, 1) := by decide +kernel
theorem dX1_aim_231 : decode cX1_aim 231 = .ok (.getfield 69, 3) := by decide +kernel
theorem dX1_aim_234 : decode cX1_aim 234 = .ok (.invokevirtual 134, 3) := by decide +kernel
theorem dX1_aim_237 : decode cX1_aim 237 = .ok (.putfield 86, 3) := by decide +kernel
theorem dX1_aim_240 : decode cX1_aim 240 = .ok (.aload_n 0, 1) := by decide +kernel
theorem dX1_aim_241 : decode cX1_aim 241 = .ok (.getfield 121, 3) := by decide +kernel
theorem dX1_aim_244 : decode cX1_aim 244 = .ok (.ifCond .lt 15, 3) := by decide +kernel
theorem dX1_aim_247 : decode cX1_aim 247 = .ok (.aload_n 0, 1) := by decide +kernel
theorem dX1_aim_248 : decode cX1_aim 248 = .ok (.getfield 121, 3) := by decide +kernel
theorem dX1_aim_251 : decode cX1_aim 251 = .ok (.iload_n 2, 1) := by decide +kernel
theorem dX1_aim_252 : decode cX1_aim 252 = .ok (.if_icmp .gt 7, 3) := by decide +kernel
theorem dX1_aim_255 : decode cX1_aim 255 = .ok (.iconst 1, 1) := by decide +kernel
theorem dX1_aim_256 : decode cX1_aim 256 = .ok (.goto 4, 3) := by decide +kernel
theorem dX1_aim_259 : decode cX1_aim 259 = .ok (.iconst 0, 1) := by decide +kernel
theorem dX1_aim_260 : decode cX1_aim 260 = .ok (.ireturn, 1) := by decide +kernel
theorem dX1_cutOut_0 : decode cX1_cutOut 0 = .ok (.aload_n 1, 1) := by decide +kernel
theorem dX1_cutOut_1 : decode cX1_cutOut 1 = .ok (.aload_n 0, 1) := by decide +kernel
theorem dX1_cutOut_2 : decode cX1_cutOut 2 = .ok (.getfield 12, 3) := by decide +kernel
theorem dX1_cutOut_5 : decode cX1_cutOut 5 = .ok (.aload_n 1, 1) := by decide +kernel
theorem dX1_cutOut_6 : decode cX1_cutOut 6 = .ok (.invokevirtual 61, 3) := by decide +kernel
theorem dX1_cutOut_9 : decode cX1_cutOut 9 = .ok (.invokevirtual 65, 3) := by decide +kernel
theorem dX1_cutOut_12 : decode cX1_cutOut 12 = .ok (.istore_n 2, 1) := by decide +kernel
theorem dX1_cutOut_13 : decode cX1_cutOut 13 = .ok (.iload_n 2, 1) := by decide +kernel
theorem dX1_cutOut_14 : decode cX1_cutOut 14 = .ok (.iconst (-1), 1) := by decide +kernel
theorem dX1_cutOut_15 : decode cX1_cutOut 15 = .ok (.if_icmp .eq 10, 3) := by decide +kernel
theorem dX1_cutOut_18 : decode cX1_cutOut 18 = .ok (.aload_n 1, 1) := by decide +kernel
theorem dX1_cutOut_19 : decode cX1_cutOut 19 = .ok (.invokevirtual 61, 3) := by decide +kernel
theorem dX1_cutOut_22 : decode cX1_cutOut 22 = .ok (.ifCond .ne 5, 3) := by decide +kernel
theorem dX1_cutOut_25 : decode cX1_cutOut 25 = .ok (.iconst 0, 1) := by decide +kernel
theorem dX1_cutOut_26 : decode cX1_cutOut 26 = .ok (.ireturn, 1) := by decide +kernel
theorem dX1_cutOut_27 : decode cX1_cutOut 27 = .ok (.aload_n 0, 1) := by decide +kernel
theorem dX1_cutOut_28 : decode cX1_cutOut 28 = .ok (.getfield 50, 3) := by decide +kernel
theorem dX1_cutOut_31 : decode cX1_cutOut 31 = .ok (.ifCond .eq 22, 3) := by decide +kernel
theorem dX1_cutOut_34 : decode cX1_cutOut 34 = .ok (.aload_n 1, 1) := by decide +kernel
theorem dX1_cutOut_35 : decode cX1_cutOut 35 = .ok (.aload_n 0, 1) := by decide +kernel
theorem dX1_cutOut_36 : decode cX1_cutOut 36 = .ok (.getfield 43, 3) := by decide +kernel
theorem dX1_cutOut_39 : decode cX1_cutOut 39 = .ok (.invokevirtual 80, 3) := by decide +kernel
theorem dX1_cutOut_42 : decode cX1_cutOut 42 = .ok (.aload_n 0, 1) := by decide +kernel
theorem dX1_cutOut_43 : decode cX1_cutOut 43 = .ok (.ldc 157, 2) := by decide +kernel
theorem dX1_cutOut_45 : decode cX1_cutOut 45 = .ok (.aload_n 0, 1) := by decide +kernel
theorem dX1_cutOut_46 : decode cX1_cutOut 46 = .ok (.getfield 12, 3) := by decide +kernel
theorem dX1_cutOut_49 : decode cX1_cutOut 49 = .ok (.iload_n 2, 1) := by decide +kernel
theorem dX1_cutOut_50 : decode cX1_cutOut 50 = .ok (.invokevirtual 89, 3) := by decide +kernel
theorem dX1_cutOut_53 : decode cX1_cutOut 53 = .ok (.aload_n 0, 1) := by decide +kernel
theorem dX1_cutOut_54 : decode cX1_cutOut 54 = .ok (.getfield 12, 3) := by decide +kernel
theorem dX1_cutOut_57 : decode cX1_cutOut 57 = .ok (.iload_n 2, 1) := by decide +kernel
theorem dX1_cutOut_58 : decode cX1_cutOut 58 = .ok (.invokevirtual 158, 3) := by decide +kernel
theorem dX1_cutOut_61 : decode cX1_cutOut 61 = .ok (.iconst 1, 1) := by decide +kernel
theorem dX1_cutOut_62 : decode cX1_cutOut 62 = .ok (.ireturn, 1) := by decide +kernel
theorem dX1_record_0 : decode cX1_record 0 = .ok (.aload_n 0, 1) := by decide +kernel
theorem dX1_record_1 : decode cX1_record 1 = .ok (.getfield 21, 3) := by decide +kernel
theorem dX1_record_4 : decode cX1_record 4 = .ok (.invokevirtual 54, 3) := by decide +kernel
theorem dX1_record_7 : decode cX1_record 7 = .ok (.aload_n 0, 1) := by decide +kernel
theorem dX1_record_8 : decode cX1_record 8 = .ok (.getfield 21, 3) := by decide +kernel
theorem dX1_record_11 : decode cX1_record 11 = .ok (.aload_n 1, 1) := by decide +kernel
theorem dX1_record_12 : decode cX1_record 12 = .ok (.aload_n 0, 1) := by decide +kernel
theorem dX1_record_13 : decode cX1_record 13 = .ok (.getfield 43, 3) := by decide +kernel
theorem dX1_record_16 : decode cX1_record 16 = .ok (.aload_n 2, 1) := by decide +kernel
theorem dX1_record_17 : decode cX1_record 17 = .ok (.iload_n 3, 1) := by decide +kernel
theorem dX1_record_18 : decode cX1_record 18 = .ok (.invokestatic 160, 3) := by decide +kernel
theorem dX1_record_21 : decode cX1_record 21 = .ok (.aload_n 0, 1) := by decide +kernel
theorem dX1_record_22 : decode cX1_record 22 = .ok (.getfield 24, 3) := by decide +kernel
theorem dX1_record_25 : decode cX1_record 25 = .ok (.iconst 0, 1) := by decide +kernel
theorem dX1_record_26 : decode cX1_record 26 = .ok (.iconst 1, 1) := by decide +kernel
theorem dX1_record_27 : decode cX1_record 27 = .ok (.aload_n 0, 1) := by decide +kernel
theorem dX1_record_28 : decode cX1_record 28 = .ok (.getfield 21, 3) := by decide +kernel
theorem dX1_record_31 : decode cX1_record 31 = .ok (.iconst 0, 1) := by decide +kernel
theorem dX1_record_32 : decode cX1_record 32 = .ok (.invokevirtual 106, 3) := by decide +kernel
theorem dX1_record_35 : decode cX1_record 35 = .ok (.return_, 1) := by decide +kernel
theorem dX1_layAll_0 : decode cX1_layAll 0 = .ok (.aload_n 1, 1) := by decide +kernel
theorem dX1_layAll_1 : decode cX1_layAll 1 = .ok (.iconst 0, 1) := by decide +kernel
theorem dX1_layAll_2 : decode cX1_layAll 2 = .ok (.invokevirtual 165, 3) := by decide +kernel
theorem dX1_layAll_5 : decode cX1_layAll 5 = .ok (.istore_n 2, 1) := by decide +kernel
theorem dX1_layAll_6 : decode cX1_layAll 6 = .ok (.iconst 0, 1) := by decide +kernel
theorem dX1_layAll_7 : decode cX1_layAll 7 = .ok (.istore_n 3, 1) := by decide +kernel
theorem dX1_layAll_8 : decode cX1_layAll 8 = .ok (.iload_n 2, 1) := by decide +kernel
theorem dX1_layAll_9 : decode cX1_layAll 9 = .ok (.iconst (-1), 1) := by decide +kernel
theorem dX1_layAll_10 : decode cX1_layAll 10 = .ok (.if_icmp .eq 43, 3) := by decide +kernel
theorem dX1_layAll_13 : decode cX1_layAll 13 = .ok (.iload_n 3, 1) := by decide +kernel
theorem dX1_layAll_14 : decode cX1_layAll 14 = .ok (.bipush 100, 2) := by decide +kernel
theorem dX1_layAll_16 : decode cX1_layAll 16 = .ok (.if_icmp .ge 37, 3) := by decide +kernel
theorem dX1_layAll_19 : decode cX1_layAll 19 = .ok (.aload_n 0, 1) := by decide +kernel
theorem dX1_layAll_20 : decode cX1_layAll 20 = .ok (.aload_n 1, 1) := by decide +kernel
theorem dX1_layAll_21 : decode cX1_layAll 21 = .ok (.iload_n 2, 1) := by decide +kernel
theorem dX1_layAll_22 : decode cX1_layAll 22 = .ok (.invokevirtual 168, 3) := by decide +kernel
theorem dX1_layAll_25 : decode cX1_layAll 25 = .ok (.ifCond .eq 13, 3) := by decide +kernel
theorem dX1_layAll_28 : decode cX1_layAll 28 = .ok (.aload_n 0, 1) := by decide +kernel
theorem dX1_layAll_29 : decode cX1_layAll 29 = .ok (.getfield 12, 3) := by decide +kernel
theorem dX1_layAll_32 : decode cX1_layAll 32 = .ok (.invokevirtual 102, 3) := by decide +kernel
theorem dX1_layAll_35 : decode cX1_layAll 35 = .ok (.ifCond .ne 5, 3) := by decide +kernel
theorem dX1_layAll_38 : decode cX1_layAll 38 = .ok (.iload_n 3, 1) := by decide +kernel
theorem dX1_layAll_39 : decode cX1_layAll 39 = .ok (.ireturn, 1) := by decide +kernel
theorem dX1_layAll_40 : decode cX1_layAll 40 = .ok (.aload_n 1, 1) := by decide +kernel
theorem dX1_layAll_41 : decode cX1_layAll 41 = .ok (.iconst 0, 1) := by decide +kernel
theorem dX1_layAll_42 : decode cX1_layAll 42 = .ok (.iload_n 2, 1) := by decide +kernel
theorem dX1_layAll_43 : decode cX1_layAll 43 = .ok (.invokevirtual 172, 3) := by decide +kernel
theorem dX1_layAll_46 : decode cX1_layAll 46 = .ok (.istore_n 2, 1) := by decide +kernel
theorem dX1_layAll_47 : decode cX1_layAll 47 = .ok (.iinc 3 1, 3) := by decide +kernel
theorem dX1_layAll_50 : decode cX1_layAll 50 = .ok (.goto (-42), 3) := by decide +kernel
theorem dX1_layAll_53 : decode cX1_layAll 53 = .ok (.iconst (-1), 1) := by decide +kernel
theorem dX1_layAll_54 : decode cX1_layAll 54 = .ok (.ireturn, 1) := by decide +kernel
theorem dX1_layOne_0 : decode cX1_layOne 0 = .ok (.aload_n 1, 1) := by decide +kernel
theorem dX1_layOne_1 : decode cX1_layOne 1 = .ok (.iload_n 2, 1) := by decide +kernel
theorem dX1_layOne_2 : decode cX1_layOne 2 = .ok (.ldc 175, 2) := by decide +kernel
theorem dX1_layOne_4 : decode cX1_layOne 4 = .ok (.invokevirtual 177, 3) := by decide +kernel
theorem dX1_layOne_7 : decode cX1_layOne 7 = .ok (.istore_n 3, 1) := by decide +kernel
theorem dX1_layOne_8 : decode cX1_layOne 8 = .ok (.aload_n 1, 1) := by decide +kernel
theorem dX1_layOne_9 : decode cX1_layOne 9 = .ok (.iload_n 2, 1) := by decide +kernel
theorem dX1_layOne_10 : decode cX1_layOne 10 = .ok (.ldc 181, 2) := by decide +kernel
theorem dX1_layOne_12 : decode cX1_layOne 12 = .ok (.invokevirtual 177, 3) := by decide +kernel
theorem dX1_layOne_15 : decode cX1_layOne 15 = .ok (.istore 4, 2) := by decide +kernel
theorem dX1_layOne_17 : decode cX1_layOne 17 = .ok (.aload_n 1, 1) := by decide +kernel
theorem dX1_layOne_18 : decode cX1_layOne 18 = .ok (.iload_n 2, 1) := by decide +kernel
theorem dX1_layOne_19 : decode cX1_layOne 19 = .ok (.ldc 182, 2) := by decide +kernel
theorem dX1_layOne_21 : decode cX1_layOne 21 = .ok (.invokevirtual 177, 3) := by decide +kernel
theorem dX1_layOne_24 : decode cX1_layOne 24 = .ok (.istore 5, 2) := by decide +kernel
theorem dX1_layOne_26 : decode cX1_layOne 26 = .ok (.aload_n 1, 1) := by decide +kernel
theorem dX1_layOne_27 : decode cX1_layOne 27 = .ok (.iload_n 2, 1) := by decide +kernel
theorem dX1_layOne_28 : decode cX1_layOne 28 = .ok (.ldc 184, 2) := by decide +kernel
theorem dX1_layOne_30 : decode cX1_layOne 30 = .ok (.invokevirtual 177, 3) := by decide +kernel
theorem dX1_layOne_33 : decode cX1_layOne 33 = .ok (.istore 6, 2) := by decide +kernel
theorem dX1_layOne_35 : decode cX1_layOne 35 = .ok (.aload_n 1, 1) := by decide +kernel
theorem dX1_layOne_36 : decode cX1_layOne 36 = .ok (.iload_n 3, 1) := by decide +kernel
theorem dX1_layOne_37 : decode cX1_layOne 37 = .ok (.iconst 3, 1) := by decide +kernel
theorem dX1_layOne_38 : decode cX1_layOne 38 = .ok (.invokevirtual 113, 3) := by decide +kernel
theorem dX1_layOne_41 : decode cX1_layOne 41 = .ok (.ifCond .eq 16, 3) := by decide +kernel
theorem dX1_layOne_44 : decode cX1_layOne 44 = .ok (.aload_n 0, 1) := by decide +kernel
theorem dX1_layOne_45 : decode cX1_layOne 45 = .ok (.getfield 30, 3) := by decide +kernel
theorem dX1_layOne_48 : decode cX1_layOne 48 = .ok (.aload_n 1, 1) := by decide +kernel
theorem dX1_layOne_49 : decode cX1_layOne 49 = .ok (.iload 4, 2) := by decide +kernel
theorem dX1_layOne_51 : decode cX1_layOne 51 = .ok (.invokevirtual 186, 3) := by decide +kernel
theorem dX1_layOne_54 : decode cX1_layOne 54 = .ok (.ifCond .ne 5, 3) := by decide +kernel
theorem dX1_layOne_57 : decode cX1_layOne 57 = .ok (.iconst 0, 1) := by decide +kernel
theorem dX1_layOne_58 : decode cX1_layOne 58 = .ok (.ireturn, 1) := by decide +kernel
theorem dX1_layOne_59 : decode cX1_layOne 59 = .ok (.aload_n 1, 1) := by decide +kernel
theorem dX1_layOne_60 : decode cX1_layOne 60 = .ok (.iload_n 3, 1) := by decide +kernel
theorem dX1_layOne_61 : decode cX1_layOne 61 = .ok (.ldc 97, 2) := by decide +kernel
theorem dX1_layOne_63 : decode cX1_layOne 63 = .ok (.invokevirtual 189, 3) := by decide +kernel
theorem dX1_layOne_66 : decode cX1_layOne 66 = .ok (.ifCond .eq 12, 3) := by decide +kernel
theorem dX1_layOne_69 : decode cX1_layOne 69 = .ok (.aload_n 0, 1) := by decide +kernel
theorem dX1_layOne_70 : decode cX1_layOne 70 = .ok (.aload_n 0, 1) := by decide +kernel
theorem dX1_layOne_71 : decode cX1_layOne 71 = .ok (.getfield 30, 3) := by decide +kernel
theorem dX1_layOne_74 : decode cX1_layOne 74 = .ok (.invokevirtual 192, 3) := by decide +kernel
theorem dX1_layOne_77 : decode cX1_layOne 77 = .ok (.ireturn, 1) := by decide +kernel
theorem dX1_layOne_78 : decode cX1_layOne 78 = .ok (.aload_n 1, 1) := by decide +kernel
theorem dX1_layOne_79 : decode cX1_layOne 79 = .ok (.iload_n 3, 1) := by decide +kernel
theorem dX1_layOne_80 : decode cX1_layOne 80 = .ok (.ldc 195, 2) := by decide +kernel
theorem dX1_layOne_82 : decode cX1_layOne 82 = .ok (.invokevirtual 189, 3) := by decide +kernel
theorem dX1_layOne_85 : decode cX1_layOne 85 = .ok (.ifCond .eq 59, 3) := by decide +kernel
theorem dX1_layOne_88 : decode cX1_layOne 88 = .ok (.aload_n 0, 1) := by decide +kernel
theorem dX1_layOne_89 : decode cX1_layOne 89 = .ok (.aload_n 1, 1) := by decide +kernel
theorem dX1_layOne_90 : decode cX1_layOne 90 = .ok (.iload 5, 2) := by decide +kernel
theorem dX1_layOne_92 : decode cX1_layOne 92 = .ok (.invokevirtual 197, 3) := by decide +kernel
theorem dX1_layOne_95 : decode cX1_layOne 95 = .ok (.ifCond .eq 47, 3) := by decide +kernel
theorem dX1_layOne_98 : decode cX1_layOne 98 = .ok (.aload_n 0, 1) := by decide +kernel
theorem dX1_layOne_99 : decode cX1_layOne 99 = .ok (.aload_n 0, 1) := by decide +kernel
theorem dX1_layOne_100 : decode cX1_layOne 100 = .ok (.getfield 30, 3) := by decide +kernel
theorem dX1_layOne_103 : decode cX1_layOne 103 = .ok (.invokevirtual 192, 3) := by decide +kernel
theorem dX1_layOne_106 : decode cX1_layOne 106 = .ok (.ifCond .eq 36, 3) := by decide +kernel
theorem dX1_layOne_109 : decode cX1_layOne 109 = .ok (.aload_n 0, 1) := by decide +kernel
theorem dX1_layOne_110 : decode cX1_layOne 110 = .ok (.getfield 30, 3) := by decide +kernel
theorem dX1_layOne_113 : decode cX1_layOne 113 = .ok (.aload_n 1, 1) := by decide +kernel
theorem dX1_layOne_114 : decode cX1_layOne 114 = .ok (.iload 4, 2) := by decide +kernel
theorem dX1_layOne_116 : decode cX1_layOne 116 = .ok (.invokevirtual 186, 3) := by decide +kernel
theorem dX1_layOne_119 : decode cX1_layOne 119 = .ok (.ifCond .eq 23, 3) := by decide +kernel
theorem dX1_layOne_122 : decode cX1_layOne 122 = .ok (.aload_n 0, 1) := by decide +kernel
theorem dX1_layOne_123 : decode cX1_layOne 123 = .ok (.aload_n 0, 1) := by decide +kernel
theorem dX1_layOne_124 : decode cX1_layOne 124 = .ok (.getfield 30, 3) := by decide +kernel
theorem dX1_layOne_127 : decode cX1_layOne 127 = .ok (.aload_n 0, 1) := by decide +kernel
theorem dX1_layOne_128 : decode cX1_layOne 128 = .ok (.getfield 18, 3) := by decide +kernel
theorem dX1_layOne_131 : decode cX1_layOne 131 = .ok (.iconst 0, 1) := by decide +kernel
theorem dX1_layOne_132 : decode cX1_layOne 132 = .ok (.invokevirtual 200, 3) := by decide +kernel
theorem dX1_layOne_135 : decode cX1_layOne 135 = .ok (.ifCond .eq 7, 3) := by decide +kernel
theorem dX1_layOne_138 : decode cX1_layOne 138 = .ok (.iconst 1, 1) := by decide +kernel
theorem dX1_layOne_139 : decode cX1_layOne 139 = .ok (.goto 4, 3) := by decide +kernel
theorem dX1_layOne_142 : decode cX1_layOne 142 = .ok (.iconst 0, 1) := by decide +kernel
theorem dX1_layOne_143 : decode cX1_layOne 143 = .ok (.ireturn, 1) := by decide +kernel
theorem dX1_layOne_144 : decode cX1_layOne 144 = .ok (.aload_n 1, 1) := by decide +kernel
theorem dX1_layOne_145 : decode cX1_layOne 145 = .ok (.iload_n 3, 1) := by decide +kernel
theorem dX1_layOne_146 : decode cX1_layOne 146 = .ok (.ldc 204, 2) := by decide +kernel
theorem dX1_layOne_148 : decode cX1_layOne 148 = .ok (.invokevirtual 189, 3) := by decide +kernel
theorem dX1_layOne_151 : decode cX1_layOne 151 = .ok (.ifCond .eq 48, 3) := by decide +kernel
theorem dX1_layOne_154 : decode cX1_layOne 154 = .ok (.aload_n 0, 1) := by decide +kernel
theorem dX1_layOne_155 : decode cX1_layOne 155 = .ok (.aload_n 1, 1) := by decide +kernel
theorem dX1_layOne_156 : decode cX1_layOne 156 = .ok (.iload 5, 2) := by decide +kernel
theorem dX1_layOne_158 : decode cX1_layOne 158 = .ok (.invokevirtual 197, 3) := by decide +kernel
theorem dX1_layOne_161 : decode cX1_layOne 161 = .ok (.ifCond .eq 36, 3) := by decide +kernel
theorem dX1_layOne_164 : decode cX1_layOne 164 = .ok (.aload_n 0, 1) := by decide +kernel
theorem dX1_layOne_165 : decode cX1_layOne 165 = .ok (.getfield 30, 3) := by decide +kernel
theorem dX1_layOne_168 : decode cX1_layOne 168 = .ok (.aload_n 1, 1) := by decide +kernel
theorem dX1_layOne_169 : decode cX1_layOne 169 = .ok (.iload 4, 2) := by decide +kernel
theorem dX1_layOne_171 : decode cX1_layOne 171 = .ok (.invokevirtual 186, 3) := by decide +kernel
theorem dX1_layOne_174 : decode cX1_layOne 174 = .ok (.ifCond .eq 23, 3) := by decide +kernel
theorem dX1_layOne_177 : decode cX1_layOne 177 = .ok (.aload_n 0, 1) := by decide +kernel
theorem dX1_layOne_178 : decode cX1_layOne 178 = .ok (.aload_n 0, 1) := by decide +kernel
theorem dX1_layOne_179 : decode cX1_layOne 179 = .ok (.getfield 30, 3) := by decide +kernel
theorem dX1_layOne_182 : decode cX1_layOne 182 = .ok (.aload_n 0, 1) := by decide +kernel
theorem dX1_layOne_183 : decode cX1_layOne 183 = .ok (.getfield 18, 3) := by decide +kernel
theorem dX1_layOne_186 : decode cX1_layOne 186 = .ok (.iconst 0, 1) := by decide +kernel
theorem dX1_layOne_187 : decode cX1_layOne 187 = .ok (.invokevirtual 200, 3) := by decide +kernel
theorem dX1_layOne_190 : decode cX1_layOne 190 = .ok (.ifCond .eq 7, 3) := by decide +kernel
theorem dX1_layOne_193 : decode cX1_layOne 193 = .ok (.iconst 1, 1) := by decide +kernel
theorem dX1_layOne_194 : decode cX1_layOne 194 = .ok (.goto 4, 3) := by decide +kernel
theorem dX1_layOne_197 : decode cX1_layOne 197 = .ok (.iconst 0, 1) := by decide +kernel
theorem dX1_layOne_198 : decode cX1_layOne 198 = .ok (.ireturn, 1) := by decide +kernel
theorem dX1_layOne_199 : decode cX1_layOne 199 = .ok (.iload 6, 2) := by decide +kernel
theorem dX1_layOne_201 : decode cX1_layOne 201 = .ok (.iconst (-1), 1) := by decide +kernel
theorem dX1_layOne_202 : decode cX1_layOne 202 = .ok (.if_icmp .ne 5, 3) := by decide +kernel
theorem dX1_layOne_205 : decode cX1_layOne 205 = .ok (.iconst 0, 1) := by decide +kernel
theorem dX1_layOne_206 : decode cX1_layOne 206 = .ok (.ireturn, 1) := by decide +kernel
theorem dX1_layOne_207 : decode cX1_layOne 207 = .ok (.aload_n 1, 1) := by decide +kernel
theorem dX1_layOne_208 : decode cX1_layOne 208 = .ok (.iload_n 3, 1) := by decide +kernel
theorem dX1_layOne_209 : decode cX1_layOne 209 = .ok (.ldc 157, 2) := by decide +kernel
theorem dX1_layOne_211 : decode cX1_layOne 211 = .ok (.invokevirtual 189, 3) := by decide +kernel
theorem dX1_layOne_214 : decode cX1_layOne 214 = .ok (.ifCond .eq 15, 3) := by decide +kernel
theorem dX1_layOne_217 : decode cX1_layOne 217 = .ok (.aload_n 0, 1) := by decide +kernel
theorem dX1_layOne_218 : decode cX1_layOne 218 = .ok (.aload_n 0, 1) := by decide +kernel
theorem dX1_layOne_219 : decode cX1_layOne 219 = .ok (.getfield 30, 3) := by decide +kernel
theorem dX1_layOne_222 : decode cX1_layOne 222 = .ok (.aload_n 1, 1) := by decide +kernel
theorem dX1_layOne_223 : decode cX1_layOne 223 = .ok (.iload 6, 2) := by decide +kernel
theorem dX1_layOne_225 : decode cX1_layOne 225 = .ok (.invokevirtual 200, 3) := by decide +kernel
theorem dX1_layOne_228 : decode cX1_layOne 228 = .ok (.ireturn, 1) := by decide +kernel
theorem dX1_layOne_229 : decode cX1_layOne 229 = .ok (.aload_n 1, 1) := by decide +kernel
theorem dX1_layOne_230 : decode cX1_layOne 230 = .ok (.iload_n 3, 1) := by decide +kernel
theorem dX1_layOne_231 : decode cX1_layOne 231 = .ok (.ldc 84, 2) := by decide +kernel
theorem dX1_layOne_233 : decode cX1_layOne 233 = .ok (.invokevirtual 189, 3) := by decide +kernel
theorem dX1_layOne_236 : decode cX1_layOne 236 = .ok (.ifCond .eq 11, 3) := by decide +kernel
theorem dX1_layOne_239 : decode cX1_layOne 239 = .ok (.aload_n 0, 1) := by decide +kernel
theorem dX1_layOne_240 : decode cX1_layOne 240 = .ok (.aload_n 1, 1) := by decide +kernel
theorem dX1_layOne_241 : decode cX1_layOne 241 = .ok (.iload 6, 2) := by decide +kernel
theorem dX1_layOne_243 : decode cX1_layOne 243 = .ok (.invokevirtual 206, 3) := by decide +kernel
theorem dX1_layOne_246 : decode cX1_layOne 246 = .ok (.ireturn, 1) := by decide +kernel
theorem dX1_layOne_247 : decode cX1_layOne 247 = .ok (.aload_n 1, 1) := by decide +kernel
theorem dX1_layOne_248 : decode cX1_layOne 248 = .ok (.iload_n 3, 1) := by decide +kernel
theorem dX1_layOne_249 : decode cX1_layOne 249 = .ok (.ldc 209, 2) := by decide +kernel
theorem dX1_layOne_251 : decode cX1_layOne 251 = .ok (.invokevirtual 189, 3) := by decide +kernel
theorem dX1_layOne_254 : decode cX1_layOne 254 = .ok (.ifCond .eq 17, 3) := by decide +kernel
theorem dX1_layOne_257 : decode cX1_layOne 257 = .ok (.aload_n 0, 1) := by decide +kernel
theorem dX1_layOne_258 : decode cX1_layOne 258 = .ok (.aload_n 1, 1) := by decide +kernel
theorem dX1_layOne_259 : decode cX1_layOne 259 = .ok (.iload 6, 2) := by decide +kernel
theorem dX1_layOne_261 : decode cX1_layOne 261 = .ok (.invokevirtual 211, 3) := by decide +kernel
theorem dX1_layOne_264 : decode cX1_layOne 264 = .ok (.ifCond .eq 7, 3) := by decide +kernel
theorem dX1_layOne_267 : decode cX1_layOne 267 = .ok (.iconst 1, 1) := by decide +kernel
theorem dX1_layOne_268 : decode cX1_layOne 268 = .ok (.goto 4, 3) := by decide +kernel
theorem dX1_layOne_271 : decode cX1_layOne 271 = .ok (.iconst 0, 1) := by decide +kernel
theorem dX1_layOne_272 : decode cX1_layOne 272 = .ok (.ireturn, 1) := by decide +kernel
theorem dX1_holdAt_0 : decode cX1_holdAt 0 = .ok (.aload_n 0, 1) := by decide +kernel
theorem dX1_holdAt_1 : decode cX1_holdAt 1 = .ok (.getfield 30, 3) := by decide +kernel
theorem dX1_holdAt_4 : decode cX1_holdAt 4 = .ok (.aload_n 1, 1) := by decide +kernel
theorem dX1_holdAt_5 : decode cX1_holdAt 5 = .ok (.iload_n 2, 1) := by decide +kernel
theorem dX1_holdAt_6 : decode cX1_holdAt 6 = .ok (.invokevirtual 186, 3) := by decide +kernel
theorem dX1_holdAt_9 : decode cX1_holdAt 9 = .ok (.ifCond .ne 5, 3) := by decide +kernel
theorem dX1_holdAt_12 : decode cX1_holdAt 12 = .ok (.iconst 0, 1) := by decide +kernel
theorem dX1_holdAt_13 : decode cX1_holdAt 13 = .ok (.ireturn, 1) := by decide +kernel
theorem dX1_holdAt_14 : decode cX1_holdAt 14 = .ok (.aload_n 0, 1) := by decide +kernel
theorem dX1_holdAt_15 : decode cX1_holdAt 15 = .ok (.getfield 30, 3) := by decide +kernel
theorem dX1_holdAt_18 : decode cX1_holdAt 18 = .ok (.aload_n 0, 1) := by decide +kernel
theorem dX1_holdAt_19 : decode cX1_holdAt 19 = .ok (.getfield 12, 3) := by decide +kernel
theorem dX1_holdAt_22 : decode cX1_holdAt 22 = .ok (.aload_n 0, 1) := by decide +kernel
theorem dX1_holdAt_23 : decode cX1_holdAt 23 = .ok (.getfield 30, 3) := by decide +kernel
theorem dX1_holdAt_26 : decode cX1_holdAt 26 = .ok (.invokevirtual 61, 3) := by decide +kernel
theorem dX1_holdAt_29 : decode cX1_holdAt 29 = .ok (.invokevirtual 65, 3) := by decide +kernel
theorem dX1_holdAt_32 : decode cX1_holdAt 32 = .ok (.istore_n 3, 1) := by decide +kernel
theorem dX1_holdAt_33 : decode cX1_holdAt 33 = .ok (.aload_n 0, 1) := by decide +kernel
theorem dX1_holdAt_34 : decode cX1_holdAt 34 = .ok (.getfield 18, 3) := by decide +kernel
theorem dX1_holdAt_37 : decode cX1_holdAt 37 = .ok (.aload_n 0, 1) := by decide +kernel
theorem dX1_holdAt_38 : decode cX1_holdAt 38 = .ok (.getfield 12, 3) := by decide +kernel
theorem dX1_holdAt_41 : decode cX1_holdAt 41 = .ok (.iload_n 3, 1) := by decide +kernel
theorem dX1_holdAt_42 : decode cX1_holdAt 42 = .ok (.invokevirtual 46, 3) := by decide +kernel
theorem dX1_holdAt_45 : decode cX1_holdAt 45 = .ok (.iload_n 3, 1) := by decide +kernel
theorem dX1_holdAt_46 : decode cX1_holdAt 46 = .ok (.iconst (-1), 1) := by decide +kernel
theorem dX1_holdAt_47 : decode cX1_holdAt 47 = .ok (.if_icmp .eq 7, 3) := by decide +kernel
theorem dX1_holdAt_50 : decode cX1_holdAt 50 = .ok (.iconst 1, 1) := by decide +kernel
theorem dX1_holdAt_51 : decode cX1_holdAt 51 = .ok (.goto 4, 3) := by decide +kernel
theorem dX1_holdAt_54 : decode cX1_holdAt 54 = .ok (.iconst 0, 1) := by decide +kernel
theorem dX1_holdAt_55 : decode cX1_holdAt 55 = .ok (.ireturn, 1) := by decide +kernel
theorem dX1_exchange_0 : decode cX1_exchange 0 = .ok (.aload_n 0, 1) := by decide +kernel
theorem dX1_exchange_1 : decode cX1_exchange 1 = .ok (.getfield 30, 3) := by decide +kernel
theorem dX1_exchange_4 : decode cX1_exchange 4 = .ok (.aload_n 0, 1) := by decide +kernel
theorem dX1_exchange_5 : decode cX1_exchange 5 = .ok (.getfield 12, 3) := by decide +kernel
theorem dX1_exchange_8 : decode cX1_exchange 8 = .ok (.aload_n 0, 1) := by decide +kernel
theorem dX1_exchange_9 : decode cX1_exchange 9 = .ok (.getfield 30, 3) := by decide +kernel
theorem dX1_exchange_12 : decode cX1_exchange 12 = .ok (.invokevirtual 61, 3) := by decide +kernel
theorem dX1_exchange_15 : decode cX1_exchange 15 = .ok (.invokevirtual 65, 3) := by decide +kernel
theorem dX1_exchange_18 : decode cX1_exchange 18 = .ok (.istore_n 3, 1) := by decide +kernel
theorem dX1_exchange_19 : decode cX1_exchange 19 = .ok (.iload_n 3, 1) := by decide +kernel
theorem dX1_exchange_20 : decode cX1_exchange 20 = .ok (.iconst (-1), 1) := by decide +kernel
theorem dX1_exchange_21 : decode cX1_exchange 21 = .ok (.if_icmp .ne 5, 3) := by decide +kernel
theorem dX1_exchange_24 : decode cX1_exchange 24 = .ok (.iconst 0, 1) := by decide +kernel
theorem dX1_exchange_25 : decode cX1_exchange 25 = .ok (.ireturn, 1) := by decide +kernel
theorem dX1_exchange_26 : decode cX1_exchange 26 = .ok (.aload_n 0, 1) := by decide +kernel
theorem dX1_exchange_27 : decode cX1_exchange 27 = .ok (.getfield 50, 3) := by decide +kernel
theorem dX1_exchange_30 : decode cX1_exchange 30 = .ok (.ifCond .eq 25, 3) := by decide +kernel
theorem dX1_exchange_33 : decode cX1_exchange 33 = .ok (.aload_n 0, 1) := by decide +kernel
theorem dX1_exchange_34 : decode cX1_exchange 34 = .ok (.getfield 30, 3) := by decide +kernel
theorem dX1_exchange_37 : decode cX1_exchange 37 = .ok (.aload_n 0, 1) := by decide +kernel
theorem dX1_exchange_38 : decode cX1_exchange 38 = .ok (.getfield 43, 3) := by decide +kernel
theorem dX1_exchange_41 : decode cX1_exchange 41 = .ok (.invokevirtual 80, 3) := by decide +kernel
theorem dX1_exchange_44 : decode cX1_exchange 44 = .ok (.aload_n 0, 1) := by decide +kernel
theorem dX1_exchange_45 : decode cX1_exchange 45 = .ok (.ldc 84, 2) := by decide +kernel
theorem dX1_exchange_47 : decode cX1_exchange 47 = .ok (.aload_n 0, 1) := by decide +kernel
theorem dX1_exchange_48 : decode cX1_exchange 48 = .ok (.getfield 12, 3) := by decide +kernel
theorem dX1_exchange_51 : decode cX1_exchange 51 = .ok (.iload_n 3, 1) := by decide +kernel
theorem dX1_exchange_52 : decode cX1_exchange 52 = .ok (.invokevirtual 89, 3) := by decide +kernel
theorem dX1_exchange_55 : decode cX1_exchange 55 = .ok (.aload_n 0, 1) := by decide +kernel
theorem dX1_exchange_56 : decode cX1_exchange 56 = .ok (.getfield 12, 3) := by decide +kernel
theorem dX1_exchange_59 : decode cX1_exchange 59 = .ok (.iload_n 3, 1) := by decide +kernel
theorem dX1_exchange_60 : decode cX1_exchange 60 = .ok (.aload_n 1, 1) := by decide +kernel
theorem dX1_exchange_61 : decode cX1_exchange 61 = .ok (.iload_n 2, 1) := by decide +kernel
theorem dX1_exchange_62 : decode cX1_exchange 62 = .ok (.invokevirtual 99, 3) := by decide +kernel
theorem dX1_exchange_65 : decode cX1_exchange 65 = .ok (.iconst 1, 1) := by decide +kernel
theorem dX1_exchange_66 : decode cX1_exchange 66 = .ok (.ireturn, 1) := by decide +kernel
theorem dX1_isThere_0 : decode cX1_isThere 0 = .ok (.aload_n 0, 1) := by decide +kernel
theorem dX1_isThere_1 : decode cX1_isThere 1 = .ok (.getfield 30, 3) := by decide +kernel
theorem dX1_isThere_4 : decode cX1_isThere 4 = .ok (.aload_n 0, 1) := by decide +kernel
theorem dX1_isThere_5 : decode cX1_isThere 5 = .ok (.getfield 12, 3) := by decide +kernel
theorem dX1_isThere_8 : decode cX1_isThere 8 = .ok (.aload_n 0, 1) := by decide +kernel
theorem dX1_isThere_9 : decode cX1_isThere 9 = .ok (.getfield 30, 3) := by decide +kernel
theorem dX1_isThere_12 : decode cX1_isThere 12 = .ok (.invokevirtual 61, 3) := by decide +kernel
theorem dX1_isThere_15 : decode cX1_isThere 15 = .ok (.invokevirtual 65, 3) := by decide +kernel
theorem dX1_isThere_18 : decode cX1_isThere 18 = .ok (.istore_n 3, 1) := by decide +kernel
theorem dX1_isThere_19 : decode cX1_isThere 19 = .ok (.iload_n 3, 1) := by decide +kernel
theorem dX1_isThere_20 : decode cX1_isThere 20 = .ok (.iconst (-1), 1) := by decide +kernel
theorem dX1_isThere_21 : decode cX1_isThere 21 = .ok (.if_icmp .eq 17, 3) := by decide +kernel
theorem dX1_isThere_24 : decode cX1_isThere 24 = .ok (.aload_n 0, 1) := by decide +kernel
theorem dX1_isThere_25 : decode cX1_isThere 25 = .ok (.getfield 12, 3) := by decide +kernel
theorem dX1_isThere_28 : decode cX1_isThere 28 = .ok (.iload_n 3, 1) := by decide +kernel
theorem dX1_isThere_29 : decode cX1_isThere 29 = .ok (.aload_n 1, 1) := by decide +kernel
theorem dX1_isThere_30 : decode cX1_isThere 30 = .ok (.iload_n 2, 1) := by decide +kernel
theorem dX1_isThere_31 : decode cX1_isThere 31 = .ok (.iconst 0, 1) := by decide +kernel
theorem dX1_isThere_32 : decode cX1_isThere 32 = .ok (.invokevirtual 214, 3) := by decide +kernel
theorem dX1_isThere_35 : decode cX1_isThere 35 = .ok (.ifCond .ne 5, 3) := by decide +kernel
theorem dX1_isThere_38 : decode cX1_isThere 38 = .ok (.iconst 0, 1) := by decide +kernel
theorem dX1_isThere_39 : decode cX1_isThere 39 = .ok (.ireturn, 1) := by decide +kernel
theorem dX1_isThere_40 : decode cX1_isThere 40 = .ok (.aload_n 0, 1) := by decide +kernel
theorem dX1_isThere_41 : decode cX1_isThere 41 = .ok (.getfield 50, 3) := by decide +kernel
theorem dX1_isThere_44 : decode cX1_isThere 44 = .ok (.ifCond .eq 22, 3) := by decide +kernel
theorem dX1_isThere_47 : decode cX1_isThere 47 = .ok (.aload_n 0, 1) := by decide +kernel
theorem dX1_isThere_48 : decode cX1_isThere 48 = .ok (.getfield 30, 3) := by decide +kernel
theorem dX1_isThere_51 : decode cX1_isThere 51 = .ok (.aload_n 0, 1) := by decide +kernel
theorem dX1_isThere_52 : decode cX1_isThere 52 = .ok (.getfield 43, 3) := by decide +kernel
theorem dX1_isThere_55 : decode cX1_isThere 55 = .ok (.invokevirtual 80, 3) := by decide +kernel
theorem dX1_isThere_58 : decode cX1_isThere 58 = .ok (.aload_n 0, 1) := by decide +kernel
theorem dX1_isThere_59 : decode cX1_isThere 59 = .ok (.ldc 209, 2) := by decide +kernel
theorem dX1_isThere_61 : decode cX1_isThere 61 = .ok (.aload_n 1, 1) := by decide +kernel
theorem dX1_isThere_62 : decode cX1_isThere 62 = .ok (.iload_n 2, 1) := by decide +kernel
theorem dX1_isThere_63 : decode cX1_isThere 63 = .ok (.invokevirtual 89, 3) := by decide +kernel
theorem dX1_isThere_66 : decode cX1_isThere 66 = .ok (.iconst 1, 1) := by decide +kernel
theorem dX1_isThere_67 : decode cX1_isThere 67 = .ok (.ireturn, 1) := by decide +kernel
theorem dX4_init_0 : decode cX4_init 0 = .ok (.aload_n 0, 1) := by decide +kernel
theorem dX4_init_1 : decode cX4_init 1 = .ok (.invokespecial 3, 3) := by decide +kernel
theorem dX4_init_4 : decode cX4_init 4 = .ok (.aload_n 0, 1) := by decide +kernel
theorem dX4_init_5 : decode cX4_init 5 = .ok (.new 9, 3) := by decide +kernel
theorem dX4_init_8 : decode cX4_init 8 = .ok (.dup, 1) := by decide +kernel
theorem dX4_init_9 : decode cX4_init 9 = .ok (.invokespecial 11, 3) := by decide +kernel
theorem dX4_init_12 : decode cX4_init 12 = .ok (.putfield 12, 3) := by decide +kernel
theorem dX4_init_15 : decode cX4_init 15 = .ok (.aload_n 0, 1) := by decide +kernel
theorem dX4_init_16 : decode cX4_init 16 = .ok (.new 18, 3) := by decide +kernel
theorem dX4_init_19 : decode cX4_init 19 = .ok (.dup, 1) := by decide +kernel
theorem dX4_init_20 : decode cX4_init 20 = .ok (.sipush 400, 3) := by decide +kernel
theorem dX4_init_23 : decode cX4_init 23 = .ok (.invokespecial 20, 3) := by decide +kernel
theorem dX4_init_26 : decode cX4_init 26 = .ok (.putfield 23, 3) := by decide +kernel
theorem dX4_init_29 : decode cX4_init 29 = .ok (.aload_n 0, 1) := by decide +kernel
theorem dX4_init_30 : decode cX4_init 30 = .ok (.new 18, 3) := by decide +kernel
theorem dX4_init_33 : decode cX4_init 33 = .ok (.dup, 1) := by decide +kernel
theorem dX4_init_34 : decode cX4_init 34 = .ok (.ldc 27, 2) := by decide +kernel
theorem dX4_init_36 : decode cX4_init 36 = .ok (.invokespecial 20, 3) := by decide +kernel
theorem dX4_init_39 : decode cX4_init 39 = .ok (.putfield 28, 3) := by decide +kernel
theorem dX4_init_42 : decode cX4_init 42 = .ok (.aload_n 0, 1) := by decide +kernel
theorem dX4_init_43 : decode cX4_init 43 = .ok (.sipush 200, 3) := by decide +kernel
theorem dX4_init_46 : decode cX4_init 46 = .ok (.newarray .int, 2) := by decide +kernel
theorem dX4_init_48 : decode cX4_init 48 = .ok (.putfield 31, 3) := by decide +kernel
theorem dX4_init_51 : decode cX4_init 51 = .ok (.aload_n 0, 1) := by decide +kernel
theorem dX4_init_52 : decode cX4_init 52 = .ok (.aload_n 0, 1) := by decide +kernel
theorem dX4_init_53 : decode cX4_init 53 = .ok (.getfield 12, 3) := by decide +kernel
theorem dX4_init_56 : decode cX4_init 56 = .ok (.putfield 35, 3) := by decide +kernel
theorem dX4_init_59 : decode cX4_init 59 = .ok (.aload_n 0, 1) := by decide +kernel
theorem dX4_init_60 : decode cX4_init 60 = .ok (.aload_n 0, 1) := by decide +kernel
theorem dX4_init_61 : decode cX4_init 61 = .ok (.getfield 12, 3) := by decide +kernel
theorem dX4_init_64 : decode cX4_init 64 = .ok (.putfield 38, 3) := by decide +kernel
theorem dX4_init_67 : decode cX4_init 67 = .ok (.aload_n 0, 1) := by decide +kernel
theorem dX4_init_68 : decode cX4_init 68 = .ok (.aload_n 0, 1) := by decide +kernel
theorem dX4_init_69 : decode cX4_init 69 = .ok (.getfield 12, 3) := by decide +kernel
theorem dX4_init_72 : decode cX4_init 72 = .ok (.putfield 41, 3) := by decide +kernel
theorem dX4_init_75 : decode cX4_init 75 = .ok (.return_, 1) := by decide +kernel
theorem dX4_result_0 : decode cX4_result 0 = .ok (.aload_n 0, 1) := by decide +kernel
theorem dX4_result_1 : decode cX4_result 1 = .ok (.getfield 12, 3) := by decide +kernel
theorem dX4_result_4 : decode cX4_result 4 = .ok (.areturn, 1) := by decide +kernel
theorem dX4_count_0 : decode cX4_count 0 = .ok (.aload_n 0, 1) := by decide +kernel
theorem dX4_count_1 : decode cX4_count 1 = .ok (.getfield 44, 3) := by decide +kernel
theorem dX4_count_4 : decode cX4_count 4 = .ok (.ireturn, 1) := by decide +kernel
theorem dX4_forget_0 : decode cX4_forget 0 = .ok (.aload_n 0, 1) := by decide +kernel
theorem dX4_forget_1 : decode cX4_forget 1 = .ok (.iconst 0, 1) := by decide +kernel
theorem dX4_forget_2 : decode cX4_forget 2 = .ok (.putfield 44, 3) := by decide +kernel
theorem dX4_forget_5 : decode cX4_forget 5 = .ok (.aload_n 0, 1) := by decide +kernel
theorem dX4_forget_6 : decode cX4_forget 6 = .ok (.getfield 28, 3) := by decide +kernel
theorem dX4_forget_9 : decode cX4_forget 9 = .ok (.invokevirtual 48, 3) := by decide +kernel
theorem dX4_forget_12 : decode cX4_forget 12 = .ok (.return_, 1) := by decide +kernel
theorem dX4_unite_0 : decode cX4_unite 0 = .ok (.aload_n 0, 1) := by decide +kernel
theorem dX4_unite_1 : decode cX4_unite 1 = .ok (.aload_n 1, 1) := by decide +kernel
theorem dX4_unite_2 : decode cX4_unite 2 = .ok (.putfield 35, 3) := by decide +kernel
theorem dX4_unite_5 : decode cX4_unite 5 = .ok (.aload_n 0, 1) := by decide +kernel
theorem dX4_unite_6 : decode cX4_unite 6 = .ok (.aload_n 2, 1) := by decide +kernel
theorem dX4_unite_7 : decode cX4_unite 7 = .ok (.putfield 38, 3) := by decide +kernel
theorem dX4_unite_10 : decode cX4_unite 10 = .ok (.aload_n 0, 1) := by decide +kernel
theorem dX4_unite_11 : decode cX4_unite 11 = .ok (.aload_n 3, 1) := by decide +kernel
theorem dX4_unite_12 : decode cX4_unite 12 = .ok (.putfield 41, 3) := by decide +kernel
theorem dX4_unite_15 : decode cX4_unite 15 = .ok (.aload_n 0, 1) := by decide +kernel
theorem dX4_unite_16 : decode cX4_unite 16 = .ok (.iconst 0, 1) := by decide +kernel
theorem dX4_unite_17 : decode cX4_unite 17 = .ok (.putfield 59, 3) := by decide +kernel
theorem dX4_unite_20 : decode cX4_unite 20 = .ok (.aload_n 0, 1) := by decide +kernel
theorem dX4_unite_21 : decode cX4_unite 21 = .ok (.getfield 12, 3) := by decide +kernel
theorem dX4_unite_24 : decode cX4_unite 24 = .ok (.invokevirtual 63, 3) := by decide +kernel
theorem dX4_unite_27 : decode cX4_unite 27 = .ok (.aload_n 0, 1) := by decide +kernel
theorem dX4_unite_28 : decode cX4_unite 28 = .ok (.getfield 23, 3) := by decide +kernel
theorem dX4_unite_31 : decode cX4_unite 31 = .ok (.invokevirtual 48, 3) := by decide +kernel
theorem dX4_unite_34 : decode cX4_unite 34 = .ok (.aload_n 0, 1) := by decide +kernel
theorem dX4_unite_35 : decode cX4_unite 35 = .ok (.iconst 0, 1) := by decide +kernel
theorem dX4_unite_36 : decode cX4_unite 36 = .ok (.iconst 0, 1) := by decide +kernel
theorem dX4_unite_37 : decode cX4_unite 37 = .ok (.iconst 0, 1) := by decide +kernel
theorem dX4_unite_38 : decode cX4_unite 38 = .ok (.iconst 0, 1) := by decide +kernel
theorem dX4_unite_39 : decode cX4_unite 39 = .ok (.invokevirtual 64, 3) := by decide +kernel
theorem dX4_unite_42 : decode cX4_unite 42 = .ok (.aload_n 0, 1) := by decide +kernel
theorem dX4_unite_43 : decode cX4_unite 43 = .ok (.getfield 59, 3) := by decide +kernel
theorem dX4_unite_46 : decode cX4_unite 46 = .ok (.ifCond .ne 7, 3) := by decide +kernel
theorem dX4_unite_49 : decode cX4_unite 49 = .ok (.iconst 1, 1) := by decide +kernel
theorem dX4_unite_50 : decode cX4_unite 50 = .ok (.goto 4, 3) := by decide +kernel
theorem dX4_unite_53 : decode cX4_unite 53 = .ok (.iconst 0, 1) := by decide +kernel
theorem dX4_unite_54 : decode cX4_unite 54 = .ok (.ireturn, 1) := by decide +kernel
theorem dX4_alike_0 : decode cX4_alike 0 = .ok (.iload_n 1, 1) := by decide +kernel
theorem dX4_alike_1 : decode cX4_alike 1 = .ok (.iconst (-1), 1) := by decide +kernel
theorem dX4_alike_2 : decode cX4_alike 2 = .ok (.if_icmp .eq 8, 3) := by decide +kernel
theorem dX4_alike_5 : decode cX4_alike 5 = .ok (.iload_n 3, 1) := by decide +kernel
theorem dX4_alike_6 : decode cX4_alike 6 = .ok (.iconst (-1), 1) := by decide +kernel
theorem dX4_alike_7 : decode cX4_alike 7 = .ok (.if_icmp .ne 16, 3) := by decide +kernel
theorem dX4_alike_10 : decode cX4_alike 10 = .ok (.iload_n 1, 1) := by decide +kernel
theorem dX4_alike_11 : decode cX4_alike 11 = .ok (.iload_n 3, 1) := by decide +kernel
theorem dX4_alike_12 : decode cX4_alike 12 = .ok (.if_icmp .ne 7, 3) := by decide +kernel
theorem dX4_alike_15 : decode cX4_alike 15 = .ok (.iconst 1, 1) := by decide +kernel
theorem dX4_alike_16 : decode cX4_alike 16 = .ok (.goto 15, 3) := by decide +kernel
theorem dX4_alike_19 : decode cX4_alike 19 = .ok (.iconst 0, 1) := by decide +kernel
theorem dX4_alike_20 : decode cX4_alike 20 = .ok (.goto 11, 3) := by decide +kernel
theorem dX4_alike_23 : decode cX4_alike 23 = .ok (.aload_n 0, 1) := by decide +kernel
theorem dX4_alike_24 : decode cX4_alike 24 = .ok (.iload_n 1, 1) := by decide +kernel
theorem dX4_alike_25 : decode cX4_alike 25 = .ok (.aload_n 2, 1) := by decide +kernel
theorem dX4_alike_26 : decode cX4_alike 26 = .ok (.iload_n 3, 1) := by decide +kernel
theorem dX4_alike_27 : decode cX4_alike 27 = .ok (.iconst 0, 1) := by decide +kernel
theorem dX4_alike_28 : decode cX4_alike 28 = .ok (.invokevirtual 68, 3) := by decide +kernel
theorem dX4_alike_31 : decode cX4_alike 31 = .ok (.ireturn, 1) := by decide +kernel
theorem dX4_uniteAt_0 : decode cX4_uniteAt 0 = .ok (.aload_n 0, 1) := by decide +kernel
theorem dX4_uniteAt_1 : decode cX4_uniteAt 1 = .ok (.getfield 38, 3) := by decide +kernel
theorem dX4_uniteAt_4 : decode cX4_uniteAt 4 = .ok (.iload_n 2, 1) := by decide +kernel
theorem dX4_uniteAt_5 : decode cX4_uniteAt 5 = .ok (.aload_n 0, 1) := by decide +kernel
theorem dX4_uniteAt_6 : decode cX4_uniteAt 6 = .ok (.getfield 41, 3) := by decide +kernel
theorem dX4_uniteAt_9 : decode cX4_uniteAt 9 = .ok (.iload_n 3, 1) := by decide +kernel
theorem dX4_uniteAt_10 : decode cX4_uniteAt 10 = .ok (.invokestatic 72, 3) := by decide +kernel
theorem dX4_uniteAt_13 : decode cX4_uniteAt 13 = .ok (.ifCond .ne 19, 3) := by decide +kernel
theorem dX4_uniteAt_16 : decode cX4_uniteAt 16 = .ok (.aload_n 0, 1) := by decide +kernel
theorem dX4_uniteAt_17 : decode cX4_uniteAt 17 = .ok (.getfield 41, 3) := by decide +kernel
theorem dX4_uniteAt_20 : decode cX4_uniteAt 20 = .ok (.iload_n 3, 1) := by decide +kernel
theorem dX4_uniteAt_21 : decode cX4_uniteAt 21 = .ok (.aload_n 0, 1) := by decide +kernel
theorem dX4_uniteAt_22 : decode cX4_uniteAt 22 = .ok (.getfield 35, 3) := by decide +kernel
theorem dX4_uniteAt_25 : decode cX4_uniteAt 25 = .ok (.iload_n 1, 1) := by decide +kernel
theorem dX4_uniteAt_26 : decode cX4_uniteAt 26 = .ok (.invokestatic 72, 3) := by decide +kernel
theorem dX4_uniteAt_29 : decode cX4_uniteAt 29 = .ok (.ifCond .eq 15, 3) := by decide +kernel
theorem dX4_uniteAt_32 : decode cX4_uniteAt 32 = .ok (.aload_n 0, 1) := by decide +kernel
theorem dX4_uniteAt_33 : decode cX4_uniteAt 33 = .ok (.aload_n 0, 1) := by decide +kernel
theorem dX4_uniteAt_34 : decode cX4_uniteAt 34 = .ok (.getfield 38, 3) := by decide +kernel
theorem dX4_uniteAt_37 : decode cX4_uniteAt 37 = .ok (.iload_n 2, 1) := by decide +kernel
theorem dX4_uniteAt_38 : decode cX4_uniteAt 38 = .ok (.invokevirtual 76, 3) := by decide +kernel
theorem dX4_uniteAt_41 : decode cX4_uniteAt 41 = .ok (.goto 95, 3) := by decide +kernel
theorem dX4_uniteAt_44 : decode cX4_uniteAt 44 = .ok (.aload_n 0, 1) := by decide +kernel
theorem dX4_uniteAt_45 : decode cX4_uniteAt 45 = .ok (.getfield 38, 3) := by decide +kernel
theorem dX4_uniteAt_48 : decode cX4_uniteAt 48 = .ok (.iload_n 2, 1) := by decide +kernel
theorem dX4_uniteAt_49 : decode cX4_uniteAt 49 = .ok (.aload_n 0, 1) := by decide +kernel
theorem dX4_uniteAt_50 : decode cX4_uniteAt 50 = .ok (.getfield 35, 3) := by decide +kernel
theorem dX4_uniteAt_53 : decode cX4_uniteAt 53 = .ok (.iload_n 1, 1) := by decide +kernel
theorem dX4_uniteAt_54 : decode cX4_uniteAt 54 = .ok (.invokestatic 72, 3) := by decide +kernel
theorem dX4_uniteAt_57 : decode cX4_uniteAt 57 = .ok (.ifCond .eq 15, 3) := by decide +kernel
theorem dX4_uniteAt_60 : decode cX4_uniteAt 60 = .ok (.aload_n 0, 1) := by decide +kernel
theorem dX4_uniteAt_61 : decode cX4_uniteAt 61 = .ok (.aload_n 0, 1) := by decide +kernel
theorem dX4_uniteAt_62 : decode cX4_uniteAt 62 = .ok (.getfield 41, 3) := by decide +kernel
theorem dX4_uniteAt_65 : decode cX4_uniteAt 65 = .ok (.iload_n 3, 1) := by decide +kernel
theorem dX4_uniteAt_66 : decode cX4_uniteAt 66 = .ok (.invokevirtual 76, 3) := by decide +kernel
theorem dX4_uniteAt_69 : decode cX4_uniteAt 69 = .ok (.goto 67, 3) := by decide +kernel
theorem dX4_uniteAt_72 : decode cX4_uniteAt 72 = .ok (.aload_n 0, 1) := by decide +kernel
theorem dX4_uniteAt_73 : decode cX4_uniteAt 73 = .ok (.getfield 38, 3) := by decide +kernel
theorem dX4_uniteAt_76 : decode cX4_uniteAt 76 = .ok (.iload_n 2, 1) := by decide +kernel
theorem dX4_uniteAt_77 : decode cX4_uniteAt 77 = .ok (.iconst 5, 1) := by decide +kernel
theorem dX4_uniteAt_78 : decode cX4_uniteAt 78 = .ok (.invokevirtual 80, 3) := by decide +kernel
theorem dX4_uniteAt_81 : decode cX4_uniteAt 81 = .ok (.ifCond .eq 51, 3) := by decide +kernel
theorem dX4_uniteAt_84 : decode cX4_uniteAt 84 = .ok (.aload_n 0, 1) := by decide +kernel
theorem dX4_uniteAt_85 : decode cX4_uniteAt 85 = .ok (.getfield 41, 3) := by decide +kernel
theorem dX4_uniteAt_88 : decode cX4_uniteAt 88 = .ok (.iload_n 3, 1) := by decide +kernel
theorem dX4_uniteAt_89 : decode cX4_uniteAt 89 = .ok (.iconst 5, 1) := by decide +kernel
theorem dX4_uniteAt_90 : decode cX4_uniteAt 90 = .ok (.invokevirtual 80, 3) := by decide +kernel
theorem dX4_uniteAt_93 : decode cX4_uniteAt 93 = .ok (.ifCond .eq 39, 3) := by decide +kernel
theorem dX4_uniteAt_96 : decode cX4_uniteAt 96 = .ok (.iload_n 1, 1) := by decide +kernel
theorem dX4_uniteAt_97 : decode cX4_uniteAt 97 = .ok (.iconst (-1), 1) := by decide +kernel
theorem dX4_uniteAt_98 : decode cX4_uniteAt 98 = .ok (.if_icmp .eq 15, 3) := by decide +kernel
theorem dX4_uniteAt_101 : decode cX4_uniteAt 101 = .ok (.aload_n 0, 1) := by decide +kernel
theorem dX4_uniteAt_102 : decode cX4_uniteAt 102 = .ok (.getfield 35, 3) := by decide +kernel
theorem dX4_uniteAt_105 : decode cX4_uniteAt 105 = .ok (.iload_n 1, 1) := by decide +kernel
theorem dX4_uniteAt_106 : decode cX4_uniteAt 106 = .ok (.iconst 5, 1) := by decide +kernel
theorem dX4_uniteAt_107 : decode cX4_uniteAt 107 = .ok (.invokevirtual 80, 3) := by decide +kernel
theorem dX4_uniteAt_110 : decode cX4_uniteAt 110 = .ok (.ifCond .eq 22, 3) := by decide +kernel
theorem dX4_uniteAt_113 : decode cX4_uniteAt 113 = .ok (.iload 4, 2) := by decide +kernel
theorem dX4_uniteAt_115 : decode cX4_uniteAt 115 = .ok (.bipush 12, 2) := by decide +kernel
theorem dX4_uniteAt_117 : decode cX4_uniteAt 117 = .ok (.if_icmp .gt 15, 3) := by decide +kernel
theorem dX4_uniteAt_120 : decode cX4_uniteAt 120 = .ok (.aload_n 0, 1) := by decide +kernel
theorem dX4_uniteAt_121 : decode cX4_uniteAt 121 = .ok (.iload_n 1, 1) := by decide +kernel
theorem dX4_uniteAt_122 : decode cX4_uniteAt 122 = .ok (.iload_n 2, 1) := by decide +kernel
theorem dX4_uniteAt_123 : decode cX4_uniteAt 123 = .ok (.iload_n 3, 1) := by decide +kernel
theorem dX4_uniteAt_124 : decode cX4_uniteAt 124 = .ok (.iload 4, 2) := by decide +kernel
theorem dX4_uniteAt_126 : decode cX4_uniteAt 126 = .ok (.invokevirtual 84, 3) := by decide +kernel
theorem dX4_uniteAt_129 : decode cX4_uniteAt 129 = .ok (.goto 7, 3) := by decide +kernel
theorem dX4_uniteAt_132 : decode cX4_uniteAt 132 = .ok (.aload_n 0, 1) := by decide +kernel
theorem dX4_uniteAt_133 : decode cX4_uniteAt 133 = .ok (.invokevirtual 87, 3) := by decide +kernel
theorem dX4_uniteAt_136 : decode cX4_uniteAt 136 = .ok (.return_, 1) := by decide +kernel
theorem dX4_accept_0 : decode cX4_accept 0 = .ok (.iload_n 2, 1) := by decide +kernel
theorem dX4_accept_1 : decode cX4_accept 1 = .ok (.iconst (-1), 1) := by decide +kernel
theorem dX4_accept_2 : decode cX4_accept 2 = .ok (.if_icmp .eq 13, 3) := by decide +kernel
theorem dX4_accept_5 : decode cX4_accept 5 = .ok (.aload_n 0, 1) := by decide +kernel
theorem dX4_accept_6 : decode cX4_accept 6 = .ok (.getfield 12, 3) := by decide +kernel
theorem dX4_accept_9 : decode cX4_accept 9 = .ok (.aload_n 1, 1) := by decide +kernel
theorem dX4_accept_10 : decode cX4_accept 10 = .ok (.iload_n 2, 1) := by decide +kernel
theorem dX4_accept_11 : decode cX4_accept 11 = .ok (.invokevirtual 90, 3) := by decide +kernel
theorem dX4_accept_14 : decode cX4_accept 14 = .ok (.pop, 1) := by decide +kernel
theorem dX4_accept_15 : decode cX4_accept 15 = .ok (.return_, 1) := by decide +kernel
theorem dX4_uniteMaps_0 : decode cX4_uniteMaps 0 = .ok (.aload_n 0, 1) := by decide +kernel
theorem dX4_uniteMaps_1 : decode cX4_uniteMaps 1 = .ok (.getfield 12, 3) := by decide +kernel
theorem dX4_uniteMaps_4 : decode cX4_uniteMaps 4 = .ok (.iconst 5, 1) := by decide +kernel
theorem dX4_uniteMaps_5 : decode cX4_uniteMaps 5 = .ok (.invokevirtual 94, 3) := by decide +kernel
theorem dX4_uniteMaps_8 : decode cX4_uniteMaps 8 = .ok (.istore 5, 2) := by decide +kernel
theorem dX4_uniteMaps_10 : decode cX4_uniteMaps 10 = .ok (.aload_n 0, 1) := by decide +kernel
theorem dX4_uniteMaps_11 : decode cX4_uniteMaps 11 = .ok (.getfield 12, 3) := by decide +kernel
theorem dX4_uniteMaps_14 : decode cX4_uniteMaps 14 = .ok (.iload 5, 2) := by decide +kernel
theorem dX4_uniteMaps_16 : decode cX4_uniteMaps 16 = .ok (.aload_n 0, 1) := by decide +kernel
theorem dX4_uniteMaps_17 : decode cX4_uniteMaps 17 = .ok (.getfield 38, 3) := by decide +kernel
theorem dX4_uniteMaps_20 : decode cX4_uniteMaps 20 = .ok (.iload_n 2, 1) := by decide +kernel
theorem dX4_uniteMaps_21 : decode cX4_uniteMaps 21 = .ok (.invokevirtual 97, 3) := by decide +kernel
theorem dX4_uniteMaps_24 : decode cX4_uniteMaps 24 = .ok (.aload_n 0, 1) := by decide +kernel
theorem dX4_uniteMaps_25 : decode cX4_uniteMaps 25 = .ok (.getfield 23, 3) := by decide +kernel
theorem dX4_uniteMaps_28 : decode cX4_uniteMaps 28 = .ok (.invokevirtual 101, 3) := by decide +kernel
theorem dX4_uniteMaps_31 : decode cX4_uniteMaps 31 = .ok (.istore 6, 2) := by decide +kernel
theorem dX4_uniteMaps_33 : decode cX4_uniteMaps 33 = .ok (.aload_n 0, 1) := by decide +kernel
theorem dX4_uniteMaps_34 : decode cX4_uniteMaps 34 = .ok (.getfield 35, 3) := by decide +kernel
theorem dX4_uniteMaps_37 : decode cX4_uniteMaps 37 = .ok (.iload_n 1, 1) := by decide +kernel
theorem dX4_uniteMaps_38 : decode cX4_uniteMaps 38 = .ok (.invokevirtual 105, 3) := by decide +kernel
theorem dX4_uniteMaps_41 : decode cX4_uniteMaps 41 = .ok (.istore 7, 2) := by decide +kernel
theorem dX4_uniteMaps_43 : decode cX4_uniteMaps 43 = .ok (.iconst 0, 1) := by decide +kernel
theorem dX4_uniteMaps_44 : decode cX4_uniteMaps 44 = .ok (.istore 8, 2) := by decide +kernel
theorem dX4_uniteMaps_46 : decode cX4_uniteMaps 46 = .ok (.iload 7, 2) := by decide +kernel
theorem dX4_uniteMaps_48 : decode cX4_uniteMaps 48 = .ok (.iconst (-1), 1) := by decide +kernel
theorem dX4_uniteMaps_49 : decode cX4_uniteMaps 49 = .ok (.if_icmp .eq 88, 3) := by decide +kernel
theorem dX4_uniteMaps_52 : decode cX4_uniteMaps 52 = .ok (.iload 8, 2) := by decide +kernel
theorem dX4_uniteMaps_54 : decode cX4_uniteMaps 54 = .ok (.bipush 100, 2) := by decide +kernel
theorem dX4_uniteMaps_56 : decode cX4_uniteMaps 56 = .ok (.if_icmp .ge 81, 3) := by decide +kernel
theorem dX4_uniteMaps_59 : decode cX4_uniteMaps 59 = .ok (.aload_n 0, 1) := by decide +kernel
theorem dX4_uniteMaps_60 : decode cX4_uniteMaps 60 = .ok (.getfield 35, 3) := by decide +kernel
theorem dX4_uniteMaps_63 : decode cX4_uniteMaps 63 = .ok (.iload 7, 2) := by decide +kernel
theorem dX4_uniteMaps_65 : decode cX4_uniteMaps 65 = .ok (.aload_n 0, 1) := by decide +kernel
theorem dX4_uniteMaps_66 : decode cX4_uniteMaps 66 = .ok (.getfield 23, 3) := by decide +kernel
theorem dX4_uniteMaps_69 : decode cX4_uniteMaps 69 = .ok (.invokevirtual 108, 3) := by decide +kernel
theorem dX4_uniteMaps_72 : decode cX4_uniteMaps 72 = .ok (.aload_n 0, 1) := by decide +kernel
theorem dX4_uniteMaps_73 : decode cX4_uniteMaps 73 = .ok (.iload 7, 2) := by decide +kernel
theorem dX4_uniteMaps_75 : decode cX4_uniteMaps 75 = .ok (.aload_n 0, 1) := by decide +kernel
theorem dX4_uniteMaps_76 : decode cX4_uniteMaps 76 = .ok (.getfield 38, 3) := by decide +kernel
theorem dX4_uniteMaps_79 : decode cX4_uniteMaps 79 = .ok (.iload_n 2, 1) := by decide +kernel
theorem dX4_uniteMaps_80 : decode cX4_uniteMaps 80 = .ok (.aload_n 0, 1) := by decide +kernel
theorem dX4_uniteMaps_81 : decode cX4_uniteMaps 81 = .ok (.getfield 35, 3) := by decide +kernel
theorem dX4_uniteMaps_84 : decode cX4_uniteMaps 84 = .ok (.iload 7, 2) := by decide +kernel
theorem dX4_uniteMaps_86 : decode cX4_uniteMaps 86 = .ok (.invokevirtual 112, 3) := by decide +kernel
theorem dX4_uniteMaps_89 : decode cX4_uniteMaps 89 = .ok (.aload_n 0, 1) := by decide +kernel
theorem dX4_uniteMaps_90 : decode cX4_uniteMaps 90 = .ok (.getfield 41, 3) := by decide +kernel
theorem dX4_uniteMaps_93 : decode cX4_uniteMaps 93 = .ok (.iload_n 3, 1) := by decide +kernel
theorem dX4_uniteMaps_94 : decode cX4_uniteMaps 94 = .ok (.aload_n 0, 1) := by decide +kernel
theorem dX4_uniteMaps_95 : decode cX4_uniteMaps 95 = .ok (.getfield 35, 3) := by decide +kernel
theorem dX4_uniteMaps_98 : decode cX4_uniteMaps 98 = .ok (.iload 7, 2) := by decide +kernel
theorem dX4_uniteMaps_100 : decode cX4_uniteMaps 100 = .ok (.invokevirtual 112, 3) := by decide +kernel
theorem dX4_uniteMaps_103 : decode cX4_uniteMaps 103 = .ok (.iload 4, 2) := by decide +kernel
theorem dX4_uniteMaps_105 : decode cX4_uniteMaps 105 = .ok (.iconst 1, 1) := by decide +kernel
theorem dX4_uniteMaps_106 : decode cX4_uniteMaps 106 = .ok (.iadd, 1) := by decide +kernel
theorem dX4_uniteMaps_107 : decode cX4_uniteMaps 107 = .ok (.invokevirtual 64, 3) := by decide +kernel
theorem dX4_uniteMaps_110 : decode cX4_uniteMaps 110 = .ok (.aload_n 0, 1) := by decide +kernel
theorem dX4_uniteMaps_111 : decode cX4_uniteMaps 111 = .ok (.getfield 23, 3) := by decide +kernel
theorem dX4_uniteMaps_114 : decode cX4_uniteMaps 114 = .ok (.iload 6, 2) := by decide +kernel
theorem dX4_uniteMaps_116 : decode cX4_uniteMaps 116 = .ok (.invokevirtual 116, 3) := by decide +kernel
theorem dX4_uniteMaps_119 : decode cX4_uniteMaps 119 = .ok (.aload_n 0, 1) := by decide +kernel
theorem dX4_uniteMaps_120 : decode cX4_uniteMaps 120 = .ok (.getfield 35, 3) := by decide +kernel
theorem dX4_uniteMaps_123 : decode cX4_uniteMaps 123 = .ok (.iload_n 1, 1) := by decide +kernel
theorem dX4_uniteMaps_124 : decode cX4_uniteMaps 124 = .ok (.iload 7, 2) := by decide +kernel
theorem dX4_uniteMaps_126 : decode cX4_uniteMaps 126 = .ok (.invokevirtual 119, 3) := by decide +kernel
theorem dX4_uniteMaps_129 : decode cX4_uniteMaps 129 = .ok (.istore 7, 2) := by decide +kernel
theorem dX4_uniteMaps_131 : decode cX4_uniteMaps 131 = .ok (.iinc 8 1, 3) := by decide +kernel
theorem dX4_uniteMaps_134 : decode cX4_uniteMaps 134 = .ok (.goto (-88), 3) := by decide +kernel
theorem dX4_uniteMaps_137 : decode cX4_uniteMaps 137 = .ok (.aload_n 0, 1) := by decide +kernel
theorem dX4_uniteMaps_138 : decode cX4_uniteMaps 138 = .ok (.getfield 38, 3) := by decide +kernel
theorem dX4_uniteMaps_141 : decode cX4_uniteMaps 141 = .ok (.iload_n 2, 1) := by decide +kernel
theorem dX4_uniteMaps_142 : decode cX4_uniteMaps 142 = .ok (.invokevirtual 105, 3) := by decide +kernel
theorem dX4_uniteMaps_145 : decode cX4_uniteMaps 145 = .ok (.istore 7, 2) := by decide +kernel
theorem dX4_uniteMaps_147 : decode cX4_uniteMaps 147 = .ok (.iconst 0, 1) := by decide +kernel
theorem dX4_uniteMaps_148 : decode cX4_uniteMaps 148 = .ok (.istore 8, 2) := by decide +kernel
theorem dX4_uniteMaps_150 : decode cX4_uniteMaps 150 = .ok (.iload 7, 2) := by decide +kernel
theorem dX4_uniteMaps_152 : decode cX4_uniteMaps 152 = .ok (.iconst (-1), 1) := by decide +kernel
theorem dX4_uniteMaps_153 : decode cX4_uniteMaps 153 = .ok (.if_icmp .eq 93, 3) := by decide +kernel
theorem dX4_uniteMaps_156 : decode cX4_uniteMaps 156 = .ok (.iload 8, 2) := by decide +kernel
theorem dX4_uniteMaps_158 : decode cX4_uniteMaps 158 = .ok (.bipush 100, 2) := by decide +kernel
theorem dX4_uniteMaps_160 : decode cX4_uniteMaps 160 = .ok (.if_icmp .ge 86, 3) := by decide +kernel
theorem dX4_uniteMaps_163 : decode cX4_uniteMaps 163 = .ok (.aload_n 0, 1) := by decide +kernel
theorem dX4_uniteMaps_164 : decode cX4_uniteMaps 164 = .ok (.getfield 35, 3) := by decide +kernel
theorem dX4_uniteMaps_167 : decode cX4_uniteMaps 167 = .ok (.iload_n 1, 1) := by decide +kernel
theorem dX4_uniteMaps_168 : decode cX4_uniteMaps 168 = .ok (.aload_n 0, 1) := by decide +kernel
theorem dX4_uniteMaps_169 : decode cX4_uniteMaps 169 = .ok (.getfield 38, 3) := by decide +kernel
theorem dX4_uniteMaps_172 : decode cX4_uniteMaps 172 = .ok (.iload 7, 2) := by decide +kernel
theorem dX4_uniteMaps_174 : decode cX4_uniteMaps 174 = .ok (.invokevirtual 112, 3) := by decide +kernel
theorem dX4_uniteMaps_177 : decode cX4_uniteMaps 177 = .ok (.iconst (-1), 1) := by decide +kernel
theorem dX4_uniteMaps_178 : decode cX4_uniteMaps 178 = .ok (.if_icmp .ne 50, 3) := by decide +kernel
theorem dX4_uniteMaps_181 : decode cX4_uniteMaps 181 = .ok (.aload_n 0, 1) := by decide +kernel
theorem dX4_uniteMaps_182 : decode cX4_uniteMaps 182 = .ok (.getfield 38, 3) := by decide +kernel
theorem dX4_uniteMaps_185 : decode cX4_uniteMaps 185 = .ok (.iload 7, 2) := by decide +kernel
theorem dX4_uniteMaps_187 : decode cX4_uniteMaps 187 = .ok (.aload_n 0, 1) := by decide +kernel
theorem dX4_uniteMaps_188 : decode cX4_uniteMaps 188 = .ok (.getfield 23, 3) := by decide +kernel
theorem dX4_uniteMaps_191 : decode cX4_uniteMaps 191 = .ok (.invokevirtual 108, 3) := by decide +kernel
theorem dX4_uniteMaps_194 : decode cX4_uniteMaps 194 = .ok (.aload_n 0, 1) := by decide +kernel
theorem dX4_uniteMaps_195 : decode cX4_uniteMaps 195 = .ok (.iconst (-1), 1) := by decide +kernel
theorem dX4_uniteMaps_196 : decode cX4_uniteMaps 196 = .ok (.iload 7, 2) := by decide +kernel
theorem dX4_uniteMaps_198 : decode cX4_uniteMaps 198 = .ok (.aload_n 0, 1) := by decide +kernel
theorem dX4_uniteMaps_199 : decode cX4_uniteMaps 199 = .ok (.getfield 41, 3) := by decide +kernel
theorem dX4_uniteMaps_202 : decode cX4_uniteMaps 202 = .ok (.iload_n 3, 1) := by decide +kernel
theorem dX4_uniteMaps_203 : decode cX4_uniteMaps 203 = .ok (.aload_n 0, 1) := by decide +kernel
theorem dX4_uniteMaps_204 : decode cX4_uniteMaps 204 = .ok (.getfield 38, 3) := by decide +kernel
theorem dX4_uniteMaps_207 : decode cX4_uniteMaps 207 = .ok (.iload 7, 2) := by decide +kernel
theorem dX4_uniteMaps_209 : decode cX4_uniteMaps 209 = .ok (.invokevirtual 112, 3) := by decide +kernel
theorem dX4_uniteMaps_212 : decode cX4_uniteMaps 212 = .ok (.iload 4, 2) := by decide +kernel
theorem dX4_uniteMaps_214 : decode cX4_uniteMaps 214 = .ok (.iconst 1, 1) := by decide +kernel
theorem dX4_uniteMaps_215 : decode cX4_uniteMaps 215 = .ok (.iadd, 1) := by decide +kernel
theorem dX4_uniteMaps_216 : decode cX4_uniteMaps 216 = .ok (.invokevirtual 64, 3) := by decide +kernel
theorem dX4_uniteMaps_219 : decode cX4_uniteMaps 219 = .ok (.aload_n 0, 1) := by decide +kernel
theorem dX4_uniteMaps_220 : decode cX4_uniteMaps 220 = .ok (.getfield 23, 3) := by decide +kernel
theorem dX4_uniteMaps_223 : decode cX4_uniteMaps 223 = .ok (.iload 6, 2) := by decide +kernel
theorem dX4_uniteMaps_225 : decode cX4_uniteMaps 225 = .ok (.invokevirtual 116, 3) := by decide +kernel
theorem dX4_uniteMaps_228 : decode cX4_uniteMaps 228 = .ok (.aload_n 0, 1) := by decide +kernel
theorem dX4_uniteMaps_229 : decode cX4_uniteMaps 229 = .ok (.getfield 38, 3) := by decide +kernel
theorem dX4_uniteMaps_232 : decode cX4_uniteMaps 232 = .ok (.iload_n 2, 1) := by decide +kernel
theorem dX4_uniteMaps_233 : decode cX4_uniteMaps 233 = .ok (.iload 7, 2) := by decide +kernel
theorem dX4_uniteMaps_235 : decode cX4_uniteMaps 235 = .ok (.invokevirtual 119, 3) := by decide +kernel
theorem dX4_uniteMaps_238 : decode cX4_uniteMaps 238 = .ok (.istore 7, 2) := by decide +kernel
theorem dX4_uniteMaps_240 : decode cX4_uniteMaps 240 = .ok (.iinc 8 1, 3) := by decide +kernel
theorem dX4_uniteMaps_243 : decode cX4_uniteMaps 243 = .ok (.goto (-93), 3) := by decide +kernel
theorem dX4_uniteMaps_246 : decode cX4_uniteMaps 246 = .ok (.aload_n 0, 1) := by decide +kernel
theorem dX4_uniteMaps_247 : decode cX4_uniteMaps 247 = .ok (.getfield 41, 3) := by decide +kernel
theorem dX4_uniteMaps_250 : decode cX4_uniteMaps 250 = .ok (.iload_n 3, 1) := by decide +kernel
theorem dX4_uniteMaps_251 : decode cX4_uniteMaps 251 = .ok (.invokevirtual 105, 3) := by decide +kernel
theorem dX4_uniteMaps_254 : decode cX4_uniteMaps 254 = .ok (.istore 7, 2) := by decide +kernel
theorem dX4_uniteMaps_256 : decode cX4_uniteMaps 256 = .ok (.iconst 0, 1) := by decide +kernel
theorem dX4_uniteMaps_257 : decode cX4_uniteMaps 257 = .ok (.istore 8, 2) := by decide +kernel
theorem dX4_uniteMaps_259 : decode cX4_uniteMaps 259 = .ok (.iload 7, 2) := by decide +kernel
theorem dX4_uniteMaps_261 : decode cX4_uniteMaps 261 = .ok (.iconst (-1), 1) := by decide +kernel
theorem dX4_uniteMaps_262 : decode cX4_uniteMaps 262 = .ok (.if_icmp .eq 74, 3) := by decide +kernel
theorem dX4_uniteMaps_265 : decode cX4_uniteMaps 265 = .ok (.iload 8, 2) := by decide +kernel
theorem dX4_uniteMaps_267 : decode cX4_uniteMaps 267 = .ok (.bipush 100, 2) := by decide +kernel
theorem dX4_uniteMaps_269 : decode cX4_uniteMaps 269 = .ok (.if_icmp .ge 67, 3) := by decide +kernel
theorem dX4_uniteMaps_272 : decode cX4_uniteMaps 272 = .ok (.aload_n 0, 1) := by decide +kernel
theorem dX4_uniteMaps_273 : decode cX4_uniteMaps 273 = .ok (.getfield 35, 3) := by decide +kernel
theorem dX4_uniteMaps_276 : decode cX4_uniteMaps 276 = .ok (.iload_n 1, 1) := by decide +kernel
theorem dX4_uniteMaps_277 : decode cX4_uniteMaps 277 = .ok (.aload_n 0, 1) := by decide +kernel
theorem dX4_uniteMaps_278 : decode cX4_uniteMaps 278 = .ok (.getfield 41, 3) := by decide +kernel
theorem dX4_uniteMaps_281 : decode cX4_uniteMaps 281 = .ok (.iload 7, 2) := by decide +kernel
theorem dX4_uniteMaps_283 : decode cX4_uniteMaps 283 = .ok (.invokevirtual 112, 3) := by decide +kernel
theorem dX4_uniteMaps_286 : decode cX4_uniteMaps 286 = .ok (.iconst (-1), 1) := by decide +kernel
theorem dX4_uniteMaps_287 : decode cX4_uniteMaps 287 = .ok (.if_icmp .ne 31, 3) := by decide +kernel
theorem dX4_uniteMaps_290 : decode cX4_uniteMaps 290 = .ok (.aload_n 0, 1) := by decide +kernel
theorem dX4_uniteMaps_291 : decode cX4_uniteMaps 291 = .ok (.getfield 38, 3) := by decide +kernel
theorem dX4_uniteMaps_294 : decode cX4_uniteMaps 294 = .ok (.iload_n 2, 1) := by decide +kernel
theorem dX4_uniteMaps_295 : decode cX4_uniteMaps 295 = .ok (.aload_n 0, 1) := by decide +kernel
theorem dX4_uniteMaps_296 : decode cX4_uniteMaps 296 = .ok (.getfield 41, 3) := by decide +kernel
theorem dX4_uniteMaps_299 : decode cX4_uniteMaps 299 = .ok (.iload 7, 2) := by decide +kernel
theorem dX4_uniteMaps_301 : decode cX4_uniteMaps 301 = .ok (.invokevirtual 112, 3) := by decide +kernel
theorem dX4_uniteMaps_304 : decode cX4_uniteMaps 304 = .ok (.iconst (-1), 1) := by decide +kernel
theorem dX4_uniteMaps_305 : decode cX4_uniteMaps 305 = .ok (.if_icmp .ne 13, 3) := by decide +kernel
theorem dX4_uniteMaps_308 : decode cX4_uniteMaps 308 = .ok (.aload_n 0, 1) := by decide +kernel
theorem dX4_uniteMaps_309 : decode cX4_uniteMaps 309 = .ok (.aload_n 0, 1) := by decide +kernel
theorem dX4_uniteMaps_310 : decode cX4_uniteMaps 310 = .ok (.getfield 41, 3) := by decide +kernel
theorem dX4_uniteMaps_313 : decode cX4_uniteMaps 313 = .ok (.iload 7, 2) := by decide +kernel
theorem dX4_uniteMaps_315 : decode cX4_uniteMaps 315 = .ok (.invokevirtual 76, 3) := by decide +kernel
theorem dX4_uniteMaps_318 : decode cX4_uniteMaps 318 = .ok (.aload_n 0, 1) := by decide +kernel
theorem dX4_uniteMaps_319 : decode cX4_uniteMaps 319 = .ok (.getfield 41, 3) := by decide +kernel
theorem dX4_uniteMaps_322 : decode cX4_uniteMaps 322 = .ok (.iload_n 3, 1) := by decide +kernel
theorem dX4_uniteMaps_323 : decode cX4_uniteMaps 323 = .ok (.iload 7, 2) := by decide +kernel
theorem dX4_uniteMaps_325 : decode cX4_uniteMaps 325 = .ok (.invokevirtual 119, 3) := by decide +kernel
theorem dX4_uniteMaps_328 : decode cX4_uniteMaps 328 = .ok (.istore 7, 2) := by decide +kernel
theorem dX4_uniteMaps_330 : decode cX4_uniteMaps 330 = .ok (.iinc 8 1, 3) := by decide +kernel
theorem dX4_uniteMaps_333 : decode cX4_uniteMaps 333 = .ok (.goto (-74), 3) := by decide +kernel
theorem dX4_uniteMaps_336 : decode cX4_uniteMaps 336 = .ok (.aload_n 0, 1) := by decide +kernel
theorem dX4_uniteMaps_337 : decode cX4_uniteMaps 337 = .ok (.getfield 12, 3) := by decide +kernel
theorem dX4_uniteMaps_340 : decode cX4_uniteMaps 340 = .ok (.iload 5, 2) := by decide +kernel
theorem dX4_uniteMaps_342 : decode cX4_uniteMaps 342 = .ok (.invokevirtual 123, 3) := by decide +kernel
theorem dX4_uniteMaps_345 : decode cX4_uniteMaps 345 = .ok (.return_, 1) := by decide +kernel
theorem dX4_dispute_0 : decode cX4_dispute 0 = .ok (.aload_n 0, 1) := by decide +kernel
theorem dX4_dispute_1 : decode cX4_dispute 1 = .ok (.getfield 59, 3) := by decide +kernel
theorem dX4_dispute_4 : decode cX4_dispute 4 = .ok (.ifCond .ne 7, 3) := by decide +kernel
theorem dX4_dispute_7 : decode cX4_dispute 7 = .ok (.aload_n 0, 1) := by decide +kernel
theorem dX4_dispute_8 : decode cX4_dispute 8 = .ok (.invokevirtual 126, 3) := by decide +kernel
theorem dX4_dispute_11 : decode cX4_dispute 11 = .ok (.aload_n 0, 1) := by decide +kernel
theorem dX4_dispute_12 : decode cX4_dispute 12 = .ok (.iconst 1, 1) := by decide +kernel
theorem dX4_dispute_13 : decode cX4_dispute 13 = .ok (.putfield 59, 3) := by decide +kernel
theorem dX4_dispute_16 : decode cX4_dispute 16 = .ok (.aload_n 0, 1) := by decide +kernel
theorem dX4_dispute_17 : decode cX4_dispute 17 = .ok (.getfield 44, 3) := by decide +kernel
theorem dX4_dispute_20 : decode cX4_dispute 20 = .ok (.ifCond .lt 60, 3) := by decide +kernel
theorem dX4_dispute_23 : decode cX4_dispute 23 = .ok (.aload_n 0, 1) := by decide +kernel
theorem dX4_dispute_24 : decode cX4_dispute 24 = .ok (.getfield 44, 3) := by decide +kernel
theorem dX4_dispute_27 : decode cX4_dispute 27 = .ok (.aload_n 0, 1) := by decide +kernel
theorem dX4_dispute_28 : decode cX4_dispute 28 = .ok (.getfield 31, 3) := by decide +kernel
theorem dX4_dispute_31 : decode cX4_dispute 31 = .ok (.arraylength, 1) := by decide +kernel
theorem dX4_dispute_32 : decode cX4_dispute 32 = .ok (.if_icmp .ge 48, 3) := by decide +kernel
theorem dX4_dispute_35 : decode cX4_dispute 35 = .ok (.aload_n 0, 1) := by decide +kernel
theorem dX4_dispute_36 : decode cX4_dispute 36 = .ok (.getfield 28, 3) := by decide +kernel
theorem dX4_dispute_39 : decode cX4_dispute 39 = .ok (.aload_n 0, 1) := by decide +kernel
theorem dX4_dispute_40 : decode cX4_dispute 40 = .ok (.getfield 23, 3) := by decide +kernel
theorem dX4_dispute_43 : decode cX4_dispute 43 = .ok (.iconst 0, 1) := by decide +kernel
theorem dX4_dispute_44 : decode cX4_dispute 44 = .ok (.aload_n 0, 1) := by decide +kernel
theorem dX4_dispute_45 : decode cX4_dispute 45 = .ok (.getfield 23, 3) := by decide +kernel
theorem dX4_dispute_48 : decode cX4_dispute 48 = .ok (.invokevirtual 101, 3) := by decide +kernel
theorem dX4_dispute_51 : decode cX4_dispute 51 = .ok (.invokevirtual 55, 3) := by decide +kernel
theorem dX4_dispute_54 : decode cX4_dispute 54 = .ok (.aload_n 0, 1) := by decide +kernel
theorem dX4_dispute_55 : decode cX4_dispute 55 = .ok (.getfield 31, 3) := by decide +kernel
theorem dX4_dispute_58 : decode cX4_dispute 58 = .ok (.aload_n 0, 1) := by decide +kernel
theorem dX4_dispute_59 : decode cX4_dispute 59 = .ok (.getfield 44, 3) := by decide +kernel
theorem dX4_dispute_62 : decode cX4_dispute 62 = .ok (.aload_n 0, 1) := by decide +kernel
theorem dX4_dispute_63 : decode cX4_dispute 63 = .ok (.getfield 28, 3) := by decide +kernel
theorem dX4_dispute_66 : decode cX4_dispute 66 = .ok (.invokevirtual 101, 3) := by decide +kernel
theorem dX4_dispute_69 : decode cX4_dispute 69 = .ok (.iastore, 1) := by decide +kernel
theorem dX4_dispute_70 : decode cX4_dispute 70 = .ok (.aload_n 0, 1) := by decide +kernel
theorem dX4_dispute_71 : decode cX4_dispute 71 = .ok (.dup, 1) := by decide +kernel
theorem dX4_dispute_72 : decode cX4_dispute 72 = .ok (.getfield 44, 3) := by decide +kernel
theorem dX4_dispute_75 : decode cX4_dispute 75 = .ok (.iconst 1, 1) := by decide +kernel
theorem dX4_dispute_76 : decode cX4_dispute 76 = .ok (.iadd, 1) := by decide +kernel
theorem dX4_dispute_77 : decode cX4_dispute 77 = .ok (.putfield 44, 3) := by decide +kernel
theorem dX4_dispute_80 : decode cX4_dispute 80 = .ok (.return_, 1) := by decide +kernel
