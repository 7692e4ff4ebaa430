theorem dX12_readsKey_67 : decode cX12_readsKey 67 = .ok (.isub, 1) := by decide +kernel
theorem dX12_readsKey_68 : decode cX12_readsKey 68 = .ok (.iaload, 1) := by decide +kernel
theorem dX12_readsKey_69 : decode cX12_readsKey 69 = .ok (.istore_n 2, 1) := by decide +kernel
theorem dX12_readsKey_70 : decode cX12_readsKey 70 = .ok (.iload_n 2, 1) := by decide +kernel
theorem dX12_readsKey_71 : decode cX12_readsKey 71 = .ok (.iconst 1, 1) := by decide +kernel
theorem dX12_readsKey_72 : decode cX12_readsKey 72 = .ok (.iadd, 1) := by decide +kernel
theorem dX12_readsKey_73 : decode cX12_readsKey 73 = .ok (.istore_n 3, 1) := by decide +kernel
theorem dX12_readsKey_74 : decode cX12_readsKey 74 = .ok (.iload_n 3, 1) := by decide +kernel
theorem dX12_readsKey_75 : decode cX12_readsKey 75 = .ok (.aload_n 0, 1) := by decide +kernel
theorem dX12_readsKey_76 : decode cX12_readsKey 76 = .ok (.getfield 26, 3) := by decide +kernel
theorem dX12_readsKey_79 : decode cX12_readsKey 79 = .ok (.bipush 40, 2) := by decide +kernel
theorem dX12_readsKey_81 : decode cX12_readsKey 81 = .ok (.iaload, 1) := by decide +kernel
theorem dX12_readsKey_82 : decode cX12_readsKey 82 = .ok (.if_icmp .ge 116, 3) := by decide +kernel
theorem dX12_readsKey_85 : decode cX12_readsKey 85 = .ok (.iload_n 1, 1) := by decide +kernel
theorem dX12_readsKey_86 : decode cX12_readsKey 86 = .ok (.ifCond .ne 112, 3) := by decide +kernel
theorem dX12_readsKey_89 : decode cX12_readsKey 89 = .ok (.aload_n 0, 1) := by decide +kernel
theorem dX12_readsKey_90 : decode cX12_readsKey 90 = .ok (.bipush 40, 2) := by decide +kernel
theorem dX12_readsKey_92 : decode cX12_readsKey 92 = .ok (.iload_n 3, 1) := by decide +kernel
theorem dX12_readsKey_93 : decode cX12_readsKey 93 = .ok (.iconst 1, 1) := by decide +kernel
theorem dX12_readsKey_94 : decode cX12_readsKey 94 = .ok (.invokevirtual 36, 3) := by decide +kernel
theorem dX12_readsKey_97 : decode cX12_readsKey 97 = .ok (.iload_n 2, 1) := by decide +kernel
theorem dX12_readsKey_98 : decode cX12_readsKey 98 = .ok (.if_icmp .ne 22, 3) := by decide +kernel
theorem dX12_readsKey_101 : decode cX12_readsKey 101 = .ok (.aload_n 0, 1) := by decide +kernel
theorem dX12_readsKey_102 : decode cX12_readsKey 102 = .ok (.bipush 40, 2) := by decide +kernel
theorem dX12_readsKey_104 : decode cX12_readsKey 104 = .ok (.iload_n 3, 1) := by decide +kernel
theorem dX12_readsKey_105 : decode cX12_readsKey 105 = .ok (.iconst 5, 1) := by decide +kernel
theorem dX12_readsKey_106 : decode cX12_readsKey 106 = .ok (.invokevirtual 36, 3) := by decide +kernel
theorem dX12_readsKey_109 : decode cX12_readsKey 109 = .ok (.aload_n 0, 1) := by decide +kernel
theorem dX12_readsKey_110 : decode cX12_readsKey 110 = .ok (.getfield 508, 3) := by decide +kernel
theorem dX12_readsKey_113 : decode cX12_readsKey 113 = .ok (.if_icmp .ne 7, 3) := by decide +kernel
theorem dX12_readsKey_116 : decode cX12_readsKey 116 = .ok (.iconst 1, 1) := by decide +kernel
theorem dX12_readsKey_117 : decode cX12_readsKey 117 = .ok (.goto 4, 3) := by decide +kernel
theorem dX12_readsKey_120 : decode cX12_readsKey 120 = .ok (.iconst 0, 1) := by decide +kernel
theorem dX12_readsKey_121 : decode cX12_readsKey 121 = .ok (.istore 4, 2) := by decide +kernel
theorem dX12_readsKey_123 : decode cX12_readsKey 123 = .ok (.iconst 0, 1) := by decide +kernel
theorem dX12_readsKey_124 : decode cX12_readsKey 124 = .ok (.istore 5, 2) := by decide +kernel
theorem dX12_readsKey_126 : decode cX12_readsKey 126 = .ok (.iload 5, 2) := by decide +kernel
theorem dX12_readsKey_128 : decode cX12_readsKey 128 = .ok (.aload_n 0, 1) := by decide +kernel
theorem dX12_readsKey_129 : decode cX12_readsKey 129 = .ok (.getfield 508, 3) := by decide +kernel
theorem dX12_readsKey_132 : decode cX12_readsKey 132 = .ok (.if_icmp .ge 43, 3) := by decide +kernel
theorem dX12_readsKey_135 : decode cX12_readsKey 135 = .ok (.iload 4, 2) := by decide +kernel
theorem dX12_readsKey_137 : decode cX12_readsKey 137 = .ok (.ifCond .eq 38, 3) := by decide +kernel
theorem dX12_readsKey_140 : decode cX12_readsKey 140 = .ok (.aload_n 0, 1) := by decide +kernel
theorem dX12_readsKey_141 : decode cX12_readsKey 141 = .ok (.bipush 40, 2) := by decide +kernel
theorem dX12_readsKey_143 : decode cX12_readsKey 143 = .ok (.iload_n 3, 1) := by decide +kernel
theorem dX12_readsKey_144 : decode cX12_readsKey 144 = .ok (.bipush 6, 2) := by decide +kernel
theorem dX12_readsKey_146 : decode cX12_readsKey 146 = .ok (.iload 5, 2) := by decide +kernel
theorem dX12_readsKey_148 : decode cX12_readsKey 148 = .ok (.iadd, 1) := by decide +kernel
theorem dX12_readsKey_149 : decode cX12_readsKey 149 = .ok (.invokevirtual 36, 3) := by decide +kernel
theorem dX12_readsKey_152 : decode cX12_readsKey 152 = .ok (.aload_n 0, 1) := by decide +kernel
theorem dX12_readsKey_153 : decode cX12_readsKey 153 = .ok (.getfield 256, 3) := by decide +kernel
theorem dX12_readsKey_156 : decode cX12_readsKey 156 = .ok (.iload 5, 2) := by decide +kernel
theorem dX12_readsKey_158 : decode cX12_readsKey 158 = .ok (.iaload, 1) := by decide +kernel
theorem dX12_readsKey_159 : decode cX12_readsKey 159 = .ok (.if_icmp .ne 7, 3) := by decide +kernel
theorem dX12_readsKey_162 : decode cX12_readsKey 162 = .ok (.iconst 1, 1) := by decide +kernel
theorem dX12_readsKey_163 : decode cX12_readsKey 163 = .ok (.goto 4, 3) := by decide +kernel
theorem dX12_readsKey_166 : decode cX12_readsKey 166 = .ok (.iconst 0, 1) := by decide +kernel
theorem dX12_readsKey_167 : decode cX12_readsKey 167 = .ok (.istore 4, 2) := by decide +kernel
theorem dX12_readsKey_169 : decode cX12_readsKey 169 = .ok (.iinc 5 1, 3) := by decide +kernel
theorem dX12_readsKey_172 : decode cX12_readsKey 172 = .ok (.goto (-46), 3) := by decide +kernel
theorem dX12_readsKey_175 : decode cX12_readsKey 175 = .ok (.iload 4, 2) := by decide +kernel
theorem dX12_readsKey_177 : decode cX12_readsKey 177 = .ok (.ifCond .eq 15, 3) := by decide +kernel
theorem dX12_readsKey_180 : decode cX12_readsKey 180 = .ok (.aload_n 0, 1) := by decide +kernel
theorem dX12_readsKey_181 : decode cX12_readsKey 181 = .ok (.dup, 1) := by decide +kernel
theorem dX12_readsKey_182 : decode cX12_readsKey 182 = .ok (.getfield 468, 3) := by decide +kernel
theorem dX12_readsKey_185 : decode cX12_readsKey 185 = .ok (.iconst 1, 1) := by decide +kernel
theorem dX12_readsKey_186 : decode cX12_readsKey 186 = .ok (.isub, 1) := by decide +kernel
theorem dX12_readsKey_187 : decode cX12_readsKey 187 = .ok (.putfield 468, 3) := by decide +kernel
theorem dX12_readsKey_190 : decode cX12_readsKey 190 = .ok (.iconst 0, 1) := by decide +kernel
theorem dX12_readsKey_191 : decode cX12_readsKey 191 = .ok (.ireturn, 1) := by decide +kernel
theorem dX12_readsKey_192 : decode cX12_readsKey 192 = .ok (.iinc 3 1, 3) := by decide +kernel
theorem dX12_readsKey_195 : decode cX12_readsKey 195 = .ok (.goto (-121), 3) := by decide +kernel
theorem dX12_readsKey_198 : decode cX12_readsKey 198 = .ok (.aload_n 0, 1) := by decide +kernel
theorem dX12_readsKey_199 : decode cX12_readsKey 199 = .ok (.invokevirtual 514, 3) := by decide +kernel
theorem dX12_readsKey_202 : decode cX12_readsKey 202 = .ok (.ifCond .eq 16, 3) := by decide +kernel
theorem dX12_readsKey_205 : decode cX12_readsKey 205 = .ok (.aload_n 0, 1) := by decide +kernel
theorem dX12_readsKey_206 : decode cX12_readsKey 206 = .ok (.dup, 1) := by decide +kernel
theorem dX12_readsKey_207 : decode cX12_readsKey 207 = .ok (.getfield 468, 3) := by decide +kernel
theorem dX12_readsKey_210 : decode cX12_readsKey 210 = .ok (.iconst 1, 1) := by decide +kernel
theorem dX12_readsKey_211 : decode cX12_readsKey 211 = .ok (.iadd, 1) := by decide +kernel
theorem dX12_readsKey_212 : decode cX12_readsKey 212 = .ok (.putfield 468, 3) := by decide +kernel
theorem dX12_readsKey_215 : decode cX12_readsKey 215 = .ok (.goto (-17), 3) := by decide +kernel
theorem dX12_readsKey_218 : decode cX12_readsKey 218 = .ok (.aload_n 0, 1) := by decide +kernel
theorem dX12_readsKey_219 : decode cX12_readsKey 219 = .ok (.invokevirtual 471, 3) := by decide +kernel
theorem dX12_readsKey_222 : decode cX12_readsKey 222 = .ok (.bipush 58, 2) := by decide +kernel
theorem dX12_readsKey_224 : decode cX12_readsKey 224 = .ok (.if_icmp .eq 5, 3) := by decide +kernel
theorem dX12_readsKey_227 : decode cX12_readsKey 227 = .ok (.iconst 0, 1) := by decide +kernel
theorem dX12_readsKey_228 : decode cX12_readsKey 228 = .ok (.ireturn, 1) := by decide +kernel
theorem dX12_readsKey_229 : decode cX12_readsKey 229 = .ok (.aload_n 0, 1) := by decide +kernel
theorem dX12_readsKey_230 : decode cX12_readsKey 230 = .ok (.dup, 1) := by decide +kernel
theorem dX12_readsKey_231 : decode cX12_readsKey 231 = .ok (.getfield 468, 3) := by decide +kernel
theorem dX12_readsKey_234 : decode cX12_readsKey 234 = .ok (.iconst 1, 1) := by decide +kernel
theorem dX12_readsKey_235 : decode cX12_readsKey 235 = .ok (.iadd, 1) := by decide +kernel
theorem dX12_readsKey_236 : decode cX12_readsKey 236 = .ok (.putfield 468, 3) := by decide +kernel
theorem dX12_readsKey_239 : decode cX12_readsKey 239 = .ok (.iconst 1, 1) := by decide +kernel
theorem dX12_readsKey_240 : decode cX12_readsKey 240 = .ok (.ireturn, 1) := by decide +kernel
theorem dX12_reads_0 : decode cX12_reads 0 = .ok (.aload_n 0, 1) := by decide +kernel
theorem dX12_reads_1 : decode cX12_reads 1 = .ok (.bipush 40, 2) := by decide +kernel
theorem dX12_reads_3 : decode cX12_reads 3 = .ok (.invokevirtual 517, 3) := by decide +kernel
theorem dX12_reads_6 : decode cX12_reads 6 = .ok (.aload_n 0, 1) := by decide +kernel
theorem dX12_reads_7 : decode cX12_reads 7 = .ok (.iconst 0, 1) := by decide +kernel
theorem dX12_reads_8 : decode cX12_reads 8 = .ok (.putfield 511, 3) := by decide +kernel
theorem dX12_reads_11 : decode cX12_reads 11 = .ok (.aload_n 0, 1) := by decide +kernel
theorem dX12_reads_12 : decode cX12_reads 12 = .ok (.iconst 0, 1) := by decide +kernel
theorem dX12_reads_13 : decode cX12_reads 13 = .ok (.putfield 468, 3) := by decide +kernel
theorem dX12_reads_16 : decode cX12_reads 16 = .ok (.iconst 0, 1) := by decide +kernel
theorem dX12_reads_17 : decode cX12_reads 17 = .ok (.istore_n 2, 1) := by decide +kernel
theorem dX12_reads_18 : decode cX12_reads 18 = .ok (.iconst 0, 1) := by decide +kernel
theorem dX12_reads_19 : decode cX12_reads 19 = .ok (.istore_n 3, 1) := by decide +kernel
theorem dX12_reads_20 : decode cX12_reads 20 = .ok (.iconst 1, 1) := by decide +kernel
theorem dX12_reads_21 : decode cX12_reads 21 = .ok (.istore 4, 2) := by decide +kernel
theorem dX12_reads_23 : decode cX12_reads 23 = .ok (.iload 4, 2) := by decide +kernel
theorem dX12_reads_25 : decode cX12_reads 25 = .ok (.ifCond .eq 489, 3) := by decide +kernel
theorem dX12_reads_28 : decode cX12_reads 28 = .ok (.aload_n 0, 1) := by decide +kernel
theorem dX12_reads_29 : decode cX12_reads 29 = .ok (.invokevirtual 514, 3) := by decide +kernel
theorem dX12_reads_32 : decode cX12_reads 32 = .ok (.ifCond .eq 16, 3) := by decide +kernel
theorem dX12_reads_35 : decode cX12_reads 35 = .ok (.aload_n 0, 1) := by decide +kernel
theorem dX12_reads_36 : decode cX12_reads 36 = .ok (.dup, 1) := by decide +kernel
theorem dX12_reads_37 : decode cX12_reads 37 = .ok (.getfield 468, 3) := by decide +kernel
theorem dX12_reads_40 : decode cX12_reads 40 = .ok (.iconst 1, 1) := by decide +kernel
theorem dX12_reads_41 : decode cX12_reads 41 = .ok (.iadd, 1) := by decide +kernel
theorem dX12_reads_42 : decode cX12_reads 42 = .ok (.putfield 468, 3) := by decide +kernel
theorem dX12_reads_45 : decode cX12_reads 45 = .ok (.goto (-17), 3) := by decide +kernel
theorem dX12_reads_48 : decode cX12_reads 48 = .ok (.aload_n 0, 1) := by decide +kernel
theorem dX12_reads_49 : decode cX12_reads 49 = .ok (.invokevirtual 471, 3) := by decide +kernel
theorem dX12_reads_52 : decode cX12_reads 52 = .ok (.istore 5, 2) := by decide +kernel
theorem dX12_reads_54 : decode cX12_reads 54 = .ok (.aload_n 0, 1) := by decide +kernel
theorem dX12_reads_55 : decode cX12_reads 55 = .ok (.getfield 511, 3) := by decide +kernel
theorem dX12_reads_58 : decode cX12_reads 58 = .ok (.ifCond .le 40, 3) := by decide +kernel
theorem dX12_reads_61 : decode cX12_reads 61 = .ok (.iload 5, 2) := by decide +kernel
theorem dX12_reads_63 : decode cX12_reads 63 = .ok (.aload_n 0, 1) := by decide +kernel
theorem dX12_reads_64 : decode cX12_reads 64 = .ok (.bipush 40, 2) := by decide +kernel
theorem dX12_reads_66 : decode cX12_reads 66 = .ok (.aload_n 0, 1) := by decide +kernel
theorem dX12_reads_67 : decode cX12_reads 67 = .ok (.getfield 253, 3) := by decide +kernel
theorem dX12_reads_70 : decode cX12_reads 70 = .ok (.aload_n 0, 1) := by decide +kernel
theorem dX12_reads_71 : decode cX12_reads 71 = .ok (.getfield 511, 3) := by decide +kernel
theorem dX12_reads_74 : decode cX12_reads 74 = .ok (.iconst 1, 1) := by decide +kernel
theorem dX12_reads_75 : decode cX12_reads 75 = .ok (.isub, 1) := by decide +kernel
theorem dX12_reads_76 : decode cX12_reads 76 = .ok (.iaload, 1) := by decide +kernel
theorem dX12_reads_77 : decode cX12_reads 77 = .ok (.invokevirtual 52, 3) := by decide +kernel
theorem dX12_reads_80 : decode cX12_reads 80 = .ok (.iconst 4, 1) := by decide +kernel
theorem dX12_reads_81 : decode cX12_reads 81 = .ok (.if_icmp .ne 8, 3) := by decide +kernel
theorem dX12_reads_84 : decode cX12_reads 84 = .ok (.bipush 93, 2) := by decide +kernel
theorem dX12_reads_86 : decode cX12_reads 86 = .ok (.goto 5, 3) := by decide +kernel
theorem dX12_reads_89 : decode cX12_reads 89 = .ok (.bipush 125, 2) := by decide +kernel
theorem dX12_reads_91 : decode cX12_reads 91 = .ok (.if_icmp .ne 7, 3) := by decide +kernel
theorem dX12_reads_94 : decode cX12_reads 94 = .ok (.iconst 1, 1) := by decide +kernel
theorem dX12_reads_95 : decode cX12_reads 95 = .ok (.goto 4, 3) := by decide +kernel
theorem dX12_reads_98 : decode cX12_reads 98 = .ok (.iconst 0, 1) := by decide +kernel
theorem dX12_reads_99 : decode cX12_reads 99 = .ok (.istore 6, 2) := by decide +kernel
theorem dX12_reads_101 : decode cX12_reads 101 = .ok (.iload_n 3, 1) := by decide +kernel
theorem dX12_reads_102 : decode cX12_reads 102 = .ok (.iconst 1, 1) := by decide +kernel
theorem dX12_reads_103 : decode cX12_reads 103 = .ok (.if_icmp .eq 13, 3) := by decide +kernel
theorem dX12_reads_106 : decode cX12_reads 106 = .ok (.iload_n 3, 1) := by decide +kernel
theorem dX12_reads_107 : decode cX12_reads 107 = .ok (.iconst 2, 1) := by decide +kernel
theorem dX12_reads_108 : decode cX12_reads 108 = .ok (.if_icmp .eq 8, 3) := by decide +kernel
theorem dX12_reads_111 : decode cX12_reads 111 = .ok (.iload_n 3, 1) := by decide +kernel
theorem dX12_reads_112 : decode cX12_reads 112 = .ok (.iconst 4, 1) := by decide +kernel
theorem dX12_reads_113 : decode cX12_reads 113 = .ok (.if_icmp .ne 33, 3) := by decide +kernel
theorem dX12_reads_116 : decode cX12_reads 116 = .ok (.iload 6, 2) := by decide +kernel
theorem dX12_reads_118 : decode cX12_reads 118 = .ok (.ifCond .eq 28, 3) := by decide +kernel
theorem dX12_reads_121 : decode cX12_reads 121 = .ok (.aload_n 0, 1) := by decide +kernel
theorem dX12_reads_122 : decode cX12_reads 122 = .ok (.dup, 1) := by decide +kernel
theorem dX12_reads_123 : decode cX12_reads 123 = .ok (.getfield 511, 3) := by decide +kernel
theorem dX12_reads_126 : decode cX12_reads 126 = .ok (.iconst 1, 1) := by decide +kernel
theorem dX12_reads_127 : decode cX12_reads 127 = .ok (.isub, 1) := by decide +kernel
theorem dX12_reads_128 : decode cX12_reads 128 = .ok (.putfield 511, 3) := by decide +kernel
theorem dX12_reads_131 : decode cX12_reads 131 = .ok (.aload_n 0, 1) := by decide +kernel
theorem dX12_reads_132 : decode cX12_reads 132 = .ok (.dup, 1) := by decide +kernel
theorem dX12_reads_133 : decode cX12_reads 133 = .ok (.getfield 468, 3) := by decide +kernel
theorem dX12_reads_136 : decode cX12_reads 136 = .ok (.iconst 1, 1) := by decide +kernel
theorem dX12_reads_137 : decode cX12_reads 137 = .ok (.iadd, 1) := by decide +kernel
theorem dX12_reads_138 : decode cX12_reads 138 = .ok (.putfield 468, 3) := by decide +kernel
theorem dX12_reads_141 : decode cX12_reads 141 = .ok (.iconst 4, 1) := by decide +kernel
theorem dX12_reads_142 : decode cX12_reads 142 = .ok (.istore_n 3, 1) := by decide +kernel
theorem dX12_reads_143 : decode cX12_reads 143 = .ok (.goto 368, 3) := by decide +kernel
theorem dX12_reads_146 : decode cX12_reads 146 = .ok (.iload_n 3, 1) := by decide +kernel
theorem dX12_reads_147 : decode cX12_reads 147 = .ok (.iconst 4, 1) := by decide +kernel
theorem dX12_reads_148 : decode cX12_reads 148 = .ok (.if_icmp .ne 68, 3) := by decide +kernel
theorem dX12_reads_151 : decode cX12_reads 151 = .ok (.aload_n 0, 1) := by decide +kernel
theorem dX12_reads_152 : decode cX12_reads 152 = .ok (.getfield 511, 3) := by decide +kernel
theorem dX12_reads_155 : decode cX12_reads 155 = .ok (.ifCond .ne 9, 3) := by decide +kernel
theorem dX12_reads_158 : decode cX12_reads 158 = .ok (.iconst 0, 1) := by decide +kernel
theorem dX12_reads_159 : decode cX12_reads 159 = .ok (.istore 4, 2) := by decide +kernel
theorem dX12_reads_161 : decode cX12_reads 161 = .ok (.goto 350, 3) := by decide +kernel
theorem dX12_reads_164 : decode cX12_reads 164 = .ok (.iload 5, 2) := by decide +kernel
theorem dX12_reads_166 : decode cX12_reads 166 = .ok (.bipush 44, 2) := by decide +kernel
theorem dX12_reads_168 : decode cX12_reads 168 = .ok (.if_icmp .eq 8, 3) := by decide +kernel
theorem dX12_reads_171 : decode cX12_reads 171 = .ok (.aload_n 0, 1) := by decide +kernel
theorem dX12_reads_172 : decode cX12_reads 172 = .ok (.getfield 468, 3) := by decide +kernel
theorem dX12_reads_175 : decode cX12_reads 175 = .ok (.ireturn, 1) := by decide +kernel
theorem dX12_reads_176 : decode cX12_reads 176 = .ok (.aload_n 0, 1) := by decide +kernel
theorem dX12_reads_177 : decode cX12_reads 177 = .ok (.dup, 1) := by decide +kernel
theorem dX12_reads_178 : decode cX12_reads 178 = .ok (.getfield 468, 3) := by decide +kernel
theorem dX12_reads_181 : decode cX12_reads 181 = .ok (.iconst 1, 1) := by decide +kernel
theorem dX12_reads_182 : decode cX12_reads 182 = .ok (.iadd, 1) := by decide +kernel
theorem dX12_reads_183 : decode cX12_reads 183 = .ok (.putfield 468, 3) := by decide +kernel
theorem dX12_reads_186 : decode cX12_reads 186 = .ok (.aload_n 0, 1) := by decide +kernel
theorem dX12_reads_187 : decode cX12_reads 187 = .ok (.bipush 40, 2) := by decide +kernel
theorem dX12_reads_189 : decode cX12_reads 189 = .ok (.aload_n 0, 1) := by decide +kernel
theorem dX12_reads_190 : decode cX12_reads 190 = .ok (.getfield 253, 3) := by decide +kernel
theorem dX12_reads_193 : decode cX12_reads 193 = .ok (.aload_n 0, 1) := by decide +kernel
theorem dX12_reads_194 : decode cX12_reads 194 = .ok (.getfield 511, 3) := by decide +kernel
theorem dX12_reads_197 : decode cX12_reads 197 = .ok (.iconst 1, 1) := by decide +kernel
theorem dX12_reads_198 : decode cX12_reads 198 = .ok (.isub, 1) := by decide +kernel
theorem dX12_reads_199 : decode cX12_reads 199 = .ok (.iaload, 1) := by decide +kernel
theorem dX12_reads_200 : decode cX12_reads 200 = .ok (.invokevirtual 52, 3) := by decide +kernel
theorem dX12_reads_203 : decode cX12_reads 203 = .ok (.iconst 4, 1) := by decide +kernel
theorem dX12_reads_204 : decode cX12_reads 204 = .ok (.if_icmp .ne 7, 3) := by decide +kernel
theorem dX12_reads_207 : decode cX12_reads 207 = .ok (.iconst 0, 1) := by decide +kernel
theorem dX12_reads_208 : decode cX12_reads 208 = .ok (.goto 4, 3) := by decide +kernel
theorem dX12_reads_211 : decode cX12_reads 211 = .ok (.iconst 3, 1) := by decide +kernel
theorem dX12_reads_212 : decode cX12_reads 212 = .ok (.istore_n 3, 1) := by decide +kernel
theorem dX12_reads_213 : decode cX12_reads 213 = .ok (.goto 298, 3) := by decide +kernel
theorem dX12_reads_216 : decode cX12_reads 216 = .ok (.iload_n 3, 1) := by decide +kernel
theorem dX12_reads_217 : decode cX12_reads 217 = .ok (.iconst 2, 1) := by decide +kernel
theorem dX12_reads_218 : decode cX12_reads 218 = .ok (.if_icmp .eq 8, 3) := by decide +kernel
theorem dX12_reads_221 : decode cX12_reads 221 = .ok (.iload_n 3, 1) := by decide +kernel
theorem dX12_reads_222 : decode cX12_reads 222 = .ok (.iconst 3, 1) := by decide +kernel
theorem dX12_reads_223 : decode cX12_reads 223 = .ok (.if_icmp .ne 21, 3) := by decide +kernel
theorem dX12_reads_226 : decode cX12_reads 226 = .ok (.aload_n 0, 1) := by decide +kernel
theorem dX12_reads_227 : decode cX12_reads 227 = .ok (.iload_n 1, 1) := by decide +kernel
theorem dX12_reads_228 : decode cX12_reads 228 = .ok (.invokevirtual 520, 3) := by decide +kernel
theorem dX12_reads_231 : decode cX12_reads 231 = .ok (.ifCond .ne 8, 3) := by decide +kernel
theorem dX12_reads_234 : decode cX12_reads 234 = .ok (.aload_n 0, 1) := by decide +kernel
theorem dX12_reads_235 : decode cX12_reads 235 = .ok (.getfield 468, 3) := by decide +kernel
theorem dX12_reads_238 : decode cX12_reads 238 = .ok (.ireturn, 1) := by decide +kernel
theorem dX12_reads_239 : decode cX12_reads 239 = .ok (.iconst 0, 1) := by decide +kernel
theorem dX12_reads_240 : decode cX12_reads 240 = .ok (.istore_n 3, 1) := by decide +kernel
theorem dX12_reads_241 : decode cX12_reads 241 = .ok (.goto 270, 3) := by decide +kernel
theorem dX12_reads_244 : decode cX12_reads 244 = .ok (.aload_n 0, 1) := by decide +kernel
theorem dX12_reads_245 : decode cX12_reads 245 = .ok (.invokevirtual 523, 3) := by decide +kernel
theorem dX12_reads_248 : decode cX12_reads 248 = .ok (.istore 7, 2) := by decide +kernel
theorem dX12_reads_250 : decode cX12_reads 250 = .ok (.iload 7, 2) := by decide +kernel
theorem dX12_reads_252 : decode cX12_reads 252 = .ok (.iconst (-1), 1) := by decide +kernel
theorem dX12_reads_253 : decode cX12_reads 253 = .ok (.if_icmp .eq 24, 3) := by decide +kernel
theorem dX12_reads_256 : decode cX12_reads 256 = .ok (.iload_n 2, 1) := by decide +kernel
theorem dX12_reads_257 : decode cX12_reads 257 = .ok (.bipush 100, 2) := by decide +kernel
theorem dX12_reads_259 : decode cX12_reads 259 = .ok (.if_icmp .eq 18, 3) := by decide +kernel
theorem dX12_reads_262 : decode cX12_reads 262 = .ok (.iload 7, 2) := by decide +kernel
theorem dX12_reads_264 : decode cX12_reads 264 = .ok (.iconst 4, 1) := by decide +kernel
theorem dX12_reads_265 : decode cX12_reads 265 = .ok (.if_icmp .lt 17, 3) := by decide +kernel
theorem dX12_reads_268 : decode cX12_reads 268 = .ok (.aload_n 0, 1) := by decide +kernel
theorem dX12_reads_269 : decode cX12_reads 269 = .ok (.getfield 511, 3) := by decide +kernel
theorem dX12_reads_272 : decode cX12_reads 272 = .ok (.bipush 12, 2) := by decide +kernel
theorem dX12_reads_274 : decode cX12_reads 274 = .ok (.if_icmp .ne 8, 3) := by decide +kernel
theorem dX12_reads_277 : decode cX12_reads 277 = .ok (.aload_n 0, 1) := by decide +kernel
theorem dX12_reads_278 : decode cX12_reads 278 = .ok (.getfield 468, 3) := by decide +kernel
theorem dX12_reads_281 : decode cX12_reads 281 = .ok (.ireturn, 1) := by decide +kernel
theorem dX12_reads_282 : decode cX12_reads 282 = .ok (.iinc 2 1, 3) := by decide +kernel
theorem dX12_reads_285 : decode cX12_reads 285 = .ok (.aload_n 0, 1) := by decide +kernel
theorem dX12_reads_286 : decode cX12_reads 286 = .ok (.bipush 40, 2) := by decide +kernel
theorem dX12_reads_288 : decode cX12_reads 288 = .ok (.iload 7, 2) := by decide +kernel
theorem dX12_reads_290 : decode cX12_reads 290 = .ok (.invokevirtual 33, 3) := by decide +kernel
theorem dX12_reads_293 : decode cX12_reads 293 = .ok (.istore 8, 2) := by decide +kernel
theorem dX12_reads_295 : decode cX12_reads 295 = .ok (.aload_n 0, 1) := by decide +kernel
theorem dX12_reads_296 : decode cX12_reads 296 = .ok (.getfield 511, 3) := by decide +kernel
theorem dX12_reads_299 : decode cX12_reads 299 = .ok (.ifCond .ne 7, 3) := by decide +kernel
theorem dX12_reads_302 : decode cX12_reads 302 = .ok (.iconst (-1), 1) := by decide +kernel
theorem dX12_reads_303 : decode cX12_reads 303 = .ok (.goto 14, 3) := by decide +kernel
theorem dX12_reads_306 : decode cX12_reads 306 = .ok (.aload_n 0, 1) := by decide +kernel
theorem dX12_reads_307 : decode cX12_reads 307 = .ok (.getfield 253, 3) := by decide +kernel
theorem dX12_reads_310 : decode cX12_reads 310 = .ok (.aload_n 0, 1) := by decide +kernel
theorem dX12_reads_311 : decode cX12_reads 311 = .ok (.getfield 511, 3) := by decide +kernel
theorem dX12_reads_314 : decode cX12_reads 314 = .ok (.iconst 1, 1) := by decide +kernel
theorem dX12_reads_315 : decode cX12_reads 315 = .ok (.isub, 1) := by decide +kernel
theorem dX12_reads_316 : decode cX12_reads 316 = .ok (.iaload, 1) := by decide +kernel
theorem dX12_reads_317 : decode cX12_reads 317 = .ok (.istore 9, 2) := by decide +kernel
theorem dX12_reads_319 : decode cX12_reads 319 = .ok (.aload_n 0, 1) := by decide +kernel
theorem dX12_reads_320 : decode cX12_reads 320 = .ok (.getfield 7, 3) := by decide +kernel
theorem dX12_reads_323 : decode cX12_reads 323 = .ok (.bipush 40, 2) := by decide +kernel
theorem dX12_reads_325 : decode cX12_reads 325 = .ok (.iload 8, 2) := by decide +kernel
theorem dX12_reads_327 : decode cX12_reads 327 = .ok (.invokestatic 11, 3) := by decide +kernel
theorem dX12_reads_330 : decode cX12_reads 330 = .ok (.iconst 1, 1) := by decide +kernel
theorem dX12_reads_331 : decode cX12_reads 331 = .ok (.iadd, 1) := by decide +kernel
theorem dX12_reads_332 : decode cX12_reads 332 = .ok (.iload 9, 2) := by decide +kernel
theorem dX12_reads_334 : decode cX12_reads 334 = .ok (.iastore, 1) := by decide +kernel
theorem dX12_reads_335 : decode cX12_reads 335 = .ok (.iload 9, 2) := by decide +kernel
theorem dX12_reads_337 : decode cX12_reads 337 = .ok (.iconst (-1), 1) := by decide +kernel
theorem dX12_reads_338 : decode cX12_reads 338 = .ok (.if_icmp .eq 110, 3) := by decide +kernel
theorem dX12_reads_341 : decode cX12_reads 341 = .ok (.aload_n 0, 1) := by decide +kernel
theorem dX12_reads_342 : decode cX12_reads 342 = .ok (.getfield 7, 3) := by decide +kernel
theorem dX12_reads_345 : decode cX12_reads 345 = .ok (.bipush 40, 2) := by decide +kernel
theorem dX12_reads_347 : decode cX12_reads 347 = .ok (.iload 9, 2) := by decide +kernel
theorem dX12_reads_349 : decode cX12_reads 349 = .ok (.invokestatic 11, 3) := by decide +kernel
theorem dX12_reads_352 : decode cX12_reads 352 = .ok (.iconst 3, 1) := by decide +kernel
theorem dX12_reads_353 : decode cX12_reads 353 = .ok (.iadd, 1) := by decide +kernel
theorem dX12_reads_354 : decode cX12_reads 354 = .ok (.dup2, 1) := by decide +kernel
theorem dX12_reads_355 : decode cX12_reads 355 = .ok (.iaload, 1) := by decide +kernel
theorem dX12_reads_356 : decode cX12_reads 356 = .ok (.iconst 1, 1) := by decide +kernel
theorem dX12_reads_357 : decode cX12_reads 357 = .ok (.iadd, 1) := by decide +kernel
theorem dX12_reads_358 : decode cX12_reads 358 = .ok (.iastore, 1) := by decide +kernel
theorem dX12_reads_359 : decode cX12_reads 359 = .ok (.aload_n 0, 1) := by decide +kernel
theorem dX12_reads_360 : decode cX12_reads 360 = .ok (.getfield 7, 3) := by decide +kernel
theorem dX12_reads_363 : decode cX12_reads 363 = .ok (.bipush 40, 2) := by decide +kernel
theorem dX12_reads_365 : decode cX12_reads 365 = .ok (.iload 8, 2) := by decide +kernel
theorem dX12_reads_367 : decode cX12_reads 367 = .ok (.invokestatic 11, 3) := by decide +kernel
theorem dX12_reads_370 : decode cX12_reads 370 = .ok (.iconst 5, 1) := by decide +kernel
theorem dX12_reads_371 : decode cX12_reads 371 = .ok (.iadd, 1) := by decide +kernel
theorem dX12_reads_372 : decode cX12_reads 372 = .ok (.aload_n 0, 1) := by decide +kernel
theorem dX12_reads_373 : decode cX12_reads 373 = .ok (.bipush 40, 2) := by decide +kernel
theorem dX12_reads_375 : decode cX12_reads 375 = .ok (.iload 9, 2) := by decide +kernel
theorem dX12_reads_377 : decode cX12_reads 377 = .ok (.invokevirtual 52, 3) := by decide +kernel
theorem dX12_reads_380 : decode cX12_reads 380 = .ok (.iconst 5, 1) := by decide +kernel
theorem dX12_reads_381 : decode cX12_reads 381 = .ok (.if_icmp .ne 10, 3) := by decide +kernel
theorem dX12_reads_384 : decode cX12_reads 384 = .ok (.aload_n 0, 1) := by decide +kernel
theorem dX12_reads_385 : decode cX12_reads 385 = .ok (.getfield 508, 3) := by decide +kernel
theorem dX12_reads_388 : decode cX12_reads 388 = .ok (.goto 4, 3) := by decide +kernel
theorem dX12_reads_391 : decode cX12_reads 391 = .ok (.iconst 0, 1) := by decide +kernel
theorem dX12_reads_392 : decode cX12_reads 392 = .ok (.iastore, 1) := by decide +kernel
theorem dX12_reads_393 : decode cX12_reads 393 = .ok (.iconst 0, 1) := by decide +kernel
theorem dX12_reads_394 : decode cX12_reads 394 = .ok (.istore 10, 2) := by decide +kernel
theorem dX12_reads_396 : decode cX12_reads 396 = .ok (.iload 10, 2) := by decide +kernel
theorem dX12_reads_398 : decode cX12_reads 398 = .ok (.aload_n 0, 1) := by decide +kernel
theorem dX12_reads_399 : decode cX12_reads 399 = .ok (.getfield 508, 3) := by decide +kernel
theorem dX12_reads_402 : decode cX12_reads 402 = .ok (.if_icmp .ge 46, 3) := by decide +kernel
theorem dX12_reads_405 : decode cX12_reads 405 = .ok (.aload_n 0, 1) := by decide +kernel
theorem dX12_reads_406 : decode cX12_reads 406 = .ok (.bipush 40, 2) := by decide +kernel
theorem dX12_reads_408 : decode cX12_reads 408 = .ok (.iload 9, 2) := by decide +kernel
theorem dX12_reads_410 : decode cX12_reads 410 = .ok (.invokevirtual 52, 3) := by decide +kernel
theorem dX12_reads_413 : decode cX12_reads 413 = .ok (.iconst 5, 1) := by decide +kernel
theorem dX12_reads_414 : decode cX12_reads 414 = .ok (.if_icmp .ne 34, 3) := by decide +kernel
theorem dX12_reads_417 : decode cX12_reads 417 = .ok (.aload_n 0, 1) := by decide +kernel
theorem dX12_reads_418 : decode cX12_reads 418 = .ok (.getfield 7, 3) := by decide +kernel
theorem dX12_reads_421 : decode cX12_reads 421 = .ok (.bipush 40, 2) := by decide +kernel
theorem dX12_reads_423 : decode cX12_reads 423 = .ok (.iload 8, 2) := by decide +kernel
theorem dX12_reads_425 : decode cX12_reads 425 = .ok (.invokestatic 11, 3) := by decide +kernel
theorem dX12_reads_428 : decode cX12_reads 428 = .ok (.bipush 6, 2) := by decide +kernel
theorem dX12_reads_430 : decode cX12_reads 430 = .ok (.iadd, 1) := by decide +kernel
theorem dX12_reads_431 : decode cX12_reads 431 = .ok (.iload 10, 2) := by decide +kernel
theorem dX12_reads_433 : decode cX12_reads 433 = .ok (.iadd, 1) := by decide +kernel
theorem dX12_reads_434 : decode cX12_reads 434 = .ok (.aload_n 0, 1) := by decide +kernel
theorem dX12_reads_435 : decode cX12_reads 435 = .ok (.getfield 256, 3) := by decide +kernel
theorem dX12_reads_438 : decode cX12_reads 438 = .ok (.iload 10, 2) := by decide +kernel
theorem dX12_reads_440 : decode cX12_reads 440 = .ok (.iaload, 1) := by decide +kernel
theorem dX12_reads_441 : decode cX12_reads 441 = .ok (.iastore, 1) := by decide +kernel
theorem dX12_reads_442 : decode cX12_reads 442 = .ok (.iinc 10 1, 3) := by decide +kernel
theorem dX12_reads_445 : decode cX12_reads 445 = .ok (.goto (-49), 3) := by decide +kernel
theorem dX12_reads_448 : decode cX12_reads 448 = .ok (.aload_n 0, 1) := by decide +kernel
theorem dX12_reads_449 : decode cX12_reads 449 = .ok (.iload 8, 2) := by decide +kernel
theorem dX12_reads_451 : decode cX12_reads 451 = .ok (.invokevirtual 526, 3) := by decide +kernel
theorem dX12_reads_454 : decode cX12_reads 454 = .ok (.ifCond .ne 8, 3) := by decide +kernel
theorem dX12_reads_457 : decode cX12_reads 457 = .ok (.aload_n 0, 1) := by decide +kernel
theorem dX12_reads_458 : decode cX12_reads 458 = .ok (.getfield 468, 3) := by decide +kernel
theorem dX12_reads_461 : decode cX12_reads 461 = .ok (.ireturn, 1) := by decide +kernel
theorem dX12_reads_462 : decode cX12_reads 462 = .ok (.iload 7, 2) := by decide +kernel
theorem dX12_reads_464 : decode cX12_reads 464 = .ok (.iconst 4, 1) := by decide +kernel
theorem dX12_reads_465 : decode cX12_reads 465 = .ok (.if_icmp .ne 7, 3) := by decide +kernel
theorem dX12_reads_468 : decode cX12_reads 468 = .ok (.iconst 1, 1) := by decide +kernel
theorem dX12_reads_469 : decode cX12_reads 469 = .ok (.goto 14, 3) := by decide +kernel
theorem dX12_reads_472 : decode cX12_reads 472 = .ok (.iload 7, 2) := by decide +kernel
theorem dX12_reads_474 : decode cX12_reads 474 = .ok (.iconst 5, 1) := by decide +kernel
theorem dX12_reads_475 : decode cX12_reads 475 = .ok (.if_icmp .ne 7, 3) := by decide +kernel
theorem dX12_reads_478 : decode cX12_reads 478 = .ok (.iconst 2, 1) := by decide +kernel
theorem dX12_reads_479 : decode cX12_reads 479 = .ok (.goto 4, 3) := by decide +kernel
theorem dX12_reads_482 : decode cX12_reads 482 = .ok (.iconst 4, 1) := by decide +kernel
theorem dX12_reads_483 : decode cX12_reads 483 = .ok (.istore_n 3, 1) := by decide +kernel
theorem dX12_reads_484 : decode cX12_reads 484 = .ok (.iload 7, 2) := by decide +kernel
theorem dX12_reads_486 : decode cX12_reads 486 = .ok (.iconst 4, 1) := by decide +kernel
theorem dX12_reads_487 : decode cX12_reads 487 = .ok (.if_icmp .lt 24, 3) := by decide +kernel
theorem dX12_reads_490 : decode cX12_reads 490 = .ok (.aload_n 0, 1) := by decide +kernel
theorem dX12_reads_491 : decode cX12_reads 491 = .ok (.getfield 253, 3) := by decide +kernel
theorem dX12_reads_494 : decode cX12_reads 494 = .ok (.aload_n 0, 1) := by decide +kernel
theorem dX12_reads_495 : decode cX12_reads 495 = .ok (.getfield 511, 3) := by decide +kernel
theorem dX12_reads_498 : decode cX12_reads 498 = .ok (.iload 8, 2) := by decide +kernel
theorem dX12_reads_500 : decode cX12_reads 500 = .ok (.iastore, 1) := by decide +kernel
theorem dX12_reads_501 : decode cX12_reads 501 = .ok (.aload_n 0, 1) := by decide +kernel
theorem dX12_reads_502 : decode cX12_reads 502 = .ok (.dup, 1) := by decide +kernel
theorem dX12_reads_503 : decode cX12_reads 503 = .ok (.getfield 511, 3) := by decide +kernel
theorem dX12_reads_506 : decode cX12_reads 506 = .ok (.iconst 1, 1) := by decide +kernel
theorem dX12_reads_507 : decode cX12_reads 507 = .ok (.iadd, 1) := by decide +kernel
theorem dX12_reads_508 : decode cX12_reads 508 = .ok (.putfield 511, 3) := by decide +kernel
theorem dX12_reads_511 : decode cX12_reads 511 = .ok (.goto (-488), 3) := by decide +kernel
theorem dX12_reads_514 : decode cX12_reads 514 = .ok (.aload_n 0, 1) := by decide +kernel
theorem dX12_reads_515 : decode cX12_reads 515 = .ok (.getfield 468, 3) := by decide +kernel
theorem dX12_reads_518 : decode cX12_reads 518 = .ok (.aload_n 0, 1) := by decide +kernel
theorem dX12_reads_519 : decode cX12_reads 519 = .ok (.getfield 445, 3) := by decide +kernel
theorem dX12_reads_522 : decode cX12_reads 522 = .ok (.if_icmp .ge 8, 3) := by decide +kernel
theorem dX12_reads_525 : decode cX12_reads 525 = .ok (.aload_n 0, 1) := by decide +kernel
theorem dX12_reads_526 : decode cX12_reads 526 = .ok (.getfield 468, 3) := by decide +kernel
theorem dX12_reads_529 : decode cX12_reads 529 = .ok (.ireturn, 1) := by decide +kernel
theorem dX12_reads_530 : decode cX12_reads 530 = .ok (.aload_n 0, 1) := by decide +kernel
theorem dX12_reads_531 : decode cX12_reads 531 = .ok (.bipush 40, 2) := by decide +kernel
theorem dX12_reads_533 : decode cX12_reads 533 = .ok (.invokevirtual 55, 3) := by decide +kernel
theorem dX12_reads_536 : decode cX12_reads 536 = .ok (.aload_n 0, 1) := by decide +kernel
theorem dX12_reads_537 : decode cX12_reads 537 = .ok (.bipush 40, 2) := by decide +kernel
theorem dX12_reads_539 : decode cX12_reads 539 = .ok (.iconst 0, 1) := by decide +kernel
theorem dX12_reads_540 : decode cX12_reads 540 = .ok (.bipush 41, 2) := by decide +kernel
theorem dX12_reads_542 : decode cX12_reads 542 = .ok (.iload_n 1, 1) := by decide +kernel
theorem dX12_reads_543 : decode cX12_reads 543 = .ok (.iconst 2, 1) := by decide +kernel
theorem dX12_reads_544 : decode cX12_reads 544 = .ok (.if_icmp .ne 7, 3) := by decide +kernel
theorem dX12_reads_547 : decode cX12_reads 547 = .ok (.iconst 3, 1) := by decide +kernel
theorem dX12_reads_548 : decode cX12_reads 548 = .ok (.goto 4, 3) := by decide +kernel
theorem dX12_reads_551 : decode cX12_reads 551 = .ok (.iconst 2, 1) := by decide +kernel
theorem dX12_reads_552 : decode cX12_reads 552 = .ok (.invokevirtual 529, 3) := by decide +kernel
theorem dX12_reads_555 : decode cX12_reads 555 = .ok (.aload_n 0, 1) := by decide +kernel
theorem dX12_reads_556 : decode cX12_reads 556 = .ok (.bipush 40, 2) := by decide +kernel
theorem dX12_reads_558 : decode cX12_reads 558 = .ok (.bipush 41, 2) := by decide +kernel
theorem dX12_reads_560 : decode cX12_reads 560 = .ok (.invokevirtual 452, 3) := by decide +kernel
theorem dX12_reads_563 : decode cX12_reads 563 = .ok (.aload_n 0, 1) := by decide +kernel
theorem dX12_reads_564 : decode cX12_reads 564 = .ok (.bipush 40, 2) := by decide +kernel
theorem dX12_reads_566 : decode cX12_reads 566 = .ok (.invokevirtual 55, 3) := by decide +kernel
theorem dX12_reads_569 : decode cX12_reads 569 = .ok (.iconst (-1), 1) := by decide +kernel
theorem dX12_reads_570 : decode cX12_reads 570 = .ok (.ireturn, 1) := by decide +kernel
theorem dX12_rule_0 : decode cX12_rule 0 = .ok (.aload_n 0, 1) := by decide +kernel
theorem dX12_rule_1 : decode cX12_rule 1 = .ok (.iload_n 1, 1) := by decide +kernel
theorem dX12_rule_2 : decode cX12_rule 2 = .ok (.iconst 0, 1) := by decide +kernel
theorem dX12_rule_3 : decode cX12_rule 3 = .ok (.iconst 2, 1) := by decide +kernel
theorem dX12_rule_4 : decode cX12_rule 4 = .ok (.invokestatic 18, 3) := by decide +kernel
theorem dX12_rule_7 : decode cX12_rule 7 = .ok (.iconst 1, 1) := by decide +kernel
theorem dX12_rule_8 : decode cX12_rule 8 = .ok (.invokevirtual 456, 3) := by decide +kernel
theorem dX12_rule_11 : decode cX12_rule 11 = .ok (.ifCond .eq 5, 3) := by decide +kernel
theorem dX12_rule_14 : decode cX12_rule 14 = .ok (.iconst 0, 1) := by decide +kernel
theorem dX12_rule_15 : decode cX12_rule 15 = .ok (.ireturn, 1) := by decide +kernel
theorem dX12_rule_16 : decode cX12_rule 16 = .ok (.aload_n 0, 1) := by decide +kernel
theorem dX12_rule_17 : decode cX12_rule 17 = .ok (.getfield 533, 3) := by decide +kernel
theorem dX12_rule_20 : decode cX12_rule 20 = .ok (.istore_n 2, 1) := by decide +kernel
theorem dX12_rule_21 : decode cX12_rule 21 = .ok (.aload_n 0, 1) := by decide +kernel
theorem dX12_rule_22 : decode cX12_rule 22 = .ok (.iload_n 1, 1) := by decide +kernel
theorem dX12_rule_23 : decode cX12_rule 23 = .ok (.putfield 533, 3) := by decide +kernel
theorem dX12_rule_26 : decode cX12_rule 26 = .ok (.iload_n 2, 1) := by decide +kernel
theorem dX12_rule_27 : decode cX12_rule 27 = .ok (.ireturn, 1) := by decide +kernel
theorem dX12_read_0 : decode cX12_read 0 = .ok (.aload_n 0, 1) := by decide +kernel
theorem dX12_read_1 : decode cX12_read 1 = .ok (.aload_n 0, 1) := by decide +kernel
theorem dX12_read_2 : decode cX12_read 2 = .ok (.getfield 15, 3) := by decide +kernel
theorem dX12_read_5 : decode cX12_read 5 = .ok (.bipush 40, 2) := by decide +kernel
theorem dX12_read_7 : decode cX12_read 7 = .ok (.if_icmp .ge 7, 3) := by decide +kernel
theorem dX12_read_10 : decode cX12_read 10 = .ok (.iconst 1, 1) := by decide +kernel
theorem dX12_read_11 : decode cX12_read 11 = .ok (.goto 4, 3) := by decide +kernel
theorem dX12_read_14 : decode cX12_read 14 = .ok (.iconst 0, 1) := by decide +kernel
theorem dX12_read_15 : decode cX12_read 15 = .ok (.iconst 1, 1) := by decide +kernel
theorem dX12_read_16 : decode cX12_read 16 = .ok (.invokevirtual 456, 3) := by decide +kernel
theorem dX12_read_19 : decode cX12_read 19 = .ok (.ifCond .eq 5, 3) := by decide +kernel
theorem dX12_read_22 : decode cX12_read 22 = .ok (.iconst 0, 1) := by decide +kernel
theorem dX12_read_23 : decode cX12_read 23 = .ok (.ireturn, 1) := by decide +kernel
theorem dX12_read_24 : decode cX12_read 24 = .ok (.aload_n 0, 1) := by decide +kernel
theorem dX12_read_25 : decode cX12_read 25 = .ok (.aload_n 0, 1) := by decide +kernel
theorem dX12_read_26 : decode cX12_read 26 = .ok (.getfield 460, 3) := by decide +kernel
theorem dX12_read_29 : decode cX12_read 29 = .ok (.putfield 445, 3) := by decide +kernel
theorem dX12_read_32 : decode cX12_read 32 = .ok (.iconst 0, 1) := by decide +kernel
theorem dX12_read_33 : decode cX12_read 33 = .ok (.istore_n 1, 1) := by decide +kernel
theorem dX12_read_34 : decode cX12_read 34 = .ok (.iload_n 1, 1) := by decide +kernel
theorem dX12_read_35 : decode cX12_read 35 = .ok (.aload_n 0, 1) := by decide +kernel
theorem dX12_read_36 : decode cX12_read 36 = .ok (.getfield 460, 3) := by decide +kernel
theorem dX12_read_39 : decode cX12_read 39 = .ok (.if_icmp .ge 21, 3) := by decide +kernel
theorem dX12_read_42 : decode cX12_read 42 = .ok (.aload_n 0, 1) := by decide +kernel
theorem dX12_read_43 : decode cX12_read 43 = .ok (.getfield 95, 3) := by decide +kernel
theorem dX12_read_46 : decode cX12_read 46 = .ok (.iload_n 1, 1) := by decide +kernel
theorem dX12_read_47 : decode cX12_read 47 = .ok (.aload_n 0, 1) := by decide +kernel
theorem dX12_read_48 : decode cX12_read 48 = .ok (.getfield 88, 3) := by decide +kernel
theorem dX12_read_51 : decode cX12_read 51 = .ok (.iload_n 1, 1) := by decide +kernel
theorem dX12_read_52 : decode cX12_read 52 = .ok (.iaload, 1) := by decide +kernel
theorem dX12_read_53 : decode cX12_read 53 = .ok (.iastore, 1) := by decide +kernel
theorem dX12_read_54 : decode cX12_read 54 = .ok (.iinc 1 1, 3) := by decide +kernel
theorem dX12_read_57 : decode cX12_read 57 = .ok (.goto (-23), 3) := by decide +kernel
theorem dX12_read_60 : decode cX12_read 60 = .ok (.aload_n 0, 1) := by decide +kernel
theorem dX12_read_61 : decode cX12_read 61 = .ok (.iconst 0, 1) := by decide +kernel
theorem dX12_read_62 : decode cX12_read 62 = .ok (.putfield 460, 3) := by decide +kernel
theorem dX12_read_65 : decode cX12_read 65 = .ok (.aload_n 0, 1) := by decide +kernel
theorem dX12_read_66 : decode cX12_read 66 = .ok (.aload_n 0, 1) := by decide +kernel
theorem dX12_read_67 : decode cX12_read 67 = .ok (.getfield 533, 3) := by decide +kernel
theorem dX12_read_70 : decode cX12_read 70 = .ok (.invokevirtual 448, 3) := by decide +kernel
theorem dX12_read_73 : decode cX12_read 73 = .ok (.istore_n 1, 1) := by decide +kernel
theorem dX12_read_74 : decode cX12_read 74 = .ok (.iload_n 1, 1) := by decide +kernel
theorem dX12_read_75 : decode cX12_read 75 = .ok (.iconst (-1), 1) := by decide +kernel
theorem dX12_read_76 : decode cX12_read 76 = .ok (.if_icmp .ne 12, 3) := by decide +kernel
theorem dX12_read_79 : decode cX12_read 79 = .ok (.aload_n 0, 1) := by decide +kernel
theorem dX12_read_80 : decode cX12_read 80 = .ok (.bipush 40, 2) := by decide +kernel
theorem dX12_read_82 : decode cX12_read 82 = .ok (.invokevirtual 536, 3) := by decide +kernel
theorem dX12_read_85 : decode cX12_read 85 = .ok (.goto 7, 3) := by decide +kernel
theorem dX12_read_88 : decode cX12_read 88 = .ok (.bipush (-2), 2) := by decide +kernel
theorem dX12_read_90 : decode cX12_read 90 = .ok (.iload_n 1, 1) := by decide +kernel
theorem dX12_read_91 : decode cX12_read 91 = .ok (.isub, 1) := by decide +kernel
theorem dX12_read_92 : decode cX12_read 92 = .ok (.ireturn, 1) := by decide +kernel
theorem dX12_nextChild_0 : decode cX12_nextChild 0 = .ok (.iload_n 3, 1) := by decide +kernel
theorem dX12_nextChild_1 : decode cX12_nextChild 1 = .ok (.iconst (-1), 1) := by decide +kernel
theorem dX12_nextChild_2 : decode cX12_nextChild 2 = .ok (.if_icmp .ne 9, 3) := by decide +kernel
theorem dX12_nextChild_5 : decode cX12_nextChild 5 = .ok (.iload_n 2, 1) := by decide +kernel
theorem dX12_nextChild_6 : decode cX12_nextChild 6 = .ok (.iconst 1, 1) := by decide +kernel
theorem dX12_nextChild_7 : decode cX12_nextChild 7 = .ok (.iadd, 1) := by decide +kernel
theorem dX12_nextChild_8 : decode cX12_nextChild 8 = .ok (.goto 9, 3) := by decide +kernel
theorem dX12_nextChild_11 : decode cX12_nextChild 11 = .ok (.aload_n 0, 1) := by decide +kernel
theorem dX12_nextChild_12 : decode cX12_nextChild 12 = .ok (.iload_n 1, 1) := by decide +kernel
theorem dX12_nextChild_13 : decode cX12_nextChild 13 = .ok (.iload_n 3, 1) := by decide +kernel
theorem dX12_nextChild_14 : decode cX12_nextChild 14 = .ok (.invokevirtual 49, 3) := by decide +kernel
theorem dX12_nextChild_17 : decode cX12_nextChild 17 = .ok (.istore 5, 2) := by decide +kernel
theorem dX12_nextChild_19 : decode cX12_nextChild 19 = .ok (.iload 4, 2) := by decide +kernel
theorem dX12_nextChild_21 : decode cX12_nextChild 21 = .ok (.ifCond .eq 13, 3) := by decide +kernel
theorem dX12_nextChild_24 : decode cX12_nextChild 24 = .ok (.aload_n 0, 1) := by decide +kernel
theorem dX12_nextChild_25 : decode cX12_nextChild 25 = .ok (.iload_n 1, 1) := by decide +kernel
theorem dX12_nextChild_26 : decode cX12_nextChild 26 = .ok (.iload_n 2, 1) := by decide +kernel
theorem dX12_nextChild_27 : decode cX12_nextChild 27 = .ok (.invokevirtual 52, 3) := by decide +kernel
theorem dX12_nextChild_30 : decode cX12_nextChild 30 = .ok (.iconst 4, 1) := by decide +kernel
theorem dX12_nextChild_31 : decode cX12_nextChild 31 = .ok (.if_icmp .ne 21, 3) := by decide +kernel
theorem dX12_nextChild_34 : decode cX12_nextChild 34 = .ok (.iload 5, 2) := by decide +kernel
theorem dX12_nextChild_36 : decode cX12_nextChild 36 = .ok (.aload_n 0, 1) := by decide +kernel
theorem dX12_nextChild_37 : decode cX12_nextChild 37 = .ok (.iload_n 1, 1) := by decide +kernel
theorem dX12_nextChild_38 : decode cX12_nextChild 38 = .ok (.iload_n 2, 1) := by decide +kernel
theorem dX12_nextChild_39 : decode cX12_nextChild 39 = .ok (.invokevirtual 49, 3) := by decide +kernel
theorem dX12_nextChild_42 : decode cX12_nextChild 42 = .ok (.if_icmp .ge 8, 3) := by decide +kernel
theorem dX12_nextChild_45 : decode cX12_nextChild 45 = .ok (.iload 5, 2) := by decide +kernel
theorem dX12_nextChild_47 : decode cX12_nextChild 47 = .ok (.goto 4, 3) := by decide +kernel
theorem dX12_nextChild_50 : decode cX12_nextChild 50 = .ok (.iconst (-1), 1) := by decide +kernel
theorem dX12_nextChild_51 : decode cX12_nextChild 51 = .ok (.ireturn, 1) := by decide +kernel
theorem dX12_nextChild_52 : decode cX12_nextChild 52 = .ok (.iload 4, 2) := by decide +kernel
theorem dX12_nextChild_54 : decode cX12_nextChild 54 = .ok (.iconst 1, 1) := by decide +kernel
theorem dX12_nextChild_55 : decode cX12_nextChild 55 = .ok (.if_icmp .ne 101, 3) := by decide +kernel
theorem dX12_nextChild_58 : decode cX12_nextChild 58 = .ok (.iconst (-1), 1) := by decide +kernel
theorem dX12_nextChild_59 : decode cX12_nextChild 59 = .ok (.istore 6, 2) := by decide +kernel
theorem dX12_nextChild_61 : decode cX12_nextChild 61 = .ok (.iload_n 2, 1) := by decide +kernel
theorem dX12_nextChild_62 : decode cX12_nextChild 62 = .ok (.iconst 1, 1) := by decide +kernel
theorem dX12_nextChild_63 : decode cX12_nextChild 63 = .ok (.iadd, 1) := by decide +kernel
theorem dX12_nextChild_64 : decode cX12_nextChild 64 = .ok (.istore 5, 2) := by decide +kernel
theorem dX12_nextChild_66 : decode cX12_nextChild 66 = .ok (.iconst 0, 1) := by decide +kernel
theorem dX12_nextChild_67 : decode cX12_nextChild 67 = .ok (.istore 7, 2) := by decide +kernel
theorem dX12_nextChild_69 : decode cX12_nextChild 69 = .ok (.iload 7, 2) := by decide +kernel
theorem dX12_nextChild_71 : decode cX12_nextChild 71 = .ok (.aload_n 0, 1) := by decide +kernel
theorem dX12_nextChild_72 : decode cX12_nextChild 72 = .ok (.iload_n 1, 1) := by decide +kernel
theorem dX12_nextChild_73 : decode cX12_nextChild 73 = .ok (.iload_n 2, 1) := by decide +kernel
theorem dX12_nextChild_74 : decode cX12_nextChild 74 = .ok (.iconst 3, 1) := by decide +kernel
theorem dX12_nextChild_75 : decode cX12_nextChild 75 = .ok (.invokevirtual 36, 3) := by decide +kernel
theorem dX12_nextChild_78 : decode cX12_nextChild 78 = .ok (.if_icmp .ge 75, 3) := by decide +kernel
theorem dX12_nextChild_81 : decode cX12_nextChild 81 = .ok (.iload_n 3, 1) := by decide +kernel
theorem dX12_nextChild_82 : decode cX12_nextChild 82 = .ok (.iconst (-1), 1) := by decide +kernel
theorem dX12_nextChild_83 : decode cX12_nextChild 83 = .ok (.if_icmp .eq 15, 3) := by decide +kernel
theorem dX12_nextChild_86 : decode cX12_nextChild 86 = .ok (.aload_n 0, 1) := by decide +kernel
theorem dX12_nextChild_87 : decode cX12_nextChild 87 = .ok (.iload_n 1, 1) := by decide +kernel
theorem dX12_nextChild_88 : decode cX12_nextChild 88 = .ok (.iload 5, 2) := by decide +kernel
theorem dX12_nextChild_90 : decode cX12_nextChild 90 = .ok (.iload_n 1, 1) := by decide +kernel
theorem dX12_nextChild_91 : decode cX12_nextChild 91 = .ok (.iload_n 3, 1) := by decide +kernel
theorem dX12_nextChild_92 : decode cX12_nextChild 92 = .ok (.invokevirtual 62, 3) := by decide +kernel
theorem dX12_nextChild_95 : decode cX12_nextChild 95 = .ok (.ifCond .le 7, 3) := by decide +kernel
theorem dX12_nextChild_98 : decode cX12_nextChild 98 = .ok (.iconst 1, 1) := by decide +kernel
theorem dX12_nextChild_99 : decode cX12_nextChild 99 = .ok (.goto 4, 3) := by decide +kernel
theorem dX12_nextChild_102 : decode cX12_nextChild 102 = .ok (.iconst 0, 1) := by decide +kernel
theorem dX12_nextChild_103 : decode cX12_nextChild 103 = .ok (.istore 8, 2) := by decide +kernel
theorem dX12_nextChild_105 : decode cX12_nextChild 105 = .ok (.iload 8, 2) := by decide +kernel
theorem dX12_nextChild_107 : decode cX12_nextChild 107 = .ok (.ifCond .eq 27, 3) := by decide +kernel
theorem dX12_nextChild_110 : decode cX12_nextChild 110 = .ok (.iload 6, 2) := by decide +kernel
theorem dX12_nextChild_112 : decode cX12_nextChild 112 = .ok (.iconst (-1), 1) := by decide +kernel
theorem dX12_nextChild_113 : decode cX12_nextChild 113 = .ok (.if_icmp .eq 16, 3) := by decide +kernel
theorem dX12_nextChild_116 : decode cX12_nextChild 116 = .ok (.aload_n 0, 1) := by decide +kernel
theorem dX12_nextChild_117 : decode cX12_nextChild 117 = .ok (.iload_n 1, 1) := by decide +kernel
theorem dX12_nextChild_118 : decode cX12_nextChild 118 = .ok (.iload 5, 2) := by decide +kernel
theorem dX12_nextChild_120 : decode cX12_nextChild 120 = .ok (.iload_n 1, 1) := by decide +kernel
theorem dX12_nextChild_121 : decode cX12_nextChild 121 = .ok (.iload 6, 2) := by decide +kernel
theorem dX12_nextChild_123 : decode cX12_nextChild 123 = .ok (.invokevirtual 62, 3) := by decide +kernel
theorem dX12_nextChild_126 : decode cX12_nextChild 126 = .ok (.ifCond .ge 8, 3) := by decide +kernel
theorem dX12_nextChild_129 : decode cX12_nextChild 129 = .ok (.iload 5, 2) := by decide +kernel
theorem dX12_nextChild_131 : decode cX12_nextChild 131 = .ok (.goto 5, 3) := by decide +kernel
theorem dX12_nextChild_134 : decode cX12_nextChild 134 = .ok (.iload 6, 2) := by decide +kernel
theorem dX12_nextChild_136 : decode cX12_nextChild 136 = .ok (.istore 6, 2) := by decide +kernel
theorem dX12_nextChild_138 : decode cX12_nextChild 138 = .ok (.aload_n 0, 1) := by decide +kernel
theorem dX12_nextChild_139 : decode cX12_nextChild 139 = .ok (.iload_n 1, 1) := by decide +kernel
theorem dX12_nextChild_140 : decode cX12_nextChild 140 = .ok (.iload 5, 2) := by decide +kernel
theorem dX12_nextChild_142 : decode cX12_nextChild 142 = .ok (.invokevirtual 49, 3) := by decide +kernel
theorem dX12_nextChild_145 : decode cX12_nextChild 145 = .ok (.istore 5, 2) := by decide +kernel
theorem dX12_nextChild_147 : decode cX12_nextChild 147 = .ok (.iinc 7 1, 3) := by decide +kernel
theorem dX12_nextChild_150 : decode cX12_nextChild 150 = .ok (.goto (-81), 3) := by decide +kernel
theorem dX12_nextChild_153 : decode cX12_nextChild 153 = .ok (.iload 6, 2) := by decide +kernel
theorem dX12_nextChild_155 : decode cX12_nextChild 155 = .ok (.ireturn, 1) := by decide +kernel
theorem dX12_nextChild_156 : decode cX12_nextChild 156 = .ok (.iload 5, 2) := by decide +kernel
theorem dX12_nextChild_158 : decode cX12_nextChild 158 = .ok (.aload_n 0, 1) := by decide +kernel
theorem dX12_nextChild_159 : decode cX12_nextChild 159 = .ok (.iload_n 1, 1) := by decide +kernel
theorem dX12_nextChild_160 : decode cX12_nextChild 160 = .ok (.iload_n 2, 1) := by decide +kernel
theorem dX12_nextChild_161 : decode cX12_nextChild 161 = .ok (.invokevirtual 49, 3) := by decide +kernel
theorem dX12_nextChild_164 : decode cX12_nextChild 164 = .ok (.if_icmp .ge 26, 3) := by decide +kernel
theorem dX12_nextChild_167 : decode cX12_nextChild 167 = .ok (.aload_n 0, 1) := by decide +kernel
theorem dX12_nextChild_168 : decode cX12_nextChild 168 = .ok (.iload_n 1, 1) := by decide +kernel
theorem dX12_nextChild_169 : decode cX12_nextChild 169 = .ok (.iload_n 2, 1) := by decide +kernel
theorem dX12_nextChild_170 : decode cX12_nextChild 170 = .ok (.iload 5, 2) := by decide +kernel
theorem dX12_nextChild_172 : decode cX12_nextChild 172 = .ok (.invokevirtual 539, 3) := by decide +kernel
theorem dX12_nextChild_175 : decode cX12_nextChild 175 = .ok (.ifCond .eq 15, 3) := by decide +kernel
theorem dX12_nextChild_178 : decode cX12_nextChild 178 = .ok (.aload_n 0, 1) := by decide +kernel
theorem dX12_nextChild_179 : decode cX12_nextChild 179 = .ok (.iload_n 1, 1) := by decide +kernel
theorem dX12_nextChild_180 : decode cX12_nextChild 180 = .ok (.iload 5, 2) := by decide +kernel
theorem dX12_nextChild_182 : decode cX12_nextChild 182 = .ok (.invokevirtual 49, 3) := by decide +kernel
theorem dX12_nextChild_185 : decode cX12_nextChild 185 = .ok (.istore 5, 2) := by decide +kernel
theorem dX12_nextChild_187 : decode cX12_nextChild 187 = .ok (.goto (-31), 3) := by decide +kernel
theorem dX12_nextChild_190 : decode cX12_nextChild 190 = .ok (.iload 5, 2) := by decide +kernel
theorem dX12_nextChild_192 : decode cX12_nextChild 192 = .ok (.aload_n 0, 1) := by decide +kernel
theorem dX12_nextChild_193 : decode cX12_nextChild 193 = .ok (.iload_n 1, 1) := by decide +kernel
theorem dX12_nextChild_194 : decode cX12_nextChild 194 = .ok (.iload_n 2, 1) := by decide +kernel
theorem dX12_nextChild_195 : decode cX12_nextChild 195 = .ok (.invokevirtual 49, 3) := by decide +kernel
theorem dX12_nextChild_198 : decode cX12_nextChild 198 = .ok (.if_icmp .ge 8, 3) := by decide +kernel
theorem dX12_nextChild_201 : decode cX12_nextChild 201 = .ok (.iload 5, 2) := by decide +kernel
theorem dX12_nextChild_203 : decode cX12_nextChild 203 = .ok (.goto 4, 3) := by decide +kernel
theorem dX12_nextChild_206 : decode cX12_nextChild 206 = .ok (.iconst (-1), 1) := by decide +kernel
theorem dX12_nextChild_207 : decode cX12_nextChild 207 = .ok (.ireturn, 1) := by decide +kernel
theorem dX12_isLater_0 : decode cX12_isLater 0 = .ok (.iload_n 2, 1) := by decide +kernel
theorem dX12_isLater_1 : decode cX12_isLater 1 = .ok (.iconst 1, 1) := by decide +kernel
theorem dX12_isLater_2 : decode cX12_isLater 2 = .ok (.iadd, 1) := by decide +kernel
theorem dX12_isLater_3 : decode cX12_isLater 3 = .ok (.istore 4, 2) := by decide +kernel
theorem dX12_isLater_5 : decode cX12_isLater 5 = .ok (.iload 4, 2) := by decide +kernel
theorem dX12_isLater_7 : decode cX12_isLater 7 = .ok (.iload_n 3, 1) := by decide +kernel
theorem dX12_isLater_8 : decode cX12_isLater 8 = .ok (.if_icmp .ge 29, 3) := by decide +kernel
theorem dX12_isLater_11 : decode cX12_isLater 11 = .ok (.aload_n 0, 1) := by decide +kernel
theorem dX12_isLater_12 : decode cX12_isLater 12 = .ok (.iload_n 1, 1) := by decide +kernel
theorem dX12_isLater_13 : decode cX12_isLater 13 = .ok (.iload 4, 2) := by decide +kernel
theorem dX12_isLater_15 : decode cX12_isLater 15 = .ok (.iload_n 1, 1) := by decide +kernel
theorem dX12_isLater_16 : decode cX12_isLater 16 = .ok (.iload_n 3, 1) := by decide +kernel
theorem dX12_isLater_17 : decode cX12_isLater 17 = .ok (.invokevirtual 62, 3) := by decide +kernel
theorem dX12_isLater_20 : decode cX12_isLater 20 = .ok (.ifCond .ne 5, 3) := by decide +kernel
theorem dX12_isLater_23 : decode cX12_isLater 23 = .ok (.iconst 1, 1) := by decide +kernel
theorem dX12_isLater_24 : decode cX12_isLater 24 = .ok (.ireturn, 1) := by decide +kernel
theorem dX12_isLater_25 : decode cX12_isLater 25 = .ok (.aload_n 0, 1) := by decide +kernel
theorem dX12_isLater_26 : decode cX12_isLater 26 = .ok (.iload_n 1, 1) := by decide +kernel
theorem dX12_isLater_27 : decode cX12_isLater 27 = .ok (.iload 4, 2) := by decide +kernel
theorem dX12_isLater_29 : decode cX12_isLater 29 = .ok (.invokevirtual 49, 3) := by decide +kernel
theorem dX12_isLater_32 : decode cX12_isLater 32 = .ok (.istore 4, 2) := by decide +kernel
theorem dX12_isLater_34 : decode cX12_isLater 34 = .ok (.goto (-29), 3) := by decide +kernel
theorem dX12_isLater_37 : decode cX12_isLater 37 = .ok (.iconst 0, 1) := by decide +kernel
theorem dX12_isLater_38 : decode cX12_isLater 38 = .ok (.ireturn, 1) := by decide +kernel
theorem dX12_lastLike_0 : decode cX12_lastLike 0 = .ok (.iload_n 3, 1) := by decide +kernel
theorem dX12_lastLike_1 : decode cX12_lastLike 1 = .ok (.istore 4, 2) := by decide +kernel
theorem dX12_lastLike_3 : decode cX12_lastLike 3 = .ok (.iload_n 2, 1) := by decide +kernel
theorem dX12_lastLike_4 : decode cX12_lastLike 4 = .ok (.iconst 1, 1) := by decide +kernel
theorem dX12_lastLike_5 : decode cX12_lastLike 5 = .ok (.iadd, 1) := by decide +kernel
theorem dX12_lastLike_6 : decode cX12_lastLike 6 = .ok (.istore 5, 2) := by decide +kernel
theorem dX12_lastLike_8 : decode cX12_lastLike 8 = .ok (.iload 5, 2) := by decide +kernel
theorem dX12_lastLike_10 : decode cX12_lastLike 10 = .ok (.aload_n 0, 1) := by decide +kernel
theorem dX12_lastLike_11 : decode cX12_lastLike 11 = .ok (.iload_n 1, 1) := by decide +kernel
theorem dX12_lastLike_12 : decode cX12_lastLike 12 = .ok (.iload_n 2, 1) := by decide +kernel
theorem dX12_lastLike_13 : decode cX12_lastLike 13 = .ok (.invokevirtual 49, 3) := by decide +kernel
theorem dX12_lastLike_16 : decode cX12_lastLike 16 = .ok (.if_icmp .ge 36, 3) := by decide +kernel
theorem dX12_lastLike_19 : decode cX12_lastLike 19 = .ok (.aload_n 0, 1) := by decide +kernel
theorem dX12_lastLike_20 : decode cX12_lastLike 20 = .ok (.iload_n 1, 1) := by decide +kernel
theorem dX12_lastLike_21 : decode cX12_lastLike 21 = .ok (.iload 5, 2) := by decide +kernel
theorem dX12_lastLike_23 : decode cX12_lastLike 23 = .ok (.iload_n 1, 1) := by decide +kernel
theorem dX12_lastLike_24 : decode cX12_lastLike 24 = .ok (.iload_n 3, 1) := by decide +kernel
theorem dX12_lastLike_25 : decode cX12_lastLike 25 = .ok (.invokevirtual 62, 3) := by decide +kernel
theorem dX12_lastLike_28 : decode cX12_lastLike 28 = .ok (.ifCond .ne 8, 3) := by decide +kernel
theorem dX12_lastLike_31 : decode cX12_lastLike 31 = .ok (.iload 5, 2) := by decide +kernel
theorem dX12_lastLike_33 : decode cX12_lastLike 33 = .ok (.goto 5, 3) := by decide +kernel
theorem dX12_lastLike_36 : decode cX12_lastLike 36 = .ok (.iload 4, 2) := by decide +kernel
theorem dX12_lastLike_38 : decode cX12_lastLike 38 = .ok (.istore 4, 2) := by decide +kernel
theorem dX12_lastLike_40 : decode cX12_lastLike 40 = .ok (.aload_n 0, 1) := by decide +kernel
theorem dX12_lastLike_41 : decode cX12_lastLike 41 = .ok (.iload_n 1, 1) := by decide +kernel
theorem dX12_lastLike_42 : decode cX12_lastLike 42 = .ok (.iload 5, 2) := by decide +kernel
theorem dX12_lastLike_44 : decode cX12_lastLike 44 = .ok (.invokevirtual 49, 3) := by decide +kernel
theorem dX12_lastLike_47 : decode cX12_lastLike 47 = .ok (.istore 5, 2) := by decide +kernel
theorem dX12_lastLike_49 : decode cX12_lastLike 49 = .ok (.goto (-41), 3) := by decide +kernel
theorem dX12_lastLike_52 : decode cX12_lastLike 52 = .ok (.iload 4, 2) := by decide +kernel
theorem dX12_lastLike_54 : decode cX12_lastLike 54 = .ok (.ireturn, 1) := by decide +kernel
theorem dX12_choose_0 : decode cX12_choose 0 = .ok (.aload_n 0, 1) := by decide +kernel
theorem dX12_choose_1 : decode cX12_choose 1 = .ok (.iload_n 3, 1) := by decide +kernel
theorem dX12_choose_2 : decode cX12_choose 2 = .ok (.invokevirtual 517, 3) := by decide +kernel
theorem dX12_choose_5 : decode cX12_choose 5 = .ok (.iconst 0, 1) := by decide +kernel
theorem dX12_choose_6 : decode cX12_choose 6 = .ok (.istore 5, 2) := by decide +kernel
theorem dX12_choose_8 : decode cX12_choose 8 = .ok (.aload_n 0, 1) := by decide +kernel
theorem dX12_choose_9 : decode cX12_choose 9 = .ok (.iload_n 3, 1) := by decide +kernel
theorem dX12_choose_10 : decode cX12_choose 10 = .ok (.iload_n 1, 1) := by decide +kernel
theorem dX12_choose_11 : decode cX12_choose 11 = .ok (.iload_n 2, 1) := by decide +kernel
theorem dX12_choose_12 : decode cX12_choose 12 = .ok (.invokevirtual 40, 3) := by decide +kernel
theorem dX12_choose_15 : decode cX12_choose 15 = .ok (.istore 6, 2) := by decide +kernel
theorem dX12_choose_17 : decode cX12_choose 17 = .ok (.aload_n 0, 1) := by decide +kernel
theorem dX12_choose_18 : decode cX12_choose 18 = .ok (.iload_n 3, 1) := by decide +kernel
theorem dX12_choose_19 : decode cX12_choose 19 = .ok (.iload 6, 2) := by decide +kernel
theorem dX12_choose_21 : decode cX12_choose 21 = .ok (.invokevirtual 542, 3) := by decide +kernel
theorem dX12_choose_24 : decode cX12_choose 24 = .ok (.aload_n 0, 1) := by decide +kernel
theorem dX12_choose_25 : decode cX12_choose 25 = .ok (.getfield 259, 3) := by decide +kernel
theorem dX12_choose_28 : decode cX12_choose 28 = .ok (.iconst 0, 1) := by decide +kernel
theorem dX12_choose_29 : decode cX12_choose 29 = .ok (.iload_n 2, 1) := by decide +kernel
theorem dX12_choose_30 : decode cX12_choose 30 = .ok (.iastore, 1) := by decide +kernel
theorem dX12_choose_31 : decode cX12_choose 31 = .ok (.aload_n 0, 1) := by decide +kernel
theorem dX12_choose_32 : decode cX12_choose 32 = .ok (.getfield 262, 3) := by decide +kernel
theorem dX12_choose_35 : decode cX12_choose 35 = .ok (.iconst 0, 1) := by decide +kernel
theorem dX12_choose_36 : decode cX12_choose 36 = .ok (.iload 6, 2) := by decide +kernel
theorem dX12_choose_38 : decode cX12_choose 38 = .ok (.iastore, 1) := by decide +kernel
theorem dX12_choose_39 : decode cX12_choose 39 = .ok (.aload_n 0, 1) := by decide +kernel
theorem dX12_choose_40 : decode cX12_choose 40 = .ok (.getfield 265, 3) := by decide +kernel
theorem dX12_choose_43 : decode cX12_choose 43 = .ok (.iconst 0, 1) := by decide +kernel
theorem dX12_choose_44 : decode cX12_choose 44 = .ok (.iconst (-1), 1) := by decide +kernel
theorem dX12_choose_45 : decode cX12_choose 45 = .ok (.iastore, 1) := by decide +kernel
theorem dX12_choose_46 : decode cX12_choose 46 = .ok (.iconst 1, 1) := by decide +kernel
theorem dX12_choose_47 : decode cX12_choose 47 = .ok (.istore 5, 2) := by decide +kernel
theorem dX12_choose_49 : decode cX12_choose 49 = .ok (.iload 5, 2) := by decide +kernel
theorem dX12_choose_51 : decode cX12_choose 51 = .ok (.ifCond .le 182, 3) := by decide +kernel
theorem dX12_choose_54 : decode cX12_choose 54 = .ok (.aload_n 0, 1) := by decide +kernel
theorem dX12_choose_55 : decode cX12_choose 55 = .ok (.getfield 259, 3) := by decide +kernel
theorem dX12_choose_58 : decode cX12_choose 58 = .ok (.iload 5, 2) := by decide +kernel
theorem dX12_choose_60 : decode cX12_choose 60 = .ok (.iconst 1, 1) := by decide +kernel
theorem dX12_choose_61 : decode cX12_choose 61 = .ok (.isub, 1) := by decide +kernel
theorem dX12_choose_62 : decode cX12_choose 62 = .ok (.iaload, 1) := by decide +kernel
theorem dX12_choose_63 : decode cX12_choose 63 = .ok (.istore 7, 2) := by decide +kernel
theorem dX12_choose_65 : decode cX12_choose 65 = .ok (.aload_n 0, 1) := by decide +kernel
theorem dX12_choose_66 : decode cX12_choose 66 = .ok (.iload_n 1, 1) := by decide +kernel
theorem dX12_choose_67 : decode cX12_choose 67 = .ok (.iload 7, 2) := by decide +kernel
theorem dX12_choose_69 : decode cX12_choose 69 = .ok (.iconst 3, 1) := by decide +kernel
theorem dX12_choose_70 : decode cX12_choose 70 = .ok (.invokevirtual 36, 3) := by decide +kernel
theorem dX12_choose_73 : decode cX12_choose 73 = .ok (.ifCond .ne 7, 3) := by decide +kernel
theorem dX12_choose_76 : decode cX12_choose 76 = .ok (.iconst (-1), 1) := by decide +kernel
theorem dX12_choose_77 : decode cX12_choose 77 = .ok (.goto 21, 3) := by decide +kernel
theorem dX12_choose_80 : decode cX12_choose 80 = .ok (.aload_n 0, 1) := by decide +kernel
theorem dX12_choose_81 : decode cX12_choose 81 = .ok (.iload_n 1, 1) := by decide +kernel
theorem dX12_choose_82 : decode cX12_choose 82 = .ok (.iload 7, 2) := by decide +kernel
theorem dX12_choose_84 : decode cX12_choose 84 = .ok (.aload_n 0, 1) := by decide +kernel
theorem dX12_choose_85 : decode cX12_choose 85 = .ok (.getfield 265, 3) := by decide +kernel
theorem dX12_choose_88 : decode cX12_choose 88 = .ok (.iload 5, 2) := by decide +kernel
theorem dX12_choose_90 : decode cX12_choose 90 = .ok (.iconst 1, 1) := by decide +kernel
theorem dX12_choose_91 : decode cX12_choose 91 = .ok (.isub, 1) := by decide +kernel
theorem dX12_choose_92 : decode cX12_choose 92 = .ok (.iaload, 1) := by decide +kernel
theorem dX12_choose_93 : decode cX12_choose 93 = .ok (.iload 4, 2) := by decide +kernel
theorem dX12_choose_95 : decode cX12_choose 95 = .ok (.invokevirtual 545, 3) := by decide +kernel
theorem dX12_choose_98 : decode cX12_choose 98 = .ok (.istore 8, 2) := by decide +kernel
theorem dX12_choose_100 : decode cX12_choose 100 = .ok (.iload 8, 2) := by decide +kernel
theorem dX12_choose_102 : decode cX12_choose 102 = .ok (.iconst (-1), 1) := by decide +kernel
theorem dX12_choose_103 : decode cX12_choose 103 = .ok (.if_icmp .ne 9, 3) := by decide +kernel
theorem dX12_choose_106 : decode cX12_choose 106 = .ok (.iinc 5 (-1), 3) := by decide +kernel
theorem dX12_choose_109 : decode cX12_choose 109 = .ok (.goto 121, 3) := by decide +kernel
theorem dX12_choose_112 : decode cX12_choose 112 = .ok (.aload_n 0, 1) := by decide +kernel
theorem dX12_choose_113 : decode cX12_choose 113 = .ok (.getfield 265, 3) := by decide +kernel
theorem dX12_choose_116 : decode cX12_choose 116 = .ok (.iload 5, 2) := by decide +kernel
theorem dX12_choose_118 : decode cX12_choose 118 = .ok (.iconst 1, 1) := by decide +kernel
theorem dX12_choose_119 : decode cX12_choose 119 = .ok (.isub, 1) := by decide +kernel
theorem dX12_choose_120 : decode cX12_choose 120 = .ok (.iload 8, 2) := by decide +kernel
theorem dX12_choose_122 : decode cX12_choose 122 = .ok (.iastore, 1) := by decide +kernel
theorem dX12_choose_123 : decode cX12_choose 123 = .ok (.iload 4, 2) := by decide +kernel
theorem dX12_choose_125 : decode cX12_choose 125 = .ok (.iconst 3, 1) := by decide +kernel
theorem dX12_choose_126 : decode cX12_choose 126 = .ok (.if_icmp .ne 26, 3) := by decide +kernel
theorem dX12_choose_129 : decode cX12_choose 129 = .ok (.aload_n 0, 1) := by decide +kernel
theorem dX12_choose_130 : decode cX12_choose 130 = .ok (.iload_n 1, 1) := by decide +kernel
theorem dX12_choose_131 : decode cX12_choose 131 = .ok (.iload 7, 2) := by decide +kernel
theorem dX12_choose_133 : decode cX12_choose 133 = .ok (.invokevirtual 52, 3) := by decide +kernel
theorem dX12_choose_136 : decode cX12_choose 136 = .ok (.iconst 5, 1) := by decide +kernel
theorem dX12_choose_137 : decode cX12_choose 137 = .ok (.if_icmp .ne 15, 3) := by decide +kernel
theorem dX12_choose_140 : decode cX12_choose 140 = .ok (.aload_n 0, 1) := by decide +kernel
theorem dX12_choose_141 : decode cX12_choose 141 = .ok (.iload_n 1, 1) := by decide +kernel
theorem dX12_choose_142 : decode cX12_choose 142 = .ok (.iload 7, 2) := by decide +kernel
theorem dX12_choose_144 : decode cX12_choose 144 = .ok (.iload 8, 2) := by decide +kernel
theorem dX12_choose_146 : decode cX12_choose 146 = .ok (.invokevirtual 548, 3) := by decide +kernel
theorem dX12_choose_149 : decode cX12_choose 149 = .ok (.goto 5, 3) := by decide +kernel
theorem dX12_choose_152 : decode cX12_choose 152 = .ok (.iload 8, 2) := by decide +kernel
theorem dX12_choose_154 : decode cX12_choose 154 = .ok (.istore 9, 2) := by decide +kernel
theorem dX12_choose_156 : decode cX12_choose 156 = .ok (.aload_n 0, 1) := by decide +kernel
theorem dX12_choose_157 : decode cX12_choose 157 = .ok (.iload_n 3, 1) := by decide +kernel
theorem dX12_choose_158 : decode cX12_choose 158 = .ok (.iload_n 1, 1) := by decide +kernel
theorem dX12_choose_159 : decode cX12_choose 159 = .ok (.iload 9, 2) := by decide +kernel
theorem dX12_choose_161 : decode cX12_choose 161 = .ok (.invokevirtual 40, 3) := by decide +kernel
theorem dX12_choose_164 : decode cX12_choose 164 = .ok (.istore 6, 2) := by decide +kernel
theorem dX12_choose_166 : decode cX12_choose 166 = .ok (.aload_n 0, 1) := by decide +kernel
theorem dX12_choose_167 : decode cX12_choose 167 = .ok (.getfield 7, 3) := by decide +kernel
theorem dX12_choose_170 : decode cX12_choose 170 = .ok (.iload_n 3, 1) := by decide +kernel
theorem dX12_choose_171 : decode cX12_choose 171 = .ok (.aload_n 0, 1) := by decide +kernel
theorem dX12_choose_172 : decode cX12_choose 172 = .ok (.getfield 262, 3) := by decide +kernel
theorem dX12_choose_175 : decode cX12_choose 175 = .ok (.iload 5, 2) := by decide +kernel
theorem dX12_choose_177 : decode cX12_choose 177 = .ok (.iconst 1, 1) := by decide +kernel
theorem dX12_choose_178 : decode cX12_choose 178 = .ok (.isub, 1) := by decide +kernel
theorem dX12_choose_179 : decode cX12_choose 179 = .ok (.iaload, 1) := by decide +kernel
theorem dX12_choose_180 : decode cX12_choose 180 = .ok (.invokestatic 11, 3) := by decide +kernel
theorem dX12_choose_183 : decode cX12_choose 183 = .ok (.iconst 3, 1) := by decide +kernel
theorem dX12_choose_184 : decode cX12_choose 184 = .ok (.iadd, 1) := by decide +kernel
theorem dX12_choose_185 : decode cX12_choose 185 = .ok (.dup2, 1) := by decide +kernel
theorem dX12_choose_186 : decode cX12_choose 186 = .ok (.iaload, 1) := by decide +kernel
theorem dX12_choose_187 : decode cX12_choose 187 = .ok (.iconst 1, 1) := by decide +kernel
theorem dX12_choose_188 : decode cX12_choose 188 = .ok (.iadd, 1) := by decide +kernel
theorem dX12_choose_189 : decode cX12_choose 189 = .ok (.iastore, 1) := by decide +kernel
theorem dX12_choose_190 : decode cX12_choose 190 = .ok (.aload_n 0, 1) := by decide +kernel
theorem dX12_choose_191 : decode cX12_choose 191 = .ok (.iload_n 1, 1) := by decide +kernel
theorem dX12_choose_192 : decode cX12_choose 192 = .ok (.iload 9, 2) := by decide +kernel
theorem dX12_choose_194 : decode cX12_choose 194 = .ok (.iconst 3, 1) := by decide +kernel
theorem dX12_choose_195 : decode cX12_choose 195 = .ok (.invokevirtual 36, 3) := by decide +kernel
theorem dX12_choose_198 : decode cX12_choose 198 = .ok (.ifCond .le 32, 3) := by decide +kernel
theorem dX12_choose_201 : decode cX12_choose 201 = .ok (.aload_n 0, 1) := by decide +kernel
theorem dX12_choose_202 : decode cX12_choose 202 = .ok (.getfield 259, 3) := by decide +kernel
theorem dX12_choose_205 : decode cX12_choose 205 = .ok (.iload 5, 2) := by decide +kernel
theorem dX12_choose_207 : decode cX12_choose 207 = .ok (.iload 9, 2) := by decide +kernel
theorem dX12_choose_209 : decode cX12_choose 209 = .ok (.iastore, 1) := by decide +kernel
theorem dX12_choose_210 : decode cX12_choose 210 = .ok (.aload_n 0, 1) := by decide +kernel
theorem dX12_choose_211 : decode cX12_choose 211 = .ok (.getfield 262, 3) := by decide +kernel
theorem dX12_choose_214 : decode cX12_choose 214 = .ok (.iload 5, 2) := by decide +kernel
theorem dX12_choose_216 : decode cX12_choose 216 = .ok (.iload 6, 2) := by decide +kernel
theorem dX12_choose_218 : decode cX12_choose 218 = .ok (.iastore, 1) := by decide +kernel
theorem dX12_choose_219 : decode cX12_choose 219 = .ok (.aload_n 0, 1) := by decide +kernel
theorem dX12_choose_220 : decode cX12_choose 220 = .ok (.getfield 265, 3) := by decide +kernel
theorem dX12_choose_223 : decode cX12_choose 223 = .ok (.iload 5, 2) := by decide +kernel
theorem dX12_choose_225 : decode cX12_choose 225 = .ok (.iconst (-1), 1) := by decide +kernel
theorem dX12_choose_226 : decode cX12_choose 226 = .ok (.iastore, 1) := by decide +kernel
theorem dX12_choose_227 : decode cX12_choose 227 = .ok (.iinc 5 1, 3) := by decide +kernel
theorem dX12_choose_230 : decode cX12_choose 230 = .ok (.goto (-181), 3) := by decide +kernel
theorem dX12_choose_233 : decode cX12_choose 233 = .ok (.return_, 1) := by decide +kernel
theorem dX12_puts_0 : decode cX12_puts 0 = .ok (.aload_n 0, 1) := by decide +kernel
theorem dX12_puts_1 : decode cX12_puts 1 = .ok (.getfield 269, 3) := by decide +kernel
theorem dX12_puts_4 : decode cX12_puts 4 = .ok (.ldc 91, 2) := by decide +kernel
theorem dX12_puts_6 : decode cX12_puts 6 = .ok (.iload_n 1, 1) := by decide +kernel
theorem dX12_puts_7 : decode cX12_puts 7 = .ok (.imul, 1) := by decide +kernel
theorem dX12_puts_8 : decode cX12_puts 8 = .ok (.aload_n 0, 1) := by decide +kernel
theorem dX12_puts_9 : decode cX12_puts 9 = .ok (.getfield 272, 3) := by decide +kernel
theorem dX12_puts_12 : decode cX12_puts 12 = .ok (.iload_n 1, 1) := by decide +kernel
theorem dX12_puts_13 : decode cX12_puts 13 = .ok (.iaload, 1) := by decide +kernel
theorem dX12_puts_14 : decode cX12_puts 14 = .ok (.iadd, 1) := by decide +kernel
theorem dX12_puts_15 : decode cX12_puts 15 = .ok (.iload_n 2, 1) := by decide +kernel
theorem dX12_puts_16 : decode cX12_puts 16 = .ok (.iastore, 1) := by decide +kernel
theorem dX12_puts_17 : decode cX12_puts 17 = .ok (.aload_n 0, 1) := by decide +kernel
theorem dX12_puts_18 : decode cX12_puts 18 = .ok (.getfield 272, 3) := by decide +kernel
theorem dX12_puts_21 : decode cX12_puts 21 = .ok (.iload_n 1, 1) := by decide +kernel
theorem dX12_puts_22 : decode cX12_puts 22 = .ok (.dup2, 1) := by decide +kernel
theorem dX12_puts_23 : decode cX12_puts 23 = .ok (.iaload, 1) := by decide +kernel
theorem dX12_puts_24 : decode cX12_puts 24 = .ok (.iconst 1, 1) := by decide +kernel
theorem dX12_puts_25 : decode cX12_puts 25 = .ok (.iadd, 1) := by decide +kernel
theorem dX12_puts_26 : decode cX12_puts 26 = .ok (.iastore, 1) := by decide +kernel
theorem dX12_puts_27 : decode cX12_puts 27 = .ok (.return_, 1) := by decide +kernel
theorem dX12_putsLetters_0 : decode cX12_putsLetters 0 = .ok (.bipush 7, 2) := by decide +kernel
theorem dX12_putsLetters_2 : decode cX12_putsLetters 2 = .ok (.istore 4, 2) := by decide +kernel
theorem dX12_putsLetters_4 : decode cX12_putsLetters 4 = .ok (.iload 4, 2) := by decide +kernel
theorem dX12_putsLetters_6 : decode cX12_putsLetters 6 = .ok (.ifCond .lt 35, 3) := by decide +kernel
theorem dX12_putsLetters_9 : decode cX12_putsLetters 9 = .ok (.lload_n 2, 1) := by decide +kernel
theorem dX12_putsLetters_10 : decode cX12_putsLetters 10 = .ok (.bipush 8, 2) := by decide +kernel
theorem dX12_putsLetters_12 : decode cX12_putsLetters 12 = .ok (.iload 4, 2) := by decide +kernel
theorem dX12_putsLetters_14 : decode cX12_putsLetters 14 = .ok (.imul, 1) := by decide +kernel
theorem dX12_putsLetters_15 : decode cX12_putsLetters 15 = .ok (.lshr, 1) := by decide +kernel
theorem dX12_putsLetters_16 : decode cX12_putsLetters 16 = .ok (.ldc2_w 72, 3) := by decide +kernel
theorem dX12_putsLetters_19 : decode cX12_putsLetters 19 = .ok (.land, 1) := by decide +kernel
theorem dX12_putsLetters_20 : decode cX12_putsLetters 20 = .ok (.l2i, 1) := by decide +kernel
theorem dX12_putsLetters_21 : decode cX12_putsLetters 21 = .ok (.istore 5, 2) := by decide +kernel
theorem dX12_putsLetters_23 : decode cX12_putsLetters 23 = .ok (.iload 5, 2) := by decide +kernel
theorem dX12_putsLetters_25 : decode cX12_putsLetters 25 = .ok (.ifCond .eq 10, 3) := by decide +kernel
theorem dX12_putsLetters_28 : decode cX12_putsLetters 28 = .ok (.aload_n 0, 1) := by decide +kernel
theorem dX12_putsLetters_29 : decode cX12_putsLetters 29 = .ok (.iload_n 1, 1) := by decide +kernel
theorem dX12_putsLetters_30 : decode cX12_putsLetters 30 = .ok (.iload 5, 2) := by decide +kernel
theorem dX12_putsLetters_32 : decode cX12_putsLetters 32 = .ok (.invokevirtual 551, 3) := by decide +kernel
theorem dX12_putsLetters_35 : decode cX12_putsLetters 35 = .ok (.iinc 4 (-1), 3) := by decide +kernel
theorem dX12_putsLetters_38 : decode cX12_putsLetters 38 = .ok (.goto (-34), 3) := by decide +kernel
theorem dX12_putsLetters_41 : decode cX12_putsLetters 41 = .ok (.return_, 1) := by decide +kernel
theorem dX12_hexSign_0 : decode cX12_hexSign 0 = .ok (.iload_n 0, 1) := by decide +kernel
theorem dX12_hexSign_1 : decode cX12_hexSign 1 = .ok (.bipush 10, 2) := by decide +kernel
theorem dX12_hexSign_3 : decode cX12_hexSign 3 = .ok (.if_icmp .ge 10, 3) := by decide +kernel
theorem dX12_hexSign_6 : decode cX12_hexSign 6 = .ok (.bipush 48, 2) := by decide +kernel
theorem dX12_hexSign_8 : decode cX12_hexSign 8 = .ok (.iload_n 0, 1) := by decide +kernel
theorem dX12_hexSign_9 : decode cX12_hexSign 9 = .ok (.iadd, 1) := by decide +kernel
theorem dX12_hexSign_10 : decode cX12_hexSign 10 = .ok (.goto 10, 3) := by decide +kernel
theorem dX12_hexSign_13 : decode cX12_hexSign 13 = .ok (.bipush 97, 2) := by decide +kernel
theorem dX12_hexSign_15 : decode cX12_hexSign 15 = .ok (.iload_n 0, 1) := by decide +kernel
theorem dX12_hexSign_16 : decode cX12_hexSign 16 = .ok (.iadd, 1) := by decide +kernel
theorem dX12_hexSign_17 : decode cX12_hexSign 17 = .ok (.bipush 10, 2) := by decide +kernel
theorem dX12_hexSign_19 : decode cX12_hexSign 19 = .ok (.isub, 1) := by decide +kernel
theorem dX12_hexSign_20 : decode cX12_hexSign 20 = .ok (.ireturn, 1) := by decide +kernel
theorem dX12_putsQuoted_0 : decode cX12_putsQuoted 0 = .ok (.aload_n 0, 1) := by decide +kernel
theorem dX12_putsQuoted_1 : decode cX12_putsQuoted 1 = .ok (.iload_n 1, 1) := by decide +kernel
theorem dX12_putsQuoted_2 : decode cX12_putsQuoted 2 = .ok (.bipush 34, 2) := by decide +kernel
theorem dX12_putsQuoted_4 : decode cX12_putsQuoted 4 = .ok (.invokevirtual 551, 3) := by decide +kernel
theorem dX12_putsQuoted_7 : decode cX12_putsQuoted 7 = .ok (.iload_n 2, 1) := by decide +kernel
theorem dX12_putsQuoted_8 : decode cX12_putsQuoted 8 = .ok (.istore 4, 2) := by decide +kernel
theorem dX12_putsQuoted_10 : decode cX12_putsQuoted 10 = .ok (.iload 4, 2) := by decide +kernel
theorem dX12_putsQuoted_12 : decode cX12_putsQuoted 12 = .ok (.iload_n 2, 1) := by decide +kernel
theorem dX12_putsQuoted_13 : decode cX12_putsQuoted 13 = .ok (.iload_n 3, 1) := by decide +kernel
theorem dX12_putsQuoted_14 : decode cX12_putsQuoted 14 = .ok (.iadd, 1) := by decide +kernel
theorem dX12_putsQuoted_15 : decode cX12_putsQuoted 15 = .ok (.if_icmp .ge 117, 3) := by decide +kernel
theorem dX12_putsQuoted_18 : decode cX12_putsQuoted 18 = .ok (.aload_n 0, 1) := by decide +kernel
theorem dX12_putsQuoted_19 : decode cX12_putsQuoted 19 = .ok (.getfield 7, 3) := by decide +kernel
theorem dX12_putsQuoted_22 : decode cX12_putsQuoted 22 = .ok (.iload 4, 2) := by decide +kernel
theorem dX12_putsQuoted_24 : decode cX12_putsQuoted 24 = .ok (.iaload, 1) := by decide +kernel
theorem dX12_putsQuoted_25 : decode cX12_putsQuoted 25 = .ok (.istore 5, 2) := by decide +kernel
theorem dX12_putsQuoted_27 : decode cX12_putsQuoted 27 = .ok (.iload 5, 2) := by decide +kernel
theorem dX12_putsQuoted_29 : decode cX12_putsQuoted 29 = .ok (.bipush 32, 2) := by decide +kernel
theorem dX12_putsQuoted_31 : decode cX12_putsQuoted 31 = .ok (.if_icmp .lt 10, 3) := by decide +kernel
theorem dX12_putsQuoted_34 : decode cX12_putsQuoted 34 = .ok (.iload 5, 2) := by decide +kernel
theorem dX12_putsQuoted_36 : decode cX12_putsQuoted 36 = .ok (.bipush 126, 2) := by decide +kernel
theorem dX12_putsQuoted_38 : decode cX12_putsQuoted 38 = .ok (.if_icmp .le 60, 3) := by decide +kernel
theorem dX12_putsQuoted_41 : decode cX12_putsQuoted 41 = .ok (.aload_n 0, 1) := by decide +kernel
theorem dX12_putsQuoted_42 : decode cX12_putsQuoted 42 = .ok (.iload_n 1, 1) := by decide +kernel
theorem dX12_putsQuoted_43 : decode cX12_putsQuoted 43 = .ok (.bipush 92, 2) := by decide +kernel
theorem dX12_putsQuoted_45 : decode cX12_putsQuoted 45 = .ok (.invokevirtual 551, 3) := by decide +kernel
theorem dX12_putsQuoted_48 : decode cX12_putsQuoted 48 = .ok (.aload_n 0, 1) := by decide +kernel
theorem dX12_putsQuoted_49 : decode cX12_putsQuoted 49 = .ok (.iload_n 1, 1) := by decide +kernel
theorem dX12_putsQuoted_50 : decode cX12_putsQuoted 50 = .ok (.bipush 117, 2) := by decide +kernel
theorem dX12_putsQuoted_52 : decode cX12_putsQuoted 52 = .ok (.invokevirtual 551, 3) := by decide +kernel
theorem dX12_putsQuoted_55 : decode cX12_putsQuoted 55 = .ok (.aload_n 0, 1) := by decide +kernel
theorem dX12_putsQuoted_56 : decode cX12_putsQuoted 56 = .ok (.iload_n 1, 1) := by decide +kernel
theorem dX12_putsQuoted_57 : decode cX12_putsQuoted 57 = .ok (.bipush 48, 2) := by decide +kernel
theorem dX12_putsQuoted_59 : decode cX12_putsQuoted 59 = .ok (.invokevirtual 551, 3) := by decide +kernel
theorem dX12_putsQuoted_62 : decode cX12_putsQuoted 62 = .ok (.aload_n 0, 1) := by decide +kernel
theorem dX12_putsQuoted_63 : decode cX12_putsQuoted 63 = .ok (.iload_n 1, 1) := by decide +kernel
theorem dX12_putsQuoted_64 : decode cX12_putsQuoted 64 = .ok (.bipush 48, 2) := by decide +kernel
theorem dX12_putsQuoted_66 : decode cX12_putsQuoted 66 = .ok (.invokevirtual 551, 3) := by decide +kernel
theorem dX12_putsQuoted_69 : decode cX12_putsQuoted 69 = .ok (.aload_n 0, 1) := by decide +kernel
theorem dX12_putsQuoted_70 : decode cX12_putsQuoted 70 = .ok (.iload_n 1, 1) := by decide +kernel
theorem dX12_putsQuoted_71 : decode cX12_putsQuoted 71 = .ok (.iload 5, 2) := by decide +kernel
theorem dX12_putsQuoted_73 : decode cX12_putsQuoted 73 = .ok (.bipush 16, 2) := by decide +kernel
theorem dX12_putsQuoted_75 : decode cX12_putsQuoted 75 = .ok (.idiv, 1) := by decide +kernel
theorem dX12_putsQuoted_76 : decode cX12_putsQuoted 76 = .ok (.invokestatic 554, 3) := by decide +kernel
theorem dX12_putsQuoted_79 : decode cX12_putsQuoted 79 = .ok (.invokevirtual 551, 3) := by decide +kernel
theorem dX12_putsQuoted_82 : decode cX12_putsQuoted 82 = .ok (.aload_n 0, 1) := by decide +kernel
theorem dX12_putsQuoted_83 : decode cX12_putsQuoted 83 = .ok (.iload_n 1, 1) := by decide +kernel
theorem dX12_putsQuoted_84 : decode cX12_putsQuoted 84 = .ok (.iload 5, 2) := by decide +kernel
theorem dX12_putsQuoted_86 : decode cX12_putsQuoted 86 = .ok (.bipush 16, 2) := by decide +kernel
theorem dX12_putsQuoted_88 : decode cX12_putsQuoted 88 = .ok (.irem, 1) := by decide +kernel
theorem dX12_putsQuoted_89 : decode cX12_putsQuoted 89 = .ok (.invokestatic 554, 3) := by decide +kernel
theorem dX12_putsQuoted_92 : decode cX12_putsQuoted 92 = .ok (.invokevirtual 551, 3) := by decide +kernel
theorem dX12_putsQuoted_95 : decode cX12_putsQuoted 95 = .ok (.goto 31, 3) := by decide +kernel
theorem dX12_putsQuoted_98 : decode cX12_putsQuoted 98 = .ok (.iload 5, 2) := by decide +kernel
theorem dX12_putsQuoted_100 : decode cX12_putsQuoted 100 = .ok (.bipush 34, 2) := by decide +kernel
theorem dX12_putsQuoted_102 : decode cX12_putsQuoted 102 = .ok (.if_icmp .eq 10, 3) := by decide +kernel
theorem dX12_putsQuoted_105 : decode cX12_putsQuoted 105 = .ok (.iload 5, 2) := by decide +kernel
theorem dX12_putsQuoted_107 : decode cX12_putsQuoted 107 = .ok (.bipush 92, 2) := by decide +kernel
theorem dX12_putsQuoted_109 : decode cX12_putsQuoted 109 = .ok (.if_icmp .ne 10, 3) := by decide +kernel
theorem dX12_putsQuoted_112 : decode cX12_putsQuoted 112 = .ok (.aload_n 0, 1) := by decide +kernel
theorem dX12_putsQuoted_113 : decode cX12_putsQuoted 113 = .ok (.iload_n 1, 1) := by decide +kernel
theorem dX12_putsQuoted_114 : decode cX12_putsQuoted 114 = .ok (.bipush 92, 2) := by decide +kernel
theorem dX12_putsQuoted_116 : decode cX12_putsQuoted 116 = .ok (.invokevirtual 551, 3) := by decide +kernel
theorem dX12_putsQuoted_119 : decode cX12_putsQuoted 119 = .ok (.aload_n 0, 1) := by decide +kernel
theorem dX12_putsQuoted_120 : decode cX12_putsQuoted 120 = .ok (.iload_n 1, 1) := by decide +kernel
theorem dX12_putsQuoted_121 : decode cX12_putsQuoted 121 = .ok (.iload 5, 2) := by decide +kernel
theorem dX12_putsQuoted_123 : decode cX12_putsQuoted 123 = .ok (.invokevirtual 551, 3) := by decide +kernel
theorem dX12_putsQuoted_126 : decode cX12_putsQuoted 126 = .ok (.iinc 4 1, 3) := by decide +kernel
theorem dX12_putsQuoted_129 : decode cX12_putsQuoted 129 = .ok (.goto (-119), 3) := by decide +kernel
theorem dX12_putsQuoted_132 : decode cX12_putsQuoted 132 = .ok (.aload_n 0, 1) := by decide +kernel
theorem dX12_putsQuoted_133 : decode cX12_putsQuoted 133 = .ok (.iload_n 1, 1) := by decide +kernel
theorem dX12_putsQuoted_134 : decode cX12_putsQuoted 134 = .ok (.bipush 34, 2) := by decide +kernel
theorem dX12_putsQuoted_136 : decode cX12_putsQuoted 136 = .ok (.invokevirtual 551, 3) := by decide +kernel
theorem dX12_putsQuoted_139 : decode cX12_putsQuoted 139 = .ok (.return_, 1) := by decide +kernel
theorem dX12_putsInt_0 : decode cX12_putsInt 0 = .ok (.iload_n 2, 1) := by decide +kernel
theorem dX12_putsInt_1 : decode cX12_putsInt 1 = .ok (.ifCond .ge 10, 3) := by decide +kernel
theorem dX12_putsInt_4 : decode cX12_putsInt 4 = .ok (.aload_n 0, 1) := by decide +kernel
theorem dX12_putsInt_5 : decode cX12_putsInt 5 = .ok (.iload_n 1, 1) := by decide +kernel
theorem dX12_putsInt_6 : decode cX12_putsInt 6 = .ok (.bipush 45, 2) := by decide +kernel
theorem dX12_putsInt_8 : decode cX12_putsInt 8 = .ok (.invokevirtual 551, 3) := by decide +kernel
theorem dX12_putsInt_11 : decode cX12_putsInt 11 = .ok (.iload_n 2, 1) := by decide +kernel
theorem dX12_putsInt_12 : decode cX12_putsInt 12 = .ok (.ifCond .ge 8, 3) := by decide +kernel
theorem dX12_putsInt_15 : decode cX12_putsInt 15 = .ok (.iload_n 2, 1) := by decide +kernel
theorem dX12_putsInt_16 : decode cX12_putsInt 16 = .ok (.ineg, 1) := by decide +kernel
theorem dX12_putsInt_17 : decode cX12_putsInt 17 = .ok (.goto 4, 3) := by decide +kernel
theorem dX12_putsInt_20 : decode cX12_putsInt 20 = .ok (.iload_n 2, 1) := by decide +kernel
theorem dX12_putsInt_21 : decode cX12_putsInt 21 = .ok (.istore_n 3, 1) := by decide +kernel
theorem dX12_putsInt_22 : decode cX12_putsInt 22 = .ok (.iload_n 3, 1) := by decide +kernel
theorem dX12_putsInt_23 : decode cX12_putsInt 23 = .ok (.bipush 9, 2) := by decide +kernel
theorem dX12_putsInt_25 : decode cX12_putsInt 25 = .ok (.if_icmp .le 15, 3) := by decide +kernel
theorem dX12_putsInt_28 : decode cX12_putsInt 28 = .ok (.aload_n 0, 1) := by decide +kernel
theorem dX12_putsInt_29 : decode cX12_putsInt 29 = .ok (.iload_n 1, 1) := by decide +kernel
theorem dX12_putsInt_30 : decode cX12_putsInt 30 = .ok (.bipush 48, 2) := by decide +kernel
theorem dX12_putsInt_32 : decode cX12_putsInt 32 = .ok (.iload_n 3, 1) := by decide +kernel
theorem dX12_putsInt_33 : decode cX12_putsInt 33 = .ok (.bipush 10, 2) := by decide +kernel
theorem dX12_putsInt_35 : decode cX12_putsInt 35 = .ok (.idiv, 1) := by decide +kernel
theorem dX12_putsInt_36 : decode cX12_putsInt 36 = .ok (.iadd, 1) := by decide +kernel
theorem dX12_putsInt_37 : decode cX12_putsInt 37 = .ok (.invokevirtual 551, 3) := by decide +kernel
theorem dX12_putsInt_40 : decode cX12_putsInt 40 = .ok (.aload_n 0, 1) := by decide +kernel
theorem dX12_putsInt_41 : decode cX12_putsInt 41 = .ok (.iload_n 1, 1) := by decide +kernel
theorem dX12_putsInt_42 : decode cX12_putsInt 42 = .ok (.bipush 48, 2) := by decide +kernel
theorem dX12_putsInt_44 : decode cX12_putsInt 44 = .ok (.iload_n 3, 1) := by decide +kernel
theorem dX12_putsInt_45 : decode cX12_putsInt 45 = .ok (.bipush 10, 2) := by decide +kernel
theorem dX12_putsInt_47 : decode cX12_putsInt 47 = .ok (.irem, 1) := by decide +kernel
theorem dX12_putsInt_48 : decode cX12_putsInt 48 = .ok (.iadd, 1) := by decide +kernel
theorem dX12_putsInt_49 : decode cX12_putsInt 49 = .ok (.invokevirtual 551, 3) := by decide +kernel
theorem dX12_putsInt_52 : decode cX12_putsInt 52 = .ok (.return_, 1) := by decide +kernel
theorem dX12_putsScalar_0 : decode cX12_putsScalar 0 = .ok (.iload_n 2, 1) := by decide +kernel
theorem dX12_putsScalar_1 : decode cX12_putsScalar 1 = .ok (.iload_n 3, 1) := by decide +kernel
theorem dX12_putsScalar_2 : decode cX12_putsScalar 2 = .ok (.invokestatic 11, 3) := by decide +kernel
theorem dX12_putsScalar_5 : decode cX12_putsScalar 5 = .ok (.istore 4, 2) := by decide +kernel
theorem dX12_putsScalar_7 : decode cX12_putsScalar 7 = .ok (.aload_n 0, 1) := by decide +kernel
theorem dX12_putsScalar_8 : decode cX12_putsScalar 8 = .ok (.getfield 7, 3) := by decide +kernel
theorem dX12_putsScalar_11 : decode cX12_putsScalar 11 = .ok (.iload 4, 2) := by decide +kernel
theorem dX12_putsScalar_13 : decode cX12_putsScalar 13 = .ok (.iaload, 1) := by decide +kernel
theorem dX12_putsScalar_14 : decode cX12_putsScalar 14 = .ok (.istore 5, 2) := by decide +kernel
theorem dX12_putsScalar_16 : decode cX12_putsScalar 16 = .ok (.iload 5, 2) := by decide +kernel
theorem dX12_putsScalar_18 : decode cX12_putsScalar 18 = .ok (.ifCond .ne 14, 3) := by decide +kernel
theorem dX12_putsScalar_21 : decode cX12_putsScalar 21 = .ok (.aload_n 0, 1) := by decide +kernel
theorem dX12_putsScalar_22 : decode cX12_putsScalar 22 = .ok (.iload_n 1, 1) := by decide +kernel
theorem dX12_putsScalar_23 : decode cX12_putsScalar 23 = .ok (.ldc2_w 495, 3) := by decide +kernel
theorem dX12_putsScalar_26 : decode cX12_putsScalar 26 = .ok (.invokevirtual 557, 3) := by decide +kernel
theorem dX12_putsScalar_29 : decode cX12_putsScalar 29 = .ok (.goto 211, 3) := by decide +kernel
theorem dX12_putsScalar_32 : decode cX12_putsScalar 32 = .ok (.iload 5, 2) := by decide +kernel
theorem dX12_putsScalar_34 : decode cX12_putsScalar 34 = .ok (.iconst 1, 1) := by decide +kernel
theorem dX12_putsScalar_35 : decode cX12_putsScalar 35 = .ok (.if_icmp .ne 34, 3) := by decide +kernel
theorem dX12_putsScalar_38 : decode cX12_putsScalar 38 = .ok (.aload_n 0, 1) := by decide +kernel
theorem dX12_putsScalar_39 : decode cX12_putsScalar 39 = .ok (.iload_n 1, 1) := by decide +kernel
theorem dX12_putsScalar_40 : decode cX12_putsScalar 40 = .ok (.aload_n 0, 1) := by decide +kernel
theorem dX12_putsScalar_41 : decode cX12_putsScalar 41 = .ok (.getfield 7, 3) := by decide +kernel
theorem dX12_putsScalar_44 : decode cX12_putsScalar 44 = .ok (.iload 4, 2) := by decide +kernel
theorem dX12_putsScalar_46 : decode cX12_putsScalar 46 = .ok (.bipush 19, 2) := by decide +kernel
theorem dX12_putsScalar_48 : decode cX12_putsScalar 48 = .ok (.iadd, 1) := by decide +kernel
theorem dX12_putsScalar_49 : decode cX12_putsScalar 49 = .ok (.iaload, 1) := by decide +kernel
theorem dX12_putsScalar_50 : decode cX12_putsScalar 50 = .ok (.iconst 1, 1) := by decide +kernel
theorem dX12_putsScalar_51 : decode cX12_putsScalar 51 = .ok (.if_icmp .ne 9, 3) := by decide +kernel
theorem dX12_putsScalar_54 : decode cX12_putsScalar 54 = .ok (.ldc2_w 501, 3) := by decide +kernel
theorem dX12_putsScalar_57 : decode cX12_putsScalar 57 = .ok (.goto 6, 3) := by decide +kernel
theorem dX12_putsScalar_60 : decode cX12_putsScalar 60 = .ok (.ldc2_w 503, 3) := by decide +kernel
theorem dX12_putsScalar_63 : decode cX12_putsScalar 63 = .ok (.invokevirtual 557, 3) := by decide +kernel
theorem dX12_putsScalar_66 : decode cX12_putsScalar 66 = .ok (.goto 174, 3) := by decide +kernel
theorem dX12_putsScalar_69 : decode cX12_putsScalar 69 = .ok (.iload 5, 2) := by decide +kernel
theorem dX12_putsScalar_71 : decode cX12_putsScalar 71 = .ok (.iconst 3, 1) := by decide +kernel
theorem dX12_putsScalar_72 : decode cX12_putsScalar 72 = .ok (.if_icmp .ne 26, 3) := by decide +kernel
theorem dX12_putsScalar_75 : decode cX12_putsScalar 75 = .ok (.aload_n 0, 1) := by decide +kernel
theorem dX12_putsScalar_76 : decode cX12_putsScalar 76 = .ok (.iload_n 1, 1) := by decide +kernel
theorem dX12_putsScalar_77 : decode cX12_putsScalar 77 = .ok (.iload 4, 2) := by decide +kernel
theorem dX12_putsScalar_79 : decode cX12_putsScalar 79 = .ok (.bipush 21, 2) := by decide +kernel
theorem dX12_putsScalar_81 : decode cX12_putsScalar 81 = .ok (.iadd, 1) := by decide +kernel
theorem dX12_putsScalar_82 : decode cX12_putsScalar 82 = .ok (.aload_n 0, 1) := by decide +kernel
theorem dX12_putsScalar_83 : decode cX12_putsScalar 83 = .ok (.getfield 7, 3) := by decide +kernel
theorem dX12_putsScalar_86 : decode cX12_putsScalar 86 = .ok (.iload 4, 2) := by decide +kernel
theorem dX12_putsScalar_88 : decode cX12_putsScalar 88 = .ok (.bipush 18, 2) := by decide +kernel
theorem dX12_putsScalar_90 : decode cX12_putsScalar 90 = .ok (.iadd, 1) := by decide +kernel
theorem dX12_putsScalar_91 : decode cX12_putsScalar 91 = .ok (.iaload, 1) := by decide +kernel
theorem dX12_putsScalar_92 : decode cX12_putsScalar 92 = .ok (.invokevirtual 561, 3) := by decide +kernel
theorem dX12_putsScalar_95 : decode cX12_putsScalar 95 = .ok (.goto 145, 3) := by decide +kernel
theorem dX12_putsScalar_98 : decode cX12_putsScalar 98 = .ok (.iload 5, 2) := by decide +kernel
theorem dX12_putsScalar_100 : decode cX12_putsScalar 100 = .ok (.iconst 2, 1) := by decide +kernel
theorem dX12_putsScalar_101 : decode cX12_putsScalar 101 = .ok (.if_icmp .ne 103, 3) := by decide +kernel
theorem dX12_putsScalar_104 : decode cX12_putsScalar 104 = .ok (.aload_n 0, 1) := by decide +kernel
theorem dX12_putsScalar_105 : decode cX12_putsScalar 105 = .ok (.getfield 7, 3) := by decide +kernel
theorem dX12_putsScalar_108 : decode cX12_putsScalar 108 = .ok (.iload 4, 2) := by decide +kernel
theorem dX12_putsScalar_110 : decode cX12_putsScalar 110 = .ok (.bipush 19, 2) := by decide +kernel
theorem dX12_putsScalar_112 : decode cX12_putsScalar 112 = .ok (.iadd, 1) := by decide +kernel
theorem dX12_putsScalar_113 : decode cX12_putsScalar 113 = .ok (.iaload, 1) := by decide +kernel
theorem dX12_putsScalar_114 : decode cX12_putsScalar 114 = .ok (.ifCond .ge 10, 3) := by decide +kernel
theorem dX12_putsScalar_117 : decode cX12_putsScalar 117 = .ok (.aload_n 0, 1) := by decide +kernel
theorem dX12_putsScalar_118 : decode cX12_putsScalar 118 = .ok (.iload_n 1, 1) := by decide +kernel
theorem dX12_putsScalar_119 : decode cX12_putsScalar 119 = .ok (.bipush 45, 2) := by decide +kernel
theorem dX12_putsScalar_121 : decode cX12_putsScalar 121 = .ok (.invokevirtual 551, 3) := by decide +kernel
theorem dX12_putsScalar_124 : decode cX12_putsScalar 124 = .ok (.iconst 0, 1) := by decide +kernel
theorem dX12_putsScalar_125 : decode cX12_putsScalar 125 = .ok (.istore 6, 2) := by decide +kernel
theorem dX12_putsScalar_127 : decode cX12_putsScalar 127 = .ok (.iload 6, 2) := by decide +kernel
theorem dX12_putsScalar_129 : decode cX12_putsScalar 129 = .ok (.aload_n 0, 1) := by decide +kernel
theorem dX12_putsScalar_130 : decode cX12_putsScalar 130 = .ok (.getfield 7, 3) := by decide +kernel
theorem dX12_putsScalar_133 : decode cX12_putsScalar 133 = .ok (.iload 4, 2) := by decide +kernel
theorem dX12_putsScalar_135 : decode cX12_putsScalar 135 = .ok (.bipush 18, 2) := by decide +kernel
theorem dX12_putsScalar_137 : decode cX12_putsScalar 137 = .ok (.iadd, 1) := by decide +kernel
theorem dX12_putsScalar_138 : decode cX12_putsScalar 138 = .ok (.iaload, 1) := by decide +kernel
theorem dX12_putsScalar_139 : decode cX12_putsScalar 139 = .ok (.if_icmp .ge 27, 3) := by decide +kernel
theorem dX12_putsScalar_142 : decode cX12_putsScalar 142 = .ok (.aload_n 0, 1) := by decide +kernel
theorem dX12_putsScalar_143 : decode cX12_putsScalar 143 = .ok (.iload_n 1, 1) := by decide +kernel
theorem dX12_putsScalar_144 : decode cX12_putsScalar 144 = .ok (.aload_n 0, 1) := by decide +kernel
theorem dX12_putsScalar_145 : decode cX12_putsScalar 145 = .ok (.getfield 7, 3) := by decide +kernel
theorem dX12_putsScalar_148 : decode cX12_putsScalar 148 = .ok (.iload 4, 2) := by decide +kernel
theorem dX12_putsScalar_150 : decode cX12_putsScalar 150 = .ok (.bipush 21, 2) := by decide +kernel
theorem dX12_putsScalar_152 : decode cX12_putsScalar 152 = .ok (.iadd, 1) := by decide +kernel
theorem dX12_putsScalar_153 : decode cX12_putsScalar 153 = .ok (.iload 6, 2) := by decide +kernel
theorem dX12_putsScalar_155 : decode cX12_putsScalar 155 = .ok (.iadd, 1) := by decide +kernel
theorem dX12_putsScalar_156 : decode cX12_putsScalar 156 = .ok (.iaload, 1) := by decide +kernel
theorem dX12_putsScalar_157 : decode cX12_putsScalar 157 = .ok (.invokevirtual 551, 3) := by decide +kernel
theorem dX12_putsScalar_160 : decode cX12_putsScalar 160 = .ok (.iinc 6 1, 3) := by decide +kernel
theorem dX12_putsScalar_163 : decode cX12_putsScalar 163 = .ok (.goto (-36), 3) := by decide +kernel
theorem dX12_putsScalar_166 : decode cX12_putsScalar 166 = .ok (.aload_n 0, 1) := by decide +kernel
theorem dX12_putsScalar_167 : decode cX12_putsScalar 167 = .ok (.getfield 7, 3) := by decide +kernel
theorem dX12_putsScalar_170 : decode cX12_putsScalar 170 = .ok (.iload 4, 2) := by decide +kernel
theorem dX12_putsScalar_172 : decode cX12_putsScalar 172 = .ok (.bipush 20, 2) := by decide +kernel
theorem dX12_putsScalar_174 : decode cX12_putsScalar 174 = .ok (.iadd, 1) := by decide +kernel
theorem dX12_putsScalar_175 : decode cX12_putsScalar 175 = .ok (.iaload, 1) := by decide +kernel
theorem dX12_putsScalar_176 : decode cX12_putsScalar 176 = .ok (.ifCond .eq 64, 3) := by decide +kernel
theorem dX12_putsScalar_179 : decode cX12_putsScalar 179 = .ok (.aload_n 0, 1) := by decide +kernel
theorem dX12_putsScalar_180 : decode cX12_putsScalar 180 = .ok (.iload_n 1, 1) := by decide +kernel
theorem dX12_putsScalar_181 : decode cX12_putsScalar 181 = .ok (.bipush 101, 2) := by decide +kernel
theorem dX12_putsScalar_183 : decode cX12_putsScalar 183 = .ok (.invokevirtual 551, 3) := by decide +kernel
theorem dX12_putsScalar_186 : decode cX12_putsScalar 186 = .ok (.aload_n 0, 1) := by decide +kernel
theorem dX12_putsScalar_187 : decode cX12_putsScalar 187 = .ok (.iload_n 1, 1) := by decide +kernel
theorem dX12_putsScalar_188 : decode cX12_putsScalar 188 = .ok (.aload_n 0, 1) := by decide +kernel
theorem dX12_putsScalar_189 : decode cX12_putsScalar 189 = .ok (.getfield 7, 3) := by decide +kernel
theorem dX12_putsScalar_192 : decode cX12_putsScalar 192 = .ok (.iload 4, 2) := by decide +kernel
theorem dX12_putsScalar_194 : decode cX12_putsScalar 194 = .ok (.bipush 20, 2) := by decide +kernel
theorem dX12_putsScalar_196 : decode cX12_putsScalar 196 = .ok (.iadd, 1) := by decide +kernel
theorem dX12_putsScalar_197 : decode cX12_putsScalar 197 = .ok (.iaload, 1) := by decide +kernel
theorem dX12_putsScalar_198 : decode cX12_putsScalar 198 = .ok (.invokevirtual 565, 3) := by decide +kernel
theorem dX12_putsScalar_201 : decode cX12_putsScalar 201 = .ok (.goto 39, 3) := by decide +kernel
theorem dX12_putsScalar_204 : decode cX12_putsScalar 204 = .ok (.aload_n 0, 1) := by decide +kernel
theorem dX12_putsScalar_205 : decode cX12_putsScalar 205 = .ok (.iload_n 1, 1) := by decide +kernel
theorem dX12_putsScalar_206 : decode cX12_putsScalar 206 = .ok (.iload 5, 2) := by decide +kernel
theorem dX12_putsScalar_208 : decode cX12_putsScalar 208 = .ok (.iconst 4, 1) := by decide +kernel
theorem dX12_putsScalar_209 : decode cX12_putsScalar 209 = .ok (.if_icmp .ne 8, 3) := by decide +kernel
theorem dX12_putsScalar_212 : decode cX12_putsScalar 212 = .ok (.bipush 91, 2) := by decide +kernel
theorem dX12_putsScalar_214 : decode cX12_putsScalar 214 = .ok (.goto 5, 3) := by decide +kernel
theorem dX12_putsScalar_217 : decode cX12_putsScalar 217 = .ok (.bipush 123, 2) := by decide +kernel
theorem dX12_putsScalar_219 : decode cX12_putsScalar 219 = .ok (.invokevirtual 551, 3) := by decide +kernel
theorem dX12_putsScalar_222 : decode cX12_putsScalar 222 = .ok (.aload_n 0, 1) := by decide +kernel
theorem dX12_putsScalar_223 : decode cX12_putsScalar 223 = .ok (.iload_n 1, 1) := by decide +kernel
theorem dX12_putsScalar_224 : decode cX12_putsScalar 224 = .ok (.iload 5, 2) := by decide +kernel
theorem dX12_putsScalar_226 : decode cX12_putsScalar 226 = .ok (.iconst 4, 1) := by decide +kernel
theorem dX12_putsScalar_227 : decode cX12_putsScalar 227 = .ok (.if_icmp .ne 8, 3) := by decide +kernel
theorem dX12_putsScalar_230 : decode cX12_putsScalar 230 = .ok (.bipush 93, 2) := by decide +kernel
theorem dX12_putsScalar_232 : decode cX12_putsScalar 232 = .ok (.goto 5, 3) := by decide +kernel
theorem dX12_putsScalar_235 : decode cX12_putsScalar 235 = .ok (.bipush 125, 2) := by decide +kernel
theorem dX12_putsScalar_237 : decode cX12_putsScalar 237 = .ok (.invokevirtual 551, 3) := by decide +kernel
theorem dX12_putsScalar_240 : decode cX12_putsScalar 240 = .ok (.return_, 1) := by decide +kernel
theorem dX12_putsLine_0 : decode cX12_putsLine 0 = .ok (.aload_n 0, 1) := by decide +kernel
theorem dX12_putsLine_1 : decode cX12_putsLine 1 = .ok (.iload_n 1, 1) := by decide +kernel
theorem dX12_putsLine_2 : decode cX12_putsLine 2 = .ok (.bipush 10, 2) := by decide +kernel
theorem dX12_putsLine_4 : decode cX12_putsLine 4 = .ok (.invokevirtual 551, 3) := by decide +kernel
theorem dX12_putsLine_7 : decode cX12_putsLine 7 = .ok (.iconst 0, 1) := by decide +kernel
theorem dX12_putsLine_8 : decode cX12_putsLine 8 = .ok (.istore_n 3, 1) := by decide +kernel
theorem dX12_putsLine_9 : decode cX12_putsLine 9 = .ok (.iload_n 3, 1) := by decide +kernel
theorem dX12_putsLine_10 : decode cX12_putsLine 10 = .ok (.iconst 2, 1) := by decide +kernel
theorem dX12_putsLine_11 : decode cX12_putsLine 11 = .ok (.iload_n 2, 1) := by decide +kernel
theorem dX12_putsLine_12 : decode cX12_putsLine 12 = .ok (.imul, 1) := by decide +kernel
theorem dX12_putsLine_13 : decode cX12_putsLine 13 = .ok (.if_icmp .ge 16, 3) := by decide +kernel
theorem dX12_putsLine_16 : decode cX12_putsLine 16 = .ok (.aload_n 0, 1) := by decide +kernel
theorem dX12_putsLine_17 : decode cX12_putsLine 17 = .ok (.iload_n 1, 1) := by decide +kernel
theorem dX12_putsLine_18 : decode cX12_putsLine 18 = .ok (.bipush 32, 2) := by decide +kernel
theorem dX12_putsLine_20 : decode cX12_putsLine 20 = .ok (.invokevirtual 551, 3) := by decide +kernel
theorem dX12_putsLine_23 : decode cX12_putsLine 23 = .ok (.iinc 3 1, 3) := by decide +kernel
theorem dX12_putsLine_26 : decode cX12_putsLine 26 = .ok (.goto (-17), 3) := by decide +kernel
theorem dX12_putsLine_29 : decode cX12_putsLine 29 = .ok (.return_, 1) := by decide +kernel
theorem dX12_writes_0 : decode cX12_writes 0 = .ok (.aload_n 0, 1) := by decide +kernel
theorem dX12_writes_1 : decode cX12_writes 1 = .ok (.getfield 272, 3) := by decide +kernel
theorem dX12_writes_4 : decode cX12_writes 4 = .ok (.iload_n 1, 1) := by decide +kernel
theorem dX12_writes_5 : decode cX12_writes 5 = .ok (.iconst 0, 1) := by decide +kernel
theorem dX12_writes_6 : decode cX12_writes 6 = .ok (.iastore, 1) := by decide +kernel
theorem dX12_writes_7 : decode cX12_writes 7 = .ok (.aload_n 0, 1) := by decide +kernel
theorem dX12_writes_8 : decode cX12_writes 8 = .ok (.iload_n 2, 1) := by decide +kernel
theorem dX12_writes_9 : decode cX12_writes 9 = .ok (.iload_n 3, 1) := by decide +kernel
theorem dX12_writes_10 : decode cX12_writes 10 = .ok (.iconst 3, 1) := by decide +kernel
theorem dX12_writes_11 : decode cX12_writes 11 = .ok (.invokevirtual 36, 3) := by decide +kernel
theorem dX12_writes_14 : decode cX12_writes 14 = .ok (.ifCond .ne 11, 3) := by decide +kernel
theorem dX12_writes_17 : decode cX12_writes 17 = .ok (.aload_n 0, 1) := by decide +kernel
theorem dX12_writes_18 : decode cX12_writes 18 = .ok (.iload_n 1, 1) := by decide +kernel
theorem dX12_writes_19 : decode cX12_writes 19 = .ok (.iload_n 2, 1) := by decide +kernel
theorem dX12_writes_20 : decode cX12_writes 20 = .ok (.iload_n 3, 1) := by decide +kernel
theorem dX12_writes_21 : decode cX12_writes 21 = .ok (.invokevirtual 568, 3) := by decide +kernel
theorem dX12_writes_24 : decode cX12_writes 24 = .ok (.return_, 1) := by decide +kernel
theorem dX12_writes_25 : decode cX12_writes 25 = .ok (.aload_n 0, 1) := by decide +kernel
theorem dX12_writes_26 : decode cX12_writes 26 = .ok (.iload_n 1, 1) := by decide +kernel
theorem dX12_writes_27 : decode cX12_writes 27 = .ok (.aload_n 0, 1) := by decide +kernel
theorem dX12_writes_28 : decode cX12_writes 28 = .ok (.iload_n 2, 1) := by decide +kernel
theorem dX12_writes_29 : decode cX12_writes 29 = .ok (.iload_n 3, 1) := by decide +kernel
theorem dX12_writes_30 : decode cX12_writes 30 = .ok (.invokevirtual 52, 3) := by decide +kernel
theorem dX12_writes_33 : decode cX12_writes 33 = .ok (.iconst 4, 1) := by decide +kernel
theorem dX12_writes_34 : decode cX12_writes 34 = .ok (.if_icmp .ne 8, 3) := by decide +kernel
theorem dX12_writes_37 : decode cX12_writes 37 = .ok (.bipush 91, 2) := by decide +kernel
theorem dX12_writes_39 : decode cX12_writes 39 = .ok (.goto 5, 3) := by decide +kernel
theorem dX12_writes_42 : decode cX12_writes 42 = .ok (.bipush 123, 2) := by decide +kernel
theorem dX12_writes_44 : decode cX12_writes 44 = .ok (.invokevirtual 551, 3) := by decide +kernel
theorem dX12_writes_47 : decode cX12_writes 47 = .ok (.aload_n 0, 1) := by decide +kernel
theorem dX12_writes_48 : decode cX12_writes 48 = .ok (.getfield 259, 3) := by decide +kernel
theorem dX12_writes_51 : decode cX12_writes 51 = .ok (.iconst 0, 1) := by decide +kernel
theorem dX12_writes_52 : decode cX12_writes 52 = .ok (.iload_n 3, 1) := by decide +kernel
theorem dX12_writes_53 : decode cX12_writes 53 = .ok (.iastore, 1) := by decide +kernel
theorem dX12_writes_54 : decode cX12_writes 54 = .ok (.aload_n 0, 1) := by decide +kernel
theorem dX12_writes_55 : decode cX12_writes 55 = .ok (.getfield 265, 3) := by decide +kernel
theorem dX12_writes_58 : decode cX12_writes 58 = .ok (.iconst 0, 1) := by decide +kernel
theorem dX12_writes_59 : decode cX12_writes 59 = .ok (.iconst (-1), 1) := by decide +kernel
theorem dX12_writes_60 : decode cX12_writes 60 = .ok (.iastore, 1) := by decide +kernel
theorem dX12_writes_61 : decode cX12_writes 61 = .ok (.iconst 1, 1) := by decide +kernel
theorem dX12_writes_62 : decode cX12_writes 62 = .ok (.istore 5, 2) := by decide +kernel
theorem dX12_writes_64 : decode cX12_writes 64 = .ok (.iload 5, 2) := by decide +kernel
theorem dX12_writes_66 : decode cX12_writes 66 = .ok (.ifCond .le 256, 3) := by decide +kernel
theorem dX12_writes_69 : decode cX12_writes 69 = .ok (.aload_n 0, 1) := by decide +kernel
theorem dX12_writes_70 : decode cX12_writes 70 = .ok (.getfield 259, 3) := by decide +kernel
theorem dX12_writes_73 : decode cX12_writes 73 = .ok (.iload 5, 2) := by decide +kernel
theorem dX12_writes_75 : decode cX12_writes 75 = .ok (.iconst 1, 1) := by decide +kernel
theorem dX12_writes_76 : decode cX12_writes 76 = .ok (.isub, 1) := by decide +kernel
theorem dX12_writes_77 : decode cX12_writes 77 = .ok (.iaload, 1) := by decide +kernel
theorem dX12_writes_78 : decode cX12_writes 78 = .ok (.istore 6, 2) := by decide +kernel
theorem dX12_writes_80 : decode cX12_writes 80 = .ok (.aload_n 0, 1) := by decide +kernel
theorem dX12_writes_81 : decode cX12_writes 81 = .ok (.iload_n 2, 1) := by decide +kernel
theorem dX12_writes_82 : decode cX12_writes 82 = .ok (.iload 6, 2) := by decide +kernel
theorem dX12_writes_84 : decode cX12_writes 84 = .ok (.aload_n 0, 1) := by decide +kernel
theorem dX12_writes_85 : decode cX12_writes 85 = .ok (.getfield 265, 3) := by decide +kernel
theorem dX12_writes_88 : decode cX12_writes 88 = .ok (.iload 5, 2) := by decide +kernel
theorem dX12_writes_90 : decode cX12_writes 90 = .ok (.iconst 1, 1) := by decide +kernel
theorem dX12_writes_91 : decode cX12_writes 91 = .ok (.isub, 1) := by decide +kernel
theorem dX12_writes_92 : decode cX12_writes 92 = .ok (.iaload, 1) := by decide +kernel
theorem dX12_writes_93 : decode cX12_writes 93 = .ok (.iload 4, 2) := by decide +kernel
theorem dX12_writes_95 : decode cX12_writes 95 = .ok (.iconst 1, 1) := by decide +kernel
theorem dX12_writes_96 : decode cX12_writes 96 = .ok (.if_icmp .ne 7, 3) := by decide +kernel
theorem dX12_writes_99 : decode cX12_writes 99 = .ok (.iconst 1, 1) := by decide +kernel
theorem dX12_writes_100 : decode cX12_writes 100 = .ok (.goto 4, 3) := by decide +kernel
theorem dX12_writes_103 : decode cX12_writes 103 = .ok (.iconst 0, 1) := by decide +kernel
theorem dX12_writes_104 : decode cX12_writes 104 = .ok (.invokevirtual 545, 3) := by decide +kernel
theorem dX12_writes_107 : decode cX12_writes 107 = .ok (.istore 7, 2) := by decide +kernel
theorem dX12_writes_109 : decode cX12_writes 109 = .ok (.iload 7, 2) := by decide +kernel
theorem dX12_writes_111 : decode cX12_writes 111 = .ok (.iconst (-1), 1) := by decide +kernel
theorem dX12_writes_112 : decode cX12_writes 112 = .ok (.if_icmp .ne 45, 3) := by decide +kernel
theorem dX12_writes_115 : decode cX12_writes 115 = .ok (.iinc 5 (-1), 3) := by decide +kernel
theorem dX12_writes_118 : decode cX12_writes 118 = .ok (.iload 4, 2) := by decide +kernel
theorem dX12_writes_120 : decode cX12_writes 120 = .ok (.iconst 2, 1) := by decide +kernel
theorem dX12_writes_121 : decode cX12_writes 121 = .ok (.if_icmp .ne 10, 3) := by decide +kernel
theorem dX12_writes_124 : decode cX12_writes 124 = .ok (.aload_n 0, 1) := by decide +kernel
theorem dX12_writes_125 : decode cX12_writes 125 = .ok (.iload_n 1, 1) := by decide +kernel
theorem dX12_writes_126 : decode cX12_writes 126 = .ok (.iload 5, 2) := by decide +kernel
theorem dX12_writes_128 : decode cX12_writes 128 = .ok (.invokevirtual 571, 3) := by decide +kernel
theorem dX12_writes_131 : decode cX12_writes 131 = .ok (.aload_n 0, 1) := by decide +kernel
theorem dX12_writes_132 : decode cX12_writes 132 = .ok (.iload_n 1, 1) := by decide +kernel
theorem dX12_writes_133 : decode cX12_writes 133 = .ok (.aload_n 0, 1) := by decide +kernel
theorem dX12_writes_134 : decode cX12_writes 134 = .ok (.iload_n 2, 1) := by decide +kernel
theorem dX12_writes_135 : decode cX12_writes 135 = .ok (.iload 6, 2) := by decide +kernel
theorem dX12_writes_137 : decode cX12_writes 137 = .ok (.invokevirtual 52, 3) := by decide +kernel
theorem dX12_writes_140 : decode cX12_writes 140 = .ok (.iconst 4, 1) := by decide +kernel
theorem dX12_writes_141 : decode cX12_writes 141 = .ok (.if_icmp .ne 8, 3) := by decide +kernel
theorem dX12_writes_144 : decode cX12_writes 144 = .ok (.bipush 93, 2) := by decide +kernel
theorem dX12_writes_146 : decode cX12_writes 146 = .ok (.goto 5, 3) := by decide +kernel
theorem dX12_writes_149 : decode cX12_writes 149 = .ok (.bipush 125, 2) := by decide +kernel
theorem dX12_writes_151 : decode cX12_writes 151 = .ok (.invokevirtual 551, 3) := by decide +kernel
theorem dX12_writes_154 : decode cX12_writes 154 = .ok (.goto 165, 3) := by decide +kernel
theorem dX12_writes_157 : decode cX12_writes 157 = .ok (.aload_n 0, 1) := by decide +kernel
theorem dX12_writes_158 : decode cX12_writes 158 = .ok (.getfield 265, 3) := by decide +kernel
theorem dX12_writes_161 : decode cX12_writes 161 = .ok (.iload 5, 2) := by decide +kernel
theorem dX12_writes_163 : decode cX12_writes 163 = .ok (.iconst 1, 1) := by decide +kernel
theorem dX12_writes_164 : decode cX12_writes 164 = .ok (.isub, 1) := by decide +kernel
theorem dX12_writes_165 : decode cX12_writes 165 = .ok (.iaload, 1) := by decide +kernel
theorem dX12_writes_166 : decode cX12_writes 166 = .ok (.iconst (-1), 1) := by decide +kernel
theorem dX12_writes_167 : decode cX12_writes 167 = .ok (.if_icmp .eq 10, 3) := by decide +kernel
theorem dX12_writes_170 : decode cX12_writes 170 = .ok (.aload_n 0, 1) := by decide +kernel
theorem dX12_writes_171 : decode cX12_writes 171 = .ok (.iload_n 1, 1) := by decide +kernel
theorem dX12_writes_172 : decode cX12_writes 172 = .ok (.bipush 44, 2) := by decide +kernel
theorem dX12_writes_174 : decode cX12_writes 174 = .ok (.invokevirtual 551, 3) := by decide +kernel
theorem dX12_writes_177 : decode cX12_writes 177 = .ok (.aload_n 0, 1) := by decide +kernel
theorem dX12_writes_178 : decode cX12_writes 178 = .ok (.getfield 265, 3) := by decide +kernel
theorem dX12_writes_181 : decode cX12_writes 181 = .ok (.iload 5, 2) := by decide +kernel
theorem dX12_writes_183 : decode cX12_writes 183 = .ok (.iconst 1, 1) := by decide +kernel
theorem dX12_writes_184 : decode cX12_writes 184 = .ok (.isub, 1) := by decide +kernel
theorem dX12_writes_185 : decode cX12_writes 185 = .ok (.iload 7, 2) := by decide +kernel
theorem dX12_writes_187 : decode cX12_writes 187 = .ok (.iastore, 1) := by decide +kernel
theorem dX12_writes_188 : decode cX12_writes 188 = .ok (.iload 4, 2) := by decide +kernel
theorem dX12_writes_190 : decode cX12_writes 190 = .ok (.iconst 2, 1) := by decide +kernel
theorem dX12_writes_191 : decode cX12_writes 191 = .ok (.if_icmp .ne 10, 3) := by decide +kernel
theorem dX12_writes_194 : decode cX12_writes 194 = .ok (.aload_n 0, 1) := by decide +kernel
theorem dX12_writes_195 : decode cX12_writes 195 = .ok (.iload_n 1, 1) := by decide +kernel
theorem dX12_writes_196 : decode cX12_writes 196 = .ok (.iload 5, 2) := by decide +kernel
theorem dX12_writes_198 : decode cX12_writes 198 = .ok (.invokevirtual 571, 3) := by decide +kernel
theorem dX12_writes_201 : decode cX12_writes 201 = .ok (.aload_n 0, 1) := by decide +kernel
theorem dX12_writes_202 : decode cX12_writes 202 = .ok (.iload_n 2, 1) := by decide +kernel
theorem dX12_writes_203 : decode cX12_writes 203 = .ok (.iload 6, 2) := by decide +kernel
theorem dX12_writes_205 : decode cX12_writes 205 = .ok (.invokevirtual 52, 3) := by decide +kernel
theorem dX12_writes_208 : decode cX12_writes 208 = .ok (.iconst 5, 1) := by decide +kernel
theorem dX12_writes_209 : decode cX12_writes 209 = .ok (.if_icmp .ne 45, 3) := by decide +kernel
theorem dX12_writes_212 : decode cX12_writes 212 = .ok (.aload_n 0, 1) := by decide +kernel
theorem dX12_writes_213 : decode cX12_writes 213 = .ok (.iload_n 1, 1) := by decide +kernel
theorem dX12_writes_214 : decode cX12_writes 214 = .ok (.iload_n 2, 1) := by decide +kernel
theorem dX12_writes_215 : decode cX12_writes 215 = .ok (.iload 7, 2) := by decide +kernel
theorem dX12_writes_217 : decode cX12_writes 217 = .ok (.invokestatic 11, 3) := by decide +kernel
theorem dX12_writes_220 : decode cX12_writes 220 = .ok (.bipush 6, 2) := by decide +kernel
theorem dX12_writes_222 : decode cX12_writes 222 = .ok (.iadd, 1) := by decide +kernel
theorem dX12_writes_223 : decode cX12_writes 223 = .ok (.aload_n 0, 1) := by decide +kernel
theorem dX12_writes_224 : decode cX12_writes 224 = .ok (.iload_n 2, 1) := by decide +kernel
theorem dX12_writes_225 : decode cX12_writes 225 = .ok (.iload 7, 2) := by decide +kernel
theorem dX12_writes_227 : decode cX12_writes 227 = .ok (.iconst 5, 1) := by decide +kernel
theorem dX12_writes_228 : decode cX12_writes 228 = .ok (.invokevirtual 36, 3) := by decide +kernel
theorem dX12_writes_231 : decode cX12_writes 231 = .ok (.invokevirtual 561, 3) := by decide +kernel
theorem dX12_writes_234 : decode cX12_writes 234 = .ok (.aload_n 0, 1) := by decide +kernel
theorem dX12_writes_235 : decode cX12_writes 235 = .ok (.iload_n 1, 1) := by decide +kernel
theorem dX12_writes_236 : decode cX12_writes 236 = .ok (.bipush 58, 2) := by decide +kernel
theorem dX12_writes_238 : decode cX12_writes 238 = .ok (.invokevirtual 551, 3) := by decide +kernel
theorem dX12_writes_241 : decode cX12_writes 241 = .ok (.iload 4, 2) := by decide +kernel
theorem dX12_writes_243 : decode cX12_writes 243 = .ok (.iconst 2, 1) := by decide +kernel
theorem dX12_writes_244 : decode cX12_writes 244 = .ok (.if_icmp .ne 10, 3) := by decide +kernel
theorem dX12_writes_247 : decode cX12_writes 247 = .ok (.aload_n 0, 1) := by decide +kernel
theorem dX12_writes_248 : decode cX12_writes 248 = .ok (.iload_n 1, 1) := by decide +kernel
theorem dX12_writes_249 : decode cX12_writes 249 = .ok (.bipush 32, 2) := by decide +kernel
theorem dX12_writes_251 : decode cX12_writes 251 = .ok (.invokevirtual 551, 3) := by decide +kernel
theorem dX12_writes_254 : decode cX12_writes 254 = .ok (.aload_n 0, 1) := by decide +kernel
theorem dX12_writes_255 : decode cX12_writes 255 = .ok (.iload_n 2, 1) := by decide +kernel
theorem dX12_writes_256 : decode cX12_writes 256 = .ok (.iload 7, 2) := by decide +kernel
theorem dX12_writes_258 : decode cX12_writes 258 = .ok (.iconst 3, 1) := by decide +kernel
theorem dX12_writes_259 : decode cX12_writes 259 = .ok (.invokevirtual 36, 3) := by decide +kernel
theorem dX12_writes_262 : decode cX12_writes 262 = .ok (.ifCond .ne 14, 3) := by decide +kernel
theorem dX12_writes_265 : decode cX12_writes 265 = .ok (.aload_n 0, 1) := by decide +kernel
theorem dX12_writes_266 : decode cX12_writes 266 = .ok (.iload_n 1, 1) := by decide +kernel
theorem dX12_writes_267 : decode cX12_writes 267 = .ok (.iload_n 2, 1) := by decide +kernel
theorem dX12_writes_268 : decode cX12_writes 268 = .ok (.iload 7, 2) := by decide +kernel
theorem dX12_writes_270 : decode cX12_writes 270 = .ok (.invokevirtual 568, 3) := by decide +kernel
theorem dX12_writes_273 : decode cX12_writes 273 = .ok (.goto 46, 3) := by decide +kernel
theorem dX12_writes_276 : decode cX12_writes 276 = .ok (.aload_n 0, 1) := by decide +kernel
theorem dX12_writes_277 : decode cX12_writes 277 = .ok (.iload_n 1, 1) := by decide +kernel
theorem dX12_writes_278 : decode cX12_writes 278 = .ok (.aload_n 0, 1) := by decide +kernel
theorem dX12_writes_279 : decode cX12_writes 279 = .ok (.iload_n 2, 1) := by decide +kernel
theorem dX12_writes_280 : decode cX12_writes 280 = .ok (.iload 7, 2) := by decide +kernel
theorem dX12_writes_282 : decode cX12_writes 282 = .ok (.invokevirtual 52, 3) := by decide +kernel
theorem dX12_writes_285 : decode cX12_writes 285 = .ok (.iconst 4, 1) := by decide +kernel
theorem dX12_writes_286 : decode cX12_writes 286 = .ok (.if_icmp .ne 8, 3) := by decide +kernel
theorem dX12_writes_289 : decode cX12_writes 289 = .ok (.bipush 91, 2) := by decide +kernel
theorem dX12_writes_291 : decode cX12_writes 291 = .ok (.goto 5, 3) := by decide +kernel
theorem dX12_writes_294 : decode cX12_writes 294 = .ok (.bipush 123, 2) := by decide +kernel
theorem dX12_writes_296 : decode cX12_writes 296 = .ok (.invokevirtual 551, 3) := by decide +kernel
theorem dX12_writes_299 : decode cX12_writes 299 = .ok (.aload_n 0, 1) := by decide +kernel
theorem dX12_writes_300 : decode cX12_writes 300 = .ok (.getfield 259, 3) := by decide +kernel
theorem dX12_writes_303 : decode cX12_writes 303 = .ok (.iload 5, 2) := by decide +kernel
theorem dX12_writes_305 : decode cX12_writes 305 = .ok (.iload 7, 2) := by decide +kernel
theorem dX12_writes_307 : decode cX12_writes 307 = .ok (.iastore, 1) := by decide +kernel
theorem dX12_writes_308 : decode cX12_writes 308 = .ok (.aload_n 0, 1) := by decide +kernel
theorem dX12_writes_309 : decode cX12_writes 309 = .ok (.getfield 265, 3) := by decide +kernel
theorem dX12_writes_312 : decode cX12_writes 312 = .ok (.iload 5, 2) := by decide +kernel
theorem dX12_writes_314 : decode cX12_writes 314 = .ok (.iconst (-1), 1) := by decide +kernel
theorem dX12_writes_315 : decode cX12_writes 315 = .ok (.iastore, 1) := by decide +kernel
theorem dX12_writes_316 : decode cX12_writes 316 = .ok (.iinc 5 1, 3) := by decide +kernel
theorem dX12_writes_319 : decode cX12_writes 319 = .ok (.goto (-255), 3) := by decide +kernel
theorem dX12_writes_322 : decode cX12_writes 322 = .ok (.return_, 1) := by decide +kernel
theorem dX12_onPaper_0 : decode cX12_onPaper 0 = .ok (.aload_n 0, 1) := by decide +kernel
theorem dX12_onPaper_1 : decode cX12_onPaper 1 = .ok (.aload_n 0, 1) := by decide +kernel
theorem dX12_onPaper_2 : decode cX12_onPaper 2 = .ok (.getfield 272, 3) := by decide +kernel
theorem dX12_onPaper_5 : decode cX12_onPaper 5 = .ok (.iconst 0, 1) := by decide +kernel
theorem dX12_onPaper_6 : decode cX12_onPaper 6 = .ok (.iaload, 1) := by decide +kernel
theorem dX12_onPaper_7 : decode cX12_onPaper 7 = .ok (.putfield 463, 3) := by decide +kernel
theorem dX12_onPaper_10 : decode cX12_onPaper 10 = .ok (.iconst 0, 1) := by decide +kernel
theorem dX12_onPaper_11 : decode cX12_onPaper 11 = .ok (.istore_n 1, 1) := by decide +kernel
theorem dX12_onPaper_12 : decode cX12_onPaper 12 = .ok (.iload_n 1, 1) := by decide +kernel
theorem dX12_onPaper_13 : decode cX12_onPaper 13 = .ok (.aload_n 0, 1) := by decide +kernel
theorem dX12_onPaper_14 : decode cX12_onPaper 14 = .ok (.getfield 463, 3) := by decide +kernel
theorem dX12_onPaper_17 : decode cX12_onPaper 17 = .ok (.if_icmp .ge 21, 3) := by decide +kernel
theorem dX12_onPaper_20 : decode cX12_onPaper 20 = .ok (.aload_n 0, 1) := by decide +kernel
theorem dX12_onPaper_21 : decode cX12_onPaper 21 = .ok (.getfield 92, 3) := by decide +kernel
theorem dX12_onPaper_24 : decode cX12_onPaper 24 = .ok (.iload_n 1, 1) := by decide +kernel
theorem dX12_onPaper_25 : decode cX12_onPaper 25 = .ok (.aload_n 0, 1) := by decide +kernel
theorem dX12_onPaper_26 : decode cX12_onPaper 26 = .ok (.getfield 269, 3) := by decide +kernel
theorem dX12_onPaper_29 : decode cX12_onPaper 29 = .ok (.iload_n 1, 1) := by decide +kernel
theorem dX12_onPaper_30 : decode cX12_onPaper 30 = .ok (.iaload, 1) := by decide +kernel
theorem dX12_onPaper_31 : decode cX12_onPaper 31 = .ok (.iastore, 1) := by decide +kernel
theorem dX12_onPaper_32 : decode cX12_onPaper 32 = .ok (.iinc 1 1, 3) := by decide +kernel
theorem dX12_onPaper_35 : decode cX12_onPaper 35 = .ok (.goto (-23), 3) := by decide +kernel
theorem dX12_onPaper_38 : decode cX12_onPaper 38 = .ok (.aload_n 0, 1) := by decide +kernel
theorem dX12_onPaper_39 : decode cX12_onPaper 39 = .ok (.getfield 463, 3) := by decide +kernel
theorem dX12_onPaper_42 : decode cX12_onPaper 42 = .ok (.ireturn, 1) := by decide +kernel
theorem dX12_print_0 : decode cX12_print 0 = .ok (.aload_n 0, 1) := by decide +kernel
theorem dX12_print_1 : decode cX12_print 1 = .ok (.aload_n 0, 1) := by decide +kernel
theorem dX12_print_2 : decode cX12_print 2 = .ok (.iload_n 1, 1) := by decide +kernel
theorem dX12_print_3 : decode cX12_print 3 = .ok (.invokevirtual 22, 3) := by decide +kernel
theorem dX12_print_6 : decode cX12_print 6 = .ok (.iconst 1, 1) := by decide +kernel
theorem dX12_print_7 : decode cX12_print 7 = .ok (.invokevirtual 456, 3) := by decide +kernel
theorem dX12_print_10 : decode cX12_print 10 = .ok (.ifCond .ne 17, 3) := by decide +kernel
theorem dX12_print_13 : decode cX12_print 13 = .ok (.aload_n 0, 1) := by decide +kernel
theorem dX12_print_14 : decode cX12_print 14 = .ok (.iload_n 2, 1) := by decide +kernel
theorem dX12_print_15 : decode cX12_print 15 = .ok (.iconst 0, 1) := by decide +kernel
theorem dX12_print_16 : decode cX12_print 16 = .ok (.iconst 2, 1) := by decide +kernel
theorem dX12_print_17 : decode cX12_print 17 = .ok (.invokestatic 18, 3) := by decide +kernel
theorem dX12_print_20 : decode cX12_print 20 = .ok (.iconst 2, 1) := by decide +kernel
theorem dX12_print_21 : decode cX12_print 21 = .ok (.invokevirtual 456, 3) := by decide +kernel
theorem dX12_print_24 : decode cX12_print 24 = .ok (.ifCond .eq 5, 3) := by decide +kernel
theorem dX12_print_27 : decode cX12_print 27 = .ok (.iconst 0, 1) := by decide +kernel
theorem dX12_print_28 : decode cX12_print 28 = .ok (.ireturn, 1) := by decide +kernel
theorem dX12_print_29 : decode cX12_print 29 = .ok (.aload_n 0, 1) := by decide +kernel
theorem dX12_print_30 : decode cX12_print 30 = .ok (.iconst 0, 1) := by decide +kernel
theorem dX12_print_31 : decode cX12_print 31 = .ok (.iload_n 1, 1) := by decide +kernel
theorem dX12_print_32 : decode cX12_print 32 = .ok (.iconst 0, 1) := by decide +kernel
theorem dX12_print_33 : decode cX12_print 33 = .ok (.iload_n 2, 1) := by decide +kernel
theorem dX12_print_34 : decode cX12_print 34 = .ok (.invokevirtual 574, 3) := by decide +kernel
theorem dX12_print_37 : decode cX12_print 37 = .ok (.aload_n 0, 1) := by decide +kernel
theorem dX12_print_38 : decode cX12_print 38 = .ok (.invokevirtual 577, 3) := by decide +kernel
theorem dX12_print_41 : decode cX12_print 41 = .ok (.ireturn, 1) := by decide +kernel
theorem dX12_areEqual_0 : decode cX12_areEqual 0 = .ok (.aload_n 0, 1) := by decide +kernel
theorem dX12_areEqual_1 : decode cX12_areEqual 1 = .ok (.iload_n 1, 1) := by decide +kernel
theorem dX12_areEqual_2 : decode cX12_areEqual 2 = .ok (.iload_n 2, 1) := by decide +kernel
theorem dX12_areEqual_3 : decode cX12_areEqual 3 = .ok (.invokevirtual 52, 3) := by decide +kernel
theorem dX12_areEqual_6 : decode cX12_areEqual 6 = .ok (.aload_n 0, 1) := by decide +kernel
theorem dX12_areEqual_7 : decode cX12_areEqual 7 = .ok (.iload_n 3, 1) := by decide +kernel
theorem dX12_areEqual_8 : decode cX12_areEqual 8 = .ok (.iload 4, 2) := by decide +kernel
theorem dX12_areEqual_10 : decode cX12_areEqual 10 = .ok (.invokevirtual 52, 3) := by decide +kernel
theorem dX12_areEqual_13 : decode cX12_areEqual 13 = .ok (.if_icmp .ne 21, 3) := by decide +kernel
theorem dX12_areEqual_16 : decode cX12_areEqual 16 = .ok (.aload_n 0, 1) := by decide +kernel
theorem dX12_areEqual_17 : decode cX12_areEqual 17 = .ok (.iload_n 1, 1) := by decide +kernel
theorem dX12_areEqual_18 : decode cX12_areEqual 18 = .ok (.iload_n 2, 1) := by decide +kernel
theorem dX12_areEqual_19 : decode cX12_areEqual 19 = .ok (.iconst 4, 1) := by decide +kernel
theorem dX12_areEqual_20 : decode cX12_areEqual 20 = .ok (.invokevirtual 36, 3) := by decide +kernel
theorem dX12_areEqual_23 : decode cX12_areEqual 23 = .ok (.aload_n 0, 1) := by decide +kernel
theorem dX12_areEqual_24 : decode cX12_areEqual 24 = .ok (.iload_n 3, 1) := by decide +kernel
theorem dX12_areEqual_25 : decode cX12_areEqual 25 = .ok (.iload 4, 2) := by decide +kernel
theorem dX12_areEqual_27 : decode cX12_areEqual 27 = .ok (.iconst 4, 1) := by decide +kernel
theorem dX12_areEqual_28 : decode cX12_areEqual 28 = .ok (.invokevirtual 36, 3) := by decide +kernel
theorem dX12_areEqual_31 : decode cX12_areEqual 31 = .ok (.if_icmp .eq 5, 3) := by decide +kernel
theorem dX12_areEqual_34 : decode cX12_areEqual 34 = .ok (.iconst 0, 1) := by decide +kernel
theorem dX12_areEqual_35 : decode cX12_areEqual 35 = .ok (.ireturn, 1) := by decide +kernel
theorem dX12_areEqual_36 : decode cX12_areEqual 36 = .ok (.aload_n 0, 1) := by decide +kernel
theorem dX12_areEqual_37 : decode cX12_areEqual 37 = .ok (.iconst 0, 1) := by decide +kernel
theorem dX12_areEqual_38 : decode cX12_areEqual 38 = .ok (.iload_n 1, 1) := by decide +kernel
theorem dX12_areEqual_39 : decode cX12_areEqual 39 = .ok (.iload_n 2, 1) := by decide +kernel
theorem dX12_areEqual_40 : decode cX12_areEqual 40 = .ok (.iconst 1, 1) := by decide +kernel
theorem dX12_areEqual_41 : decode cX12_areEqual 41 = .ok (.invokevirtual 574, 3) := by decide +kernel
theorem dX12_areEqual_44 : decode cX12_areEqual 44 = .ok (.aload_n 0, 1) := by decide +kernel
theorem dX12_areEqual_45 : decode cX12_areEqual 45 = .ok (.iconst 1, 1) := by decide +kernel
theorem dX12_areEqual_46 : decode cX12_areEqual 46 = .ok (.iload_n 3, 1) := by decide +kernel
theorem dX12_areEqual_47 : decode cX12_areEqual 47 = .ok (.iload 4, 2) := by decide +kernel
theorem dX12_areEqual_49 : decode cX12_areEqual 49 = .ok (.iconst 1, 1) := by decide +kernel
theorem dX12_areEqual_50 : decode cX12_areEqual 50 = .ok (.invokevirtual 574, 3) := by decide +kernel
theorem dX12_areEqual_53 : decode cX12_areEqual 53 = .ok (.aload_n 0, 1) := by decide +kernel
theorem dX12_areEqual_54 : decode cX12_areEqual 54 = .ok (.getfield 272, 3) := by decide +kernel
theorem dX12_areEqual_57 : decode cX12_areEqual 57 = .ok (.iconst 0, 1) := by decide +kernel
theorem dX12_areEqual_58 : decode cX12_areEqual 58 = .ok (.iaload, 1) := by decide +kernel
theorem dX12_areEqual_59 : decode cX12_areEqual 59 = .ok (.aload_n 0, 1) := by decide +kernel
theorem dX12_areEqual_60 : decode cX12_areEqual 60 = .ok (.getfield 272, 3) := by decide +kernel
theorem dX12_areEqual_63 : decode cX12_areEqual 63 = .ok (.iconst 1, 1) := by decide +kernel
theorem dX12_areEqual_64 : decode cX12_areEqual 64 = .ok (.iaload, 1) := by decide +kernel
theorem dX12_areEqual_65 : decode cX12_areEqual 65 = .ok (.if_icmp .ne 7, 3) := by decide +kernel
theorem dX12_areEqual_68 : decode cX12_areEqual 68 = .ok (.iconst 1, 1) := by decide +kernel
theorem dX12_areEqual_69 : decode cX12_areEqual 69 = .ok (.goto 4, 3) := by decide +kernel
theorem dX12_areEqual_72 : decode cX12_areEqual 72 = .ok (.iconst 0, 1) := by decide +kernel
theorem dX12_areEqual_73 : decode cX12_areEqual 73 = .ok (.istore 5, 2) := by decide +kernel
theorem dX12_areEqual_75 : decode cX12_areEqual 75 = .ok (.iconst 0, 1) := by decide +kernel
theorem dX12_areEqual_76 : decode cX12_areEqual 76 = .ok (.istore 6, 2) := by decide +kernel
theorem dX12_areEqual_78 : decode cX12_areEqual 78 = .ok (.iload 6, 2) := by decide +kernel
theorem dX12_areEqual_80 : decode cX12_areEqual 80 = .ok (.aload_n 0, 1) := by decide +kernel
theorem dX12_areEqual_81 : decode cX12_areEqual 81 = .ok (.getfield 272, 3) := by decide +kernel
theorem dX12_areEqual_84 : decode cX12_areEqual 84 = .ok (.iconst 0, 1) := by decide +kernel
theorem dX12_areEqual_85 : decode cX12_areEqual 85 = .ok (.iaload, 1) := by decide +kernel
theorem dX12_areEqual_86 : decode cX12_areEqual 86 = .ok (.if_icmp .ge 41, 3) := by decide +kernel
theorem dX12_areEqual_89 : decode cX12_areEqual 89 = .ok (.iload 5, 2) := by decide +kernel
theorem dX12_areEqual_91 : decode cX12_areEqual 91 = .ok (.ifCond .eq 36, 3) := by decide +kernel
theorem dX12_areEqual_94 : decode cX12_areEqual 94 = .ok (.aload_n 0, 1) := by decide +kernel
theorem dX12_areEqual_95 : decode cX12_areEqual 95 = .ok (.getfield 269, 3) := by decide +kernel
theorem dX12_areEqual_98 : decode cX12_areEqual 98 = .ok (.iload 6, 2) := by decide +kernel
theorem dX12_areEqual_100 : decode cX12_areEqual 100 = .ok (.iaload, 1) := by decide +kernel
theorem dX12_areEqual_101 : decode cX12_areEqual 101 = .ok (.aload_n 0, 1) := by decide +kernel
theorem dX12_areEqual_102 : decode cX12_areEqual 102 = .ok (.getfield 269, 3) := by decide +kernel
theorem dX12_areEqual_105 : decode cX12_areEqual 105 = .ok (.ldc 91, 2) := by decide +kernel
theorem dX12_areEqual_107 : decode cX12_areEqual 107 = .ok (.iload 6, 2) := by decide +kernel
theorem dX12_areEqual_109 : decode cX12_areEqual 109 = .ok (.iadd, 1) := by decide +kernel
theorem dX12_areEqual_110 : decode cX12_areEqual 110 = .ok (.iaload, 1) := by decide +kernel
theorem dX12_areEqual_111 : decode cX12_areEqual 111 = .ok (.if_icmp .ne 7, 3) := by decide +kernel
theorem dX12_areEqual_114 : decode cX12_areEqual 114 = .ok (.iconst 1, 1) := by decide +kernel
theorem dX12_areEqual_115 : decode cX12_areEqual 115 = .ok (.goto 4, 3) := by decide +kernel
theorem dX12_areEqual_118 : decode cX12_areEqual 118 = .ok (.iconst 0, 1) := by decide +kernel
theorem dX12_areEqual_119 : decode cX12_areEqual 119 = .ok (.istore 5, 2) := by decide +kernel
theorem dX12_areEqual_121 : decode cX12_areEqual 121 = .ok (.iinc 6 1, 3) := by decide +kernel
theorem dX12_areEqual_124 : decode cX12_areEqual 124 = .ok (.goto (-46), 3) := by decide +kernel
theorem dX12_areEqual_127 : decode cX12_areEqual 127 = .ok (.iload 5, 2) := by decide +kernel
theorem dX12_areEqual_129 : decode cX12_areEqual 129 = .ok (.ireturn, 1) := by decide +kernel
theorem dX12_node_0 : decode cX12_node 0 = .ok (.aload_n 0, 1) := by decide +kernel
theorem dX12_node_1 : decode cX12_node 1 = .ok (.aload_n 0, 1) := by decide +kernel
theorem dX12_node_2 : decode cX12_node 2 = .ok (.iload_n 1, 1) := by decide +kernel
theorem dX12_node_3 : decode cX12_node 3 = .ok (.iload_n 2, 1) := by decide +kernel
theorem dX12_node_4 : decode cX12_node 4 = .ok (.invokevirtual 580, 3) := by decide +kernel
theorem dX12_node_7 : decode cX12_node 7 = .ok (.iconst 1, 1) := by decide +kernel
theorem dX12_node_8 : decode cX12_node 8 = .ok (.invokevirtual 456, 3) := by decide +kernel
theorem dX12_node_11 : decode cX12_node 11 = .ok (.ifCond .ne 18, 3) := by decide +kernel
theorem dX12_node_14 : decode cX12_node 14 = .ok (.aload_n 0, 1) := by decide +kernel
theorem dX12_node_15 : decode cX12_node 15 = .ok (.iload_n 3, 1) := by decide +kernel
theorem dX12_node_16 : decode cX12_node 16 = .ok (.iconst 0, 1) := by decide +kernel
theorem dX12_node_17 : decode cX12_node 17 = .ok (.bipush 9, 2) := by decide +kernel
theorem dX12_node_19 : decode cX12_node 19 = .ok (.invokestatic 18, 3) := by decide +kernel
theorem dX12_node_22 : decode cX12_node 22 = .ok (.iconst 2, 1) := by decide +kernel
theorem dX12_node_23 : decode cX12_node 23 = .ok (.invokevirtual 456, 3) := by decide +kernel
theorem dX12_node_26 : decode cX12_node 26 = .ok (.ifCond .eq 5, 3) := by decide +kernel
theorem dX12_node_29 : decode cX12_node 29 = .ok (.iconst 0, 1) := by decide +kernel
theorem dX12_node_30 : decode cX12_node 30 = .ok (.ireturn, 1) := by decide +kernel
theorem dX12_node_31 : decode cX12_node 31 = .ok (.aload_n 0, 1) := by decide +kernel
theorem dX12_node_32 : decode cX12_node 32 = .ok (.iload_n 1, 1) := by decide +kernel
theorem dX12_node_33 : decode cX12_node 33 = .ok (.iload_n 2, 1) := by decide +kernel
theorem dX12_node_34 : decode cX12_node 34 = .ok (.invokevirtual 52, 3) := by decide +kernel
theorem dX12_node_37 : decode cX12_node 37 = .ok (.istore 4, 2) := by decide +kernel
theorem dX12_node_39 : decode cX12_node 39 = .ok (.iload_n 3, 1) := by decide +kernel
theorem dX12_node_40 : decode cX12_node 40 = .ok (.tableswitch 189 0 8 #[52, 55, 62, 70, 105, 124, 143, 162, 181], 52) := by decide +kernel
theorem dX12_node_92 : decode cX12_node 92 = .ok (.iload 4, 2) := by decide +kernel
theorem dX12_node_94 : decode cX12_node 94 = .ok (.ireturn, 1) := by decide +kernel
theorem dX12_node_95 : decode cX12_node 95 = .ok (.aload_n 0, 1) := by decide +kernel
theorem dX12_node_96 : decode cX12_node 96 = .ok (.iload_n 1, 1) := by decide +kernel
theorem dX12_node_97 : decode cX12_node 97 = .ok (.iload_n 2, 1) := by decide +kernel
theorem dX12_node_98 : decode cX12_node 98 = .ok (.invokevirtual 59, 3) := by decide +kernel
theorem dX12_node_101 : decode cX12_node 101 = .ok (.ireturn, 1) := by decide +kernel
theorem dX12_node_102 : decode cX12_node 102 = .ok (.aload_n 0, 1) := by decide +kernel
theorem dX12_node_103 : decode cX12_node 103 = .ok (.iload_n 1, 1) := by decide +kernel
theorem dX12_node_104 : decode cX12_node 104 = .ok (.iload_n 2, 1) := by decide +kernel
theorem dX12_node_105 : decode cX12_node 105 = .ok (.iconst 4, 1) := by decide +kernel
theorem dX12_node_106 : decode cX12_node 106 = .ok (.invokevirtual 36, 3) := by decide +kernel
theorem dX12_node_109 : decode cX12_node 109 = .ok (.ireturn, 1) := by decide +kernel
theorem dX12_node_110 : decode cX12_node 110 = .ok (.iload 4, 2) := by decide +kernel
theorem dX12_node_112 : decode cX12_node 112 = .ok (.iconst 3, 1) := by decide +kernel
theorem dX12_node_113 : decode cX12_node 113 = .ok (.if_icmp .ge 7, 3) := by decide +kernel
theorem dX12_node_116 : decode cX12_node 116 = .ok (.iconst (-1), 1) := by decide +kernel
theorem dX12_node_117 : decode cX12_node 117 = .ok (.goto 27, 3) := by decide +kernel
theorem dX12_node_120 : decode cX12_node 120 = .ok (.iload 4, 2) := by decide +kernel
theorem dX12_node_122 : decode cX12_node 122 = .ok (.iconst 3, 1) := by decide +kernel
theorem dX12_node_123 : decode cX12_node 123 = .ok (.if_icmp .ne 14, 3) := by decide +kernel
theorem dX12_node_126 : decode cX12_node 126 = .ok (.aload_n 0, 1) := by decide +kernel
theorem dX12_node_127 : decode cX12_node 127 = .ok (.iload_n 1, 1) := by decide +kernel
theorem dX12_node_128 : decode cX12_node 128 = .ok (.iload_n 2, 1) := by decide +kernel
theorem dX12_node_129 : decode cX12_node 129 = .ok (.bipush 18, 2) := by decide +kernel
theorem dX12_node_131 : decode cX12_node 131 = .ok (.invokevirtual 36, 3) := by decide +kernel
theorem dX12_node_134 : decode cX12_node 134 = .ok (.goto 10, 3) := by decide +kernel
theorem dX12_node_137 : decode cX12_node 137 = .ok (.aload_n 0, 1) := by decide +kernel
theorem dX12_node_138 : decode cX12_node 138 = .ok (.iload_n 1, 1) := by decide +kernel
theorem dX12_node_139 : decode cX12_node 139 = .ok (.iload_n 2, 1) := by decide +kernel
theorem dX12_node_140 : decode cX12_node 140 = .ok (.iconst 3, 1) := by decide +kernel
theorem dX12_node_141 : decode cX12_node 141 = .ok (.invokevirtual 36, 3) := by decide +kernel
theorem dX12_node_144 : decode cX12_node 144 = .ok (.ireturn, 1) := by decide +kernel
theorem dX12_node_145 : decode cX12_node 145 = .ok (.iload 4, 2) := by decide +kernel
theorem dX12_node_147 : decode cX12_node 147 = .ok (.iconst 1, 1) := by decide +kernel
theorem dX12_node_148 : decode cX12_node 148 = .ok (.if_icmp .ne 14, 3) := by decide +kernel
theorem dX12_node_151 : decode cX12_node 151 = .ok (.aload_n 0, 1) := by decide +kernel
theorem dX12_node_152 : decode cX12_node 152 = .ok (.iload_n 1, 1) := by decide +kernel
theorem dX12_node_153 : decode cX12_node 153 = .ok (.iload_n 2, 1) := by decide +kernel
theorem dX12_node_154 : decode cX12_node 154 = .ok (.bipush 19, 2) := by decide +kernel
theorem dX12_node_156 : decode cX12_node 156 = .ok (.invokevirtual 36, 3) := by decide +kernel
theorem dX12_node_159 : decode cX12_node 159 = .ok (.goto 4, 3) := by decide +kernel
theorem dX12_node_162 : decode cX12_node 162 = .ok (.iconst (-1), 1) := by decide +kernel
theorem dX12_node_163 : decode cX12_node 163 = .ok (.ireturn, 1) := by decide +kernel
theorem dX12_node_164 : decode cX12_node 164 = .ok (.iload 4, 2) := by decide +kernel
theorem dX12_node_166 : decode cX12_node 166 = .ok (.iconst 2, 1) := by decide +kernel
theorem dX12_node_167 : decode cX12_node 167 = .ok (.if_icmp .ne 14, 3) := by decide +kernel
theorem dX12_node_170 : decode cX12_node 170 = .ok (.aload_n 0, 1) := by decide +kernel
theorem dX12_node_171 : decode cX12_node 171 = .ok (.iload_n 1, 1) := by decide +kernel
theorem dX12_node_172 : decode cX12_node 172 = .ok (.iload_n 2, 1) := by decide +kernel
theorem dX12_node_173 : decode cX12_node 173 = .ok (.bipush 20, 2) := by decide +kernel
theorem dX12_node_175 : decode cX12_node 175 = .ok (.invokevirtual 36, 3) := by decide +kernel
theorem dX12_node_178 : decode cX12_node 178 = .ok (.goto 4, 3) := by decide +kernel
theorem dX12_node_181 : decode cX12_node 181 = .ok (.iconst 0, 1) := by decide +kernel
theorem dX12_node_182 : decode cX12_node 182 = .ok (.ireturn, 1) := by decide +kernel
theorem dX12_node_183 : decode cX12_node 183 = .ok (.iload 4, 2) := by decide +kernel
theorem dX12_node_185 : decode cX12_node 185 = .ok (.iconst 2, 1) := by decide +kernel
theorem dX12_node_186 : decode cX12_node 186 = .ok (.if_icmp .ne 14, 3) := by decide +kernel
theorem dX12_node_189 : decode cX12_node 189 = .ok (.aload_n 0, 1) := by decide +kernel
theorem dX12_node_190 : decode cX12_node 190 = .ok (.iload_n 1, 1) := by decide +kernel
theorem dX12_node_191 : decode cX12_node 191 = .ok (.iload_n 2, 1) := by decide +kernel
theorem dX12_node_192 : decode cX12_node 192 = .ok (.bipush 18, 2) := by decide +kernel
theorem dX12_node_194 : decode cX12_node 194 = .ok (.invokevirtual 36, 3) := by decide +kernel
theorem dX12_node_197 : decode cX12_node 197 = .ok (.goto 4, 3) := by decide +kernel
theorem dX12_node_200 : decode cX12_node 200 = .ok (.iconst 0, 1) := by decide +kernel
theorem dX12_node_201 : decode cX12_node 201 = .ok (.ireturn, 1) := by decide +kernel
theorem dX12_node_202 : decode cX12_node 202 = .ok (.iload 4, 2) := by decide +kernel
theorem dX12_node_204 : decode cX12_node 204 = .ok (.iconst 2, 1) := by decide +kernel
theorem dX12_node_205 : decode cX12_node 205 = .ok (.if_icmp .ne 14, 3) := by decide +kernel
theorem dX12_node_208 : decode cX12_node 208 = .ok (.aload_n 0, 1) := by decide +kernel
theorem dX12_node_209 : decode cX12_node 209 = .ok (.iload_n 1, 1) := by decide +kernel
theorem dX12_node_210 : decode cX12_node 210 = .ok (.iload_n 2, 1) := by decide +kernel
theorem dX12_node_211 : decode cX12_node 211 = .ok (.bipush 19, 2) := by decide +kernel
theorem dX12_node_213 : decode cX12_node 213 = .ok (.invokevirtual 36, 3) := by decide +kernel
theorem dX12_node_216 : decode cX12_node 216 = .ok (.goto 4, 3) := by decide +kernel
theorem dX12_node_219 : decode cX12_node 219 = .ok (.iconst (-1), 1) := by decide +kernel
theorem dX12_node_220 : decode cX12_node 220 = .ok (.ireturn, 1) := by decide +kernel
theorem dX12_node_221 : decode cX12_node 221 = .ok (.aload_n 0, 1) := by decide +kernel
theorem dX12_node_222 : decode cX12_node 222 = .ok (.iload_n 1, 1) := by decide +kernel
theorem dX12_node_223 : decode cX12_node 223 = .ok (.iload_n 2, 1) := by decide +kernel
theorem dX12_node_224 : decode cX12_node 224 = .ok (.iconst 1, 1) := by decide +kernel
theorem dX12_node_225 : decode cX12_node 225 = .ok (.invokevirtual 36, 3) := by decide +kernel
theorem dX12_node_228 : decode cX12_node 228 = .ok (.ireturn, 1) := by decide +kernel
theorem dX12_node_229 : decode cX12_node 229 = .ok (.aload_n 0, 1) := by decide +kernel
theorem dX12_node_230 : decode cX12_node 230 = .ok (.iload_n 1, 1) := by decide +kernel
theorem dX12_node_231 : decode cX12_node 231 = .ok (.iload_n 2, 1) := by decide +kernel
theorem dX12_node_232 : decode cX12_node 232 = .ok (.iconst 2, 1) := by decide +kernel
theorem dX12_node_233 : decode cX12_node 233 = .ok (.invokevirtual 36, 3) := by decide +kernel
theorem dX12_node_236 : decode cX12_node 236 = .ok (.ireturn, 1) := by decide +kernel
theorem dX12_putsPath_0 : decode cX12_putsPath 0 = .ok (.iconst 0, 1) := by decide +kernel
theorem dX12_putsPath_1 : decode cX12_putsPath 1 = .ok (.istore_n 3, 1) := by decide +kernel
theorem dX12_putsPath_2 : decode cX12_putsPath 2 = .ok (.iload_n 2, 1) := by decide +kernel
theorem dX12_putsPath_3 : decode cX12_putsPath 3 = .ok (.istore 4, 2) := by decide +kernel
theorem dX12_putsPath_5 : decode cX12_putsPath 5 = .ok (.iload 4, 2) := by decide +kernel
theorem dX12_putsPath_7 : decode cX12_putsPath 7 = .ok (.ifCond .eq 27, 3) := by decide +kernel
theorem dX12_putsPath_10 : decode cX12_putsPath 10 = .ok (.aload_n 0, 1) := by decide +kernel
theorem dX12_putsPath_11 : decode cX12_putsPath 11 = .ok (.getfield 259, 3) := by decide +kernel
theorem dX12_putsPath_14 : decode cX12_putsPath 14 = .ok (.iload_n 3, 1) := by decide +kernel
theorem dX12_putsPath_15 : decode cX12_putsPath 15 = .ok (.iload 4, 2) := by decide +kernel
theorem dX12_putsPath_17 : decode cX12_putsPath 17 = .ok (.iastore, 1) := by decide +kernel
theorem dX12_putsPath_18 : decode cX12_putsPath 18 = .ok (.iinc 3 1, 3) := by decide +kernel
theorem dX12_putsPath_21 : decode cX12_putsPath 21 = .ok (.aload_n 0, 1) := by decide +kernel
theorem dX12_putsPath_22 : decode cX12_putsPath 22 = .ok (.iload_n 1, 1) := by decide +kernel
theorem dX12_putsPath_23 : decode cX12_putsPath 23 = .ok (.iload 4, 2) := by decide +kernel
theorem dX12_putsPath_25 : decode cX12_putsPath 25 = .ok (.iconst 1, 1) := by decide +kernel
theorem dX12_putsPath_26 : decode cX12_putsPath 26 = .ok (.invokevirtual 36, 3) := by decide +kernel
theorem dX12_putsPath_29 : decode cX12_putsPath 29 = .ok (.istore 4, 2) := by decide +kernel
theorem dX12_putsPath_31 : decode cX12_putsPath 31 = .ok (.goto (-26), 3) := by decide +kernel
theorem dX12_putsPath_34 : decode cX12_putsPath 34 = .ok (.iload_n 3, 1) := by decide +kernel
theorem dX12_putsPath_35 : decode cX12_putsPath 35 = .ok (.iconst 1, 1) := by decide +kernel
theorem dX12_putsPath_36 : decode cX12_putsPath 36 = .ok (.isub, 1) := by decide +kernel
theorem dX12_putsPath_37 : decode cX12_putsPath 37 = .ok (.istore 4, 2) := by decide +kernel
theorem dX12_putsPath_39 : decode cX12_putsPath 39 = .ok (.iload 4, 2) := by decide +kernel
theorem dX12_putsPath_41 : decode cX12_putsPath 41 = .ok (.ifCond .lt 21, 3) := by decide +kernel
theorem dX12_putsPath_44 : decode cX12_putsPath 44 = .ok (.aload_n 0, 1) := by decide +kernel
theorem dX12_putsPath_45 : decode cX12_putsPath 45 = .ok (.iload_n 1, 1) := by decide +kernel
theorem dX12_putsPath_46 : decode cX12_putsPath 46 = .ok (.aload_n 0, 1) := by decide +kernel
theorem dX12_putsPath_47 : decode cX12_putsPath 47 = .ok (.getfield 259, 3) := by decide +kernel
theorem dX12_putsPath_50 : decode cX12_putsPath 50 = .ok (.iload 4, 2) := by decide +kernel
theorem dX12_putsPath_52 : decode cX12_putsPath 52 = .ok (.iaload, 1) := by decide +kernel
theorem dX12_putsPath_53 : decode cX12_putsPath 53 = .ok (.invokevirtual 584, 3) := by decide +kernel
theorem dX12_putsPath_56 : decode cX12_putsPath 56 = .ok (.iinc 4 (-1), 3) := by decide +kernel
theorem dX12_putsPath_59 : decode cX12_putsPath 59 = .ok (.goto (-20), 3) := by decide +kernel
theorem dX12_putsPath_62 : decode cX12_putsPath 62 = .ok (.return_, 1) := by decide +kernel
theorem dX12_putsStep_0 : decode cX12_putsStep 0 = .ok (.aload_n 0, 1) := by decide +kernel
theorem dX12_putsStep_1 : decode cX12_putsStep 1 = .ok (.iconst 0, 1) := by decide +kernel
theorem dX12_putsStep_2 : decode cX12_putsStep 2 = .ok (.bipush 47, 2) := by decide +kernel
theorem dX12_putsStep_4 : decode cX12_putsStep 4 = .ok (.invokevirtual 551, 3) := by decide +kernel
theorem dX12_putsStep_7 : decode cX12_putsStep 7 = .ok (.aload_n 0, 1) := by decide +kernel
theorem dX12_putsStep_8 : decode cX12_putsStep 8 = .ok (.iload_n 1, 1) := by decide +kernel
theorem dX12_putsStep_9 : decode cX12_putsStep 9 = .ok (.aload_n 0, 1) := by decide +kernel
theorem dX12_putsStep_10 : decode cX12_putsStep 10 = .ok (.iload_n 1, 1) := by decide +kernel
theorem dX12_putsStep_11 : decode cX12_putsStep 11 = .ok (.iload_n 2, 1) := by decide +kernel
theorem dX12_putsStep_12 : decode cX12_putsStep 12 = .ok (.iconst 1, 1) := by decide +kernel
theorem dX12_putsStep_13 : decode cX12_putsStep 13 = .ok (.invokevirtual 36, 3) := by decide +kernel
theorem dX12_putsStep_16 : decode cX12_putsStep 16 = .ok (.invokevirtual 52, 3) := by decide +kernel
theorem dX12_putsStep_19 : decode cX12_putsStep 19 = .ok (.iconst 4, 1) := by decide +kernel
theorem dX12_putsStep_20 : decode cX12_putsStep 20 = .ok (.if_icmp .ne 16, 3) := by decide +kernel
theorem dX12_putsStep_23 : decode cX12_putsStep 23 = .ok (.aload_n 0, 1) := by decide +kernel
theorem dX12_putsStep_24 : decode cX12_putsStep 24 = .ok (.iconst 0, 1) := by decide +kernel
theorem dX12_putsStep_25 : decode cX12_putsStep 25 = .ok (.aload_n 0, 1) := by decide +kernel
theorem dX12_putsStep_26 : decode cX12_putsStep 26 = .ok (.iload_n 1, 1) := by decide +kernel
theorem dX12_putsStep_27 : decode cX12_putsStep 27 = .ok (.iload_n 2, 1) := by decide +kernel
theorem dX12_putsStep_28 : decode cX12_putsStep 28 = .ok (.iconst 2, 1) := by decide +kernel
theorem dX12_putsStep_29 : decode cX12_putsStep 29 = .ok (.invokevirtual 36, 3) := by decide +kernel
theorem dX12_putsStep_32 : decode cX12_putsStep 32 = .ok (.invokevirtual 565, 3) := by decide +kernel
theorem dX12_putsStep_35 : decode cX12_putsStep 35 = .ok (.return_, 1) := by decide +kernel
theorem dX12_putsStep_36 : decode cX12_putsStep 36 = .ok (.iconst 0, 1) := by decide +kernel
theorem dX12_putsStep_37 : decode cX12_putsStep 37 = .ok (.istore_n 3, 1) := by decide +kernel
theorem dX12_putsStep_38 : decode cX12_putsStep 38 = .ok (.iload_n 3, 1) := by decide +kernel
theorem dX12_putsStep_39 : decode cX12_putsStep 39 = .ok (.aload_n 0, 1) := by decide +kernel
theorem dX12_putsStep_40 : decode cX12_putsStep 40 = .ok (.iload_n 1, 1) := by decide +kernel
theorem dX12_putsStep_41 : decode cX12_putsStep 41 = .ok (.iload_n 2, 1) := by decide +kernel
theorem dX12_putsStep_42 : decode cX12_putsStep 42 = .ok (.iconst 5, 1) := by decide +kernel
theorem dX12_putsStep_43 : decode cX12_putsStep 43 = .ok (.invokevirtual 36, 3) := by decide +kernel
theorem dX12_putsStep_46 : decode cX12_putsStep 46 = .ok (.if_icmp .ge 80, 3) := by decide +kernel
theorem dX12_putsStep_49 : decode cX12_putsStep 49 = .ok (.aload_n 0, 1) := by decide +kernel
theorem dX12_putsStep_50 : decode cX12_putsStep 50 = .ok (.iload_n 1, 1) := by decide +kernel
theorem dX12_putsStep_51 : decode cX12_putsStep 51 = .ok (.iload_n 2, 1) := by decide +kernel
theorem dX12_putsStep_52 : decode cX12_putsStep 52 = .ok (.bipush 6, 2) := by decide +kernel
theorem dX12_putsStep_54 : decode cX12_putsStep 54 = .ok (.iload_n 3, 1) := by decide +kernel
theorem dX12_putsStep_55 : decode cX12_putsStep 55 = .ok (.iadd, 1) := by decide +kernel
theorem dX12_putsStep_56 : decode cX12_putsStep 56 = .ok (.invokevirtual 36, 3) := by decide +kernel
theorem dX12_putsStep_59 : decode cX12_putsStep 59 = .ok (.istore 4, 2) := by decide +kernel
theorem dX12_putsStep_61 : decode cX12_putsStep 61 = .ok (.aload_n 0, 1) := by decide +kernel
theorem dX12_putsStep_62 : decode cX12_putsStep 62 = .ok (.iconst 0, 1) := by decide +kernel
theorem dX12_putsStep_63 : decode cX12_putsStep 63 = .ok (.iload 4, 2) := by decide +kernel
theorem dX12_putsStep_65 : decode cX12_putsStep 65 = .ok (.bipush 126, 2) := by decide +kernel
theorem dX12_putsStep_67 : decode cX12_putsStep 67 = .ok (.if_icmp .eq 10, 3) := by decide +kernel
theorem dX12_putsStep_70 : decode cX12_putsStep 70 = .ok (.iload 4, 2) := by decide +kernel
theorem dX12_putsStep_72 : decode cX12_putsStep 72 = .ok (.bipush 47, 2) := by decide +kernel
theorem dX12_putsStep_74 : decode cX12_putsStep 74 = .ok (.if_icmp .ne 8, 3) := by decide +kernel
theorem dX12_putsStep_77 : decode cX12_putsStep 77 = .ok (.bipush 126, 2) := by decide +kernel
theorem dX12_putsStep_79 : decode cX12_putsStep 79 = .ok (.goto 5, 3) := by decide +kernel
theorem dX12_putsStep_82 : decode cX12_putsStep 82 = .ok (.iload 4, 2) := by decide +kernel
theorem dX12_putsStep_84 : decode cX12_putsStep 84 = .ok (.invokevirtual 551, 3) := by decide +kernel
theorem dX12_putsStep_87 : decode cX12_putsStep 87 = .ok (.iload 4, 2) := by decide +kernel
theorem dX12_putsStep_89 : decode cX12_putsStep 89 = .ok (.bipush 126, 2) := by decide +kernel
theorem dX12_putsStep_91 : decode cX12_putsStep 91 = .ok (.if_icmp .eq 10, 3) := by decide +kernel
theorem dX12_putsStep_94 : decode cX12_putsStep 94 = .ok (.iload 4, 2) := by decide +kernel
theorem dX12_putsStep_96 : decode cX12_putsStep 96 = .ok (.bipush 47, 2) := by decide +kernel
theorem dX12_putsStep_98 : decode cX12_putsStep 98 = .ok (.if_icmp .ne 22, 3) := by decide +kernel
theorem dX12_putsStep_101 : decode cX12_putsStep 101 = .ok (.aload_n 0, 1) := by decide +kernel
theorem dX12_putsStep_102 : decode cX12_putsStep 102 = .ok (.iconst 0, 1) := by decide +kernel
theorem dX12_putsStep_103 : decode cX12_putsStep 103 = .ok (.iload 4, 2) := by decide +kernel
theorem dX12_putsStep_105 : decode cX12_putsStep 105 = .ok (.bipush 126, 2) := by decide +kernel
theorem dX12_putsStep_107 : decode cX12_putsStep 107 = .ok (.if_icmp .ne 8, 3) := by decide +kernel
theorem dX12_putsStep_110 : decode cX12_putsStep 110 = .ok (.bipush 48, 2) := by decide +kernel
theorem dX12_putsStep_112 : decode cX12_putsStep 112 = .ok (.goto 5, 3) := by decide +kernel
theorem dX12_putsStep_115 : decode cX12_putsStep 115 = .ok (.bipush 49, 2) := by decide +kernel
theorem dX12_putsStep_117 : decode cX12_putsStep 117 = .ok (.invokevirtual 551, 3) := by decide +kernel
theorem dX12_putsStep_120 : decode cX12_putsStep 120 = .ok (.iinc 3 1, 3) := by decide +kernel
theorem dX12_putsStep_123 : decode cX12_putsStep 123 = .ok (.goto (-85), 3) := by decide +kernel
theorem dX12_putsStep_126 : decode cX12_putsStep 126 = .ok (.return_, 1) := by decide +kernel
theorem dX12_tell_0 : decode cX12_tell 0 = .ok (.aload_n 0, 1) := by decide +kernel
theorem dX12_tell_1 : decode cX12_tell 1 = .ok (.aload_n 0, 1) := by decide +kernel
theorem dX12_tell_2 : decode cX12_tell 2 = .ok (.iload_n 1, 1) := by decide +kernel
theorem dX12_tell_3 : decode cX12_tell 3 = .ok (.iload_n 2, 1) := by decide +kernel
theorem dX12_tell_4 : decode cX12_tell 4 = .ok (.invokevirtual 580, 3) := by decide +kernel
theorem dX12_tell_7 : decode cX12_tell 7 = .ok (.iconst 1, 1) := by decide +kernel
theorem dX12_tell_8 : decode cX12_tell 8 = .ok (.invokevirtual 456, 3) := by decide +kernel
theorem dX12_tell_11 : decode cX12_tell 11 = .ok (.ifCond .ne 17, 3) := by decide +kernel
theorem dX12_tell_14 : decode cX12_tell 14 = .ok (.aload_n 0, 1) := by decide +kernel
theorem dX12_tell_15 : decode cX12_tell 15 = .ok (.iload_n 3, 1) := by decide +kernel
theorem dX12_tell_16 : decode cX12_tell 16 = .ok (.iconst 0, 1) := by decide +kernel
theorem dX12_tell_17 : decode cX12_tell 17 = .ok (.iconst 3, 1) := by decide +kernel
theorem dX12_tell_18 : decode cX12_tell 18 = .ok (.invokestatic 18, 3) := by decide +kernel
theorem dX12_tell_21 : decode cX12_tell 21 = .ok (.iconst 2, 1) := by decide +kernel
theorem dX12_tell_22 : decode cX12_tell 22 = .ok (.invokevirtual 456, 3) := by decide +kernel
theorem dX12_tell_25 : decode cX12_tell 25 = .ok (.ifCond .eq 5, 3) := by decide +kernel
theorem dX12_tell_28 : decode cX12_tell 28 = .ok (.iconst 0, 1) := by decide +kernel
theorem dX12_tell_29 : decode cX12_tell 29 = .ok (.ireturn, 1) := by decide +kernel
theorem dX12_tell_30 : decode cX12_tell 30 = .ok (.aload_n 0, 1) := by decide +kernel
theorem dX12_tell_31 : decode cX12_tell 31 = .ok (.iload_n 1, 1) := by decide +kernel
theorem dX12_tell_32 : decode cX12_tell 32 = .ok (.iload_n 2, 1) := by decide +kernel
theorem dX12_tell_33 : decode cX12_tell 33 = .ok (.invokevirtual 52, 3) := by decide +kernel
theorem dX12_tell_36 : decode cX12_tell 36 = .ok (.istore 4, 2) := by decide +kernel
theorem dX12_tell_38 : decode cX12_tell 38 = .ok (.iload_n 2, 1) := by decide +kernel
theorem dX12_tell_39 : decode cX12_tell 39 = .ok (.ifCond .le 23, 3) := by decide +kernel
theorem dX12_tell_42 : decode cX12_tell 42 = .ok (.aload_n 0, 1) := by decide +kernel
theorem dX12_tell_43 : decode cX12_tell 43 = .ok (.iload_n 1, 1) := by decide +kernel
theorem dX12_tell_44 : decode cX12_tell 44 = .ok (.aload_n 0, 1) := by decide +kernel
theorem dX12_tell_45 : decode cX12_tell 45 = .ok (.iload_n 1, 1) := by decide +kernel
theorem dX12_tell_46 : decode cX12_tell 46 = .ok (.iload_n 2, 1) := by decide +kernel
theorem dX12_tell_47 : decode cX12_tell 47 = .ok (.iconst 1, 1) := by decide +kernel
theorem dX12_tell_48 : decode cX12_tell 48 = .ok (.invokevirtual 36, 3) := by decide +kernel
theorem dX12_tell_51 : decode cX12_tell 51 = .ok (.invokevirtual 52, 3) := by decide +kernel
theorem dX12_tell_54 : decode cX12_tell 54 = .ok (.iconst 5, 1) := by decide +kernel
theorem dX12_tell_55 : decode cX12_tell 55 = .ok (.if_icmp .ne 7, 3) := by decide +kernel
theorem dX12_tell_58 : decode cX12_tell 58 = .ok (.iconst 1, 1) := by decide +kernel
theorem dX12_tell_59 : decode cX12_tell 59 = .ok (.goto 4, 3) := by decide +kernel
theorem dX12_tell_62 : decode cX12_tell 62 = .ok (.iconst 0, 1) := by decide +kernel
theorem dX12_tell_63 : decode cX12_tell 63 = .ok (.istore 5, 2) := by decide +kernel
theorem dX12_tell_65 : decode cX12_tell 65 = .ok (.aload_n 0, 1) := by decide +kernel
theorem dX12_tell_66 : decode cX12_tell 66 = .ok (.iload_n 3, 1) := by decide +kernel
theorem dX12_tell_67 : decode cX12_tell 67 = .ok (.iconst 3, 1) := by decide +kernel
theorem dX12_tell_68 : decode cX12_tell 68 = .ok (.if_icmp .eq 34, 3) := by decide +kernel
theorem dX12_tell_71 : decode cX12_tell 71 = .ok (.iload_n 3, 1) := by decide +kernel
theorem dX12_tell_72 : decode cX12_tell 72 = .ok (.ifCond .ne 9, 3) := by decide +kernel
theorem dX12_tell_75 : decode cX12_tell 75 = .ok (.iload 4, 2) := by decide +kernel
theorem dX12_tell_77 : decode cX12_tell 77 = .ok (.iconst 3, 1) := by decide +kernel
theorem dX12_tell_78 : decode cX12_tell 78 = .ok (.if_icmp .eq 24, 3) := by decide +kernel
theorem dX12_tell_81 : decode cX12_tell 81 = .ok (.iload_n 3, 1) := by decide +kernel
theorem dX12_tell_82 : decode cX12_tell 82 = .ok (.iconst 1, 1) := by decide +kernel
theorem dX12_tell_83 : decode cX12_tell 83 = .ok (.if_icmp .ne 9, 3) := by decide +kernel
theorem dX12_tell_86 : decode cX12_tell 86 = .ok (.iload 4, 2) := by decide +kernel
theorem dX12_tell_88 : decode cX12_tell 88 = .ok (.iconst 2, 1) := by decide +kernel
theorem dX12_tell_89 : decode cX12_tell 89 = .ok (.if_icmp .eq 13, 3) := by decide +kernel
theorem dX12_tell_92 : decode cX12_tell 92 = .ok (.iload_n 3, 1) := by decide +kernel
theorem dX12_tell_93 : decode cX12_tell 93 = .ok (.iconst 2, 1) := by decide +kernel
theorem dX12_tell_94 : decode cX12_tell 94 = .ok (.if_icmp .ne 12, 3) := by decide +kernel
theorem dX12_tell_97 : decode cX12_tell 97 = .ok (.iload 5, 2) := by decide +kernel
theorem dX12_tell_99 : decode cX12_tell 99 = .ok (.ifCond .eq 7, 3) := by decide +kernel
theorem dX12_tell_102 : decode cX12_tell 102 = .ok (.iconst 1, 1) := by decide +kernel
theorem dX12_tell_103 : decode cX12_tell 103 = .ok (.goto 4, 3) := by decide +kernel
theorem dX12_tell_106 : decode cX12_tell 106 = .ok (.iconst 0, 1) := by decide +kernel
theorem dX12_tell_107 : decode cX12_tell 107 = .ok (.iconst 3, 1) := by decide +kernel
theorem dX12_tell_108 : decode cX12_tell 108 = .ok (.invokevirtual 456, 3) := by decide +kernel
theorem dX12_tell_111 : decode cX12_tell 111 = .ok (.ifCond .eq 5, 3) := by decide +kernel
theorem dX12_tell_114 : decode cX12_tell 114 = .ok (.iconst 0, 1) := by decide +kernel
theorem dX12_tell_115 : decode cX12_tell 115 = .ok (.ireturn, 1) := by decide +kernel
theorem dX12_tell_116 : decode cX12_tell 116 = .ok (.aload_n 0, 1) := by decide +kernel
theorem dX12_tell_117 : decode cX12_tell 117 = .ok (.getfield 272, 3) := by decide +kernel
theorem dX12_tell_120 : decode cX12_tell 120 = .ok (.iconst 0, 1) := by decide +kernel
theorem dX12_tell_121 : decode cX12_tell 121 = .ok (.iconst 0, 1) := by decide +kernel
theorem dX12_tell_122 : decode cX12_tell 122 = .ok (.iastore, 1) := by decide +kernel
theorem dX12_tell_123 : decode cX12_tell 123 = .ok (.iload_n 3, 1) := by decide +kernel
theorem dX12_tell_124 : decode cX12_tell 124 = .ok (.iconst 3, 1) := by decide +kernel
theorem dX12_tell_125 : decode cX12_tell 125 = .ok (.if_icmp .ne 12, 3) := by decide +kernel
theorem dX12_tell_128 : decode cX12_tell 128 = .ok (.aload_n 0, 1) := by decide +kernel
theorem dX12_tell_129 : decode cX12_tell 129 = .ok (.iload_n 1, 1) := by decide +kernel
theorem dX12_tell_130 : decode cX12_tell 130 = .ok (.iload_n 2, 1) := by decide +kernel
theorem dX12_tell_131 : decode cX12_tell 131 = .ok (.invokevirtual 587, 3) := by decide +kernel
theorem dX12_tell_134 : decode cX12_tell 134 = .ok (.goto 109, 3) := by decide +kernel
theorem dX12_tell_137 : decode cX12_tell 137 = .ok (.iload_n 3, 1) := by decide +kernel
theorem dX12_tell_138 : decode cX12_tell 138 = .ok (.iconst 2, 1) := by decide +kernel
theorem dX12_tell_139 : decode cX12_tell 139 = .ok (.if_icmp .ne 43, 3) := by decide +kernel
theorem dX12_tell_142 : decode cX12_tell 142 = .ok (.iconst 0, 1) := by decide +kernel
theorem dX12_tell_143 : decode cX12_tell 143 = .ok (.istore 6, 2) := by decide +kernel
theorem dX12_tell_145 : decode cX12_tell 145 = .ok (.iload 6, 2) := by decide +kernel
theorem dX12_tell_147 : decode cX12_tell 147 = .ok (.aload_n 0, 1) := by decide +kernel
theorem dX12_tell_148 : decode cX12_tell 148 = .ok (.iload_n 1, 1) := by decide +kernel
theorem dX12_tell_149 : decode cX12_tell 149 = .ok (.iload_n 2, 1) := by decide +kernel
theorem dX12_tell_150 : decode cX12_tell 150 = .ok (.iconst 5, 1) := by decide +kernel
theorem dX12_tell_151 : decode cX12_tell 151 = .ok (.invokevirtual 36, 3) := by decide +kernel
theorem dX12_tell_154 : decode cX12_tell 154 = .ok (.if_icmp .ge 25, 3) := by decide +kernel
theorem dX12_tell_157 : decode cX12_tell 157 = .ok (.aload_n 0, 1) := by decide +kernel
theorem dX12_tell_158 : decode cX12_tell 158 = .ok (.iconst 0, 1) := by decide +kernel
theorem dX12_tell_159 : decode cX12_tell 159 = .ok (.aload_n 0, 1) := by decide +kernel
theorem dX12_tell_160 : decode cX12_tell 160 = .ok (.iload_n 1, 1) := by decide +kernel
theorem dX12_tell_161 : decode cX12_tell 161 = .ok (.iload_n 2, 1) := by decide +kernel
theorem dX12_tell_162 : decode cX12_tell 162 = .ok (.bipush 6, 2) := by decide +kernel
theorem dX12_tell_164 : decode cX12_tell 164 = .ok (.iload 6, 2) := by decide +kernel
theorem dX12_tell_166 : decode cX12_tell 166 = .ok (.iadd, 1) := by decide +kernel
theorem dX12_tell_167 : decode cX12_tell 167 = .ok (.invokevirtual 36, 3) := by decide +kernel
theorem dX12_tell_170 : decode cX12_tell 170 = .ok (.invokevirtual 551, 3) := by decide +kernel
theorem dX12_tell_173 : decode cX12_tell 173 = .ok (.iinc 6 1, 3) := by decide +kernel
theorem dX12_tell_176 : decode cX12_tell 176 = .ok (.goto (-31), 3) := by decide +kernel
theorem dX12_tell_179 : decode cX12_tell 179 = .ok (.goto 64, 3) := by decide +kernel
theorem dX12_tell_182 : decode cX12_tell 182 = .ok (.iload_n 3, 1) := by decide +kernel
theorem dX12_tell_183 : decode cX12_tell 183 = .ok (.iconst 1, 1) := by decide +kernel
theorem dX12_tell_184 : decode cX12_tell 184 = .ok (.if_icmp .ne 21, 3) := by decide +kernel
theorem dX12_tell_187 : decode cX12_tell 187 = .ok (.aload_n 0, 1) := by decide +kernel
theorem dX12_tell_188 : decode cX12_tell 188 = .ok (.iload_n 1, 1) := by decide +kernel
theorem dX12_tell_189 : decode cX12_tell 189 = .ok (.iload_n 2, 1) := by decide +kernel
theorem dX12_tell_190 : decode cX12_tell 190 = .ok (.bipush 19, 2) := by decide +kernel
theorem dX12_tell_192 : decode cX12_tell 192 = .ok (.invokevirtual 36, 3) := by decide +kernel
theorem dX12_tell_195 : decode cX12_tell 195 = .ok (.ifCond .ge 10, 3) := by decide +kernel
theorem dX12_tell_198 : decode cX12_tell 198 = .ok (.aload_n 0, 1) := by decide +kernel
theorem dX12_tell_199 : decode cX12_tell 199 = .ok (.iconst 0, 1) := by decide +kernel
theorem dX12_tell_200 : decode cX12_tell 200 = .ok (.bipush 45, 2) := by decide +kernel
theorem dX12_tell_202 : decode cX12_tell 202 = .ok (.invokevirtual 551, 3) := by decide +kernel
theorem dX12_tell_205 : decode cX12_tell 205 = .ok (.iconst 0, 1) := by decide +kernel
theorem dX12_tell_206 : decode cX12_tell 206 = .ok (.istore 6, 2) := by decide +kernel
theorem dX12_tell_208 : decode cX12_tell 208 = .ok (.iload 6, 2) := by decide +kernel
theorem dX12_tell_210 : decode cX12_tell 210 = .ok (.aload_n 0, 1) := by decide +kernel
theorem dX12_tell_211 : decode cX12_tell 211 = .ok (.iload_n 1, 1) := by decide +kernel
theorem dX12_tell_212 : decode cX12_tell 212 = .ok (.iload_n 2, 1) := by decide +kernel
theorem dX12_tell_213 : decode cX12_tell 213 = .ok (.bipush 18, 2) := by decide +kernel
theorem dX12_tell_215 : decode cX12_tell 215 = .ok (.invokevirtual 36, 3) := by decide +kernel
theorem dX12_tell_218 : decode cX12_tell 218 = .ok (.if_icmp .ge 25, 3) := by decide +kernel
theorem dX12_tell_221 : decode cX12_tell 221 = .ok (.aload_n 0, 1) := by decide +kernel
theorem dX12_tell_222 : decode cX12_tell 222 = .ok (.iconst 0, 1) := by decide +kernel
theorem dX12_tell_223 : decode cX12_tell 223 = .ok (.aload_n 0, 1) := by decide +kernel
theorem dX12_tell_224 : decode cX12_tell 224 = .ok (.iload_n 1, 1) := by decide +kernel
theorem dX12_tell_225 : decode cX12_tell 225 = .ok (.iload_n 2, 1) := by decide +kernel
theorem dX12_tell_226 : decode cX12_tell 226 = .ok (.bipush 21, 2) := by decide +kernel
theorem dX12_tell_228 : decode cX12_tell 228 = .ok (.iload 6, 2) := by decide +kernel
theorem dX12_tell_230 : decode cX12_tell 230 = .ok (.iadd, 1) := by decide +kernel
theorem dX12_tell_231 : decode cX12_tell 231 = .ok (.invokevirtual 36, 3) := by decide +kernel
theorem dX12_tell_234 : decode cX12_tell 234 = .ok (.invokevirtual 551, 3) := by decide +kernel
theorem dX12_tell_237 : decode cX12_tell 237 = .ok (.iinc 6 1, 3) := by decide +kernel
theorem dX12_tell_240 : decode cX12_tell 240 = .ok (.goto (-32), 3) := by decide +kernel
theorem dX12_tell_243 : decode cX12_tell 243 = .ok (.aload_n 0, 1) := by decide +kernel
theorem dX12_tell_244 : decode cX12_tell 244 = .ok (.invokevirtual 577, 3) := by decide +kernel
theorem dX12_tell_247 : decode cX12_tell 247 = .ok (.ireturn, 1) := by decide +kernel
theorem dX12_equal_0 : decode cX12_equal 0 = .ok (.aload_n 0, 1) := by decide +kernel
theorem dX12_equal_1 : decode cX12_equal 1 = .ok (.aload_n 0, 1) := by decide +kernel
theorem dX12_equal_2 : decode cX12_equal 2 = .ok (.iload_n 1, 1) := by decide +kernel
theorem dX12_equal_3 : decode cX12_equal 3 = .ok (.invokevirtual 22, 3) := by decide +kernel
theorem dX12_equal_6 : decode cX12_equal 6 = .ok (.ifCond .eq 15, 3) := by decide +kernel
theorem dX12_equal_9 : decode cX12_equal 9 = .ok (.aload_n 0, 1) := by decide +kernel
theorem dX12_equal_10 : decode cX12_equal 10 = .ok (.iload_n 2, 1) := by decide +kernel
theorem dX12_equal_11 : decode cX12_equal 11 = .ok (.invokevirtual 22, 3) := by decide +kernel
theorem dX12_equal_14 : decode cX12_equal 14 = .ok (.ifCond .eq 7, 3) := by decide +kernel
theorem dX12_equal_17 : decode cX12_equal 17 = .ok (.iconst 1, 1) := by decide +kernel
theorem dX12_equal_18 : decode cX12_equal 18 = .ok (.goto 4, 3) := by decide +kernel
theorem dX12_equal_21 : decode cX12_equal 21 = .ok (.iconst 0, 1) := by decide +kernel
theorem dX12_equal_22 : decode cX12_equal 22 = .ok (.iconst 1, 1) := by decide +kernel
theorem dX12_equal_23 : decode cX12_equal 23 = .ok (.invokevirtual 456, 3) := by decide +kernel
theorem dX12_equal_26 : decode cX12_equal 26 = .ok (.ifCond .ne 18, 3) := by decide +kernel
theorem dX12_equal_29 : decode cX12_equal 29 = .ok (.aload_n 0, 1) := by decide +kernel
theorem dX12_equal_30 : decode cX12_equal 30 = .ok (.iload_n 1, 1) := by decide +kernel
theorem dX12_equal_31 : decode cX12_equal 31 = .ok (.iconst 0, 1) := by decide +kernel
theorem dX12_equal_32 : decode cX12_equal 32 = .ok (.iload_n 2, 1) := by decide +kernel
theorem dX12_equal_33 : decode cX12_equal 33 = .ok (.iconst 0, 1) := by decide +kernel
theorem dX12_equal_34 : decode cX12_equal 34 = .ok (.invokevirtual 590, 3) := by decide +kernel
theorem dX12_equal_37 : decode cX12_equal 37 = .ok (.ifCond .eq 7, 3) := by decide +kernel
theorem dX12_equal_40 : decode cX12_equal 40 = .ok (.iconst 1, 1) := by decide +kernel
theorem dX12_equal_41 : decode cX12_equal 41 = .ok (.goto 4, 3) := by decide +kernel
theorem dX12_equal_44 : decode cX12_equal 44 = .ok (.iconst 0, 1) := by decide +kernel
theorem dX12_equal_45 : decode cX12_equal 45 = .ok (.ireturn, 1) := by decide +kernel
theorem dX12_compared_0 : decode cX12_compared 0 = .ok (.iload_n 1, 1) := by decide +kernel
theorem dX12_compared_1 : decode cX12_compared 1 = .ok (.iload_n 2, 1) := by decide +kernel
theorem dX12_compared_2 : decode cX12_compared 2 = .ok (.invokestatic 11, 3) := by decide +kernel
theorem dX12_compared_5 : decode cX12_compared 5 = .ok (.istore 5, 2) := by decide +kernel
theorem dX12_compared_7 : decode cX12_compared 7 = .ok (.iload_n 3, 1) := by decide +kernel
theorem dX12_compared_8 : decode cX12_compared 8 = .ok (.iload 4, 2) := by decide +kernel
theorem dX12_compared_10 : decode cX12_compared 10 = .ok (.invokestatic 11, 3) := by decide +kernel
theorem dX12_compared_13 : decode cX12_compared 13 = .ok (.istore 6, 2) := by decide +kernel
theorem dX12_compared_15 : decode cX12_compared 15 = .ok (.aload_n 0, 1) := by decide +kernel
theorem dX12_compared_16 : decode cX12_compared 16 = .ok (.getfield 7, 3) := by decide +kernel
theorem dX12_compared_19 : decode cX12_compared 19 = .ok (.iload 5, 2) := by decide +kernel
theorem dX12_compared_21 : decode cX12_compared 21 = .ok (.bipush 19, 2) := by decide +kernel
theorem dX12_compared_23 : decode cX12_compared 23 = .ok (.iadd, 1) := by decide +kernel
theorem dX12_compared_24 : decode cX12_compared 24 = .ok (.iaload, 1) := by decide +kernel
theorem dX12_compared_25 : decode cX12_compared 25 = .ok (.aload_n 0, 1) := by decide +kernel
theorem dX12_compared_26 : decode cX12_compared 26 = .ok (.getfield 7, 3) := by decide +kernel
theorem dX12_compared_29 : decode cX12_compared 29 = .ok (.iload 6, 2) := by decide +kernel
theorem dX12_compared_31 : decode cX12_compared 31 = .ok (.bipush 19, 2) := by decide +kernel
theorem dX12_compared_33 : decode cX12_compared 33 = .ok (.iadd, 1) := by decide +kernel
theorem dX12_compared_34 : decode cX12_compared 34 = .ok (.iaload, 1) := by decide +kernel
theorem dX12_compared_35 : decode cX12_compared 35 = .ok (.if_icmp .eq 32, 3) := by decide +kernel
theorem dX12_compared_38 : decode cX12_compared 38 = .ok (.aload_n 0, 1) := by decide +kernel
theorem dX12_compared_39 : decode cX12_compared 39 = .ok (.getfield 7, 3) := by decide +kernel
theorem dX12_compared_42 : decode cX12_compared 42 = .ok (.iload 5, 2) := by decide +kernel
theorem dX12_compared_44 : decode cX12_compared 44 = .ok (.bipush 19, 2) := by decide +kernel
theorem dX12_compared_46 : decode cX12_compared 46 = .ok (.iadd, 1) := by decide +kernel
theorem dX12_compared_47 : decode cX12_compared 47 = .ok (.iaload, 1) := by decide +kernel
theorem dX12_compared_48 : decode cX12_compared 48 = .ok (.aload_n 0, 1) := by decide +kernel
theorem dX12_compared_49 : decode cX12_compared 49 = .ok (.getfield 7, 3) := by decide +kernel
theorem dX12_compared_52 : decode cX12_compared 52 = .ok (.iload 6, 2) := by decide +kernel
theorem dX12_compared_54 : decode cX12_compared 54 = .ok (.bipush 19, 2) := by decide +kernel
theorem dX12_compared_56 : decode cX12_compared 56 = .ok (.iadd, 1) := by decide +kernel
theorem dX12_compared_57 : decode cX12_compared 57 = .ok (.iaload, 1) := by decide +kernel
theorem dX12_compared_58 : decode cX12_compared 58 = .ok (.if_icmp .ge 7, 3) := by decide +kernel
theorem dX12_compared_61 : decode cX12_compared 61 = .ok (.iconst (-1), 1) := by decide +kernel
theorem dX12_compared_62 : decode cX12_compared 62 = .ok (.goto 4, 3) := by decide +kernel
theorem dX12_compared_65 : decode cX12_compared 65 = .ok (.iconst 1, 1) := by decide +kernel
theorem dX12_compared_66 : decode cX12_compared 66 = .ok (.ireturn, 1) := by decide +kernel
theorem dX12_compared_67 : decode cX12_compared 67 = .ok (.aload_n 0, 1) := by decide +kernel
theorem dX12_compared_68 : decode cX12_compared 68 = .ok (.getfield 7, 3) := by decide +kernel
theorem dX12_compared_71 : decode cX12_compared 71 = .ok (.iload 5, 2) := by decide +kernel
theorem dX12_compared_73 : decode cX12_compared 73 = .ok (.bipush 19, 2) := by decide +kernel
theorem dX12_compared_75 : decode cX12_compared 75 = .ok (.iadd, 1) := by decide +kernel
theorem dX12_compared_76 : decode cX12_compared 76 = .ok (.iaload, 1) := by decide +kernel
theorem dX12_compared_77 : decode cX12_compared 77 = .ok (.ifCond .ne 5, 3) := by decide +kernel
theorem dX12_compared_80 : decode cX12_compared 80 = .ok (.iconst 0, 1) := by decide +kernel
theorem dX12_compared_81 : decode cX12_compared 81 = .ok (.ireturn, 1) := by decide +kernel
theorem dX12_compared_82 : decode cX12_compared 82 = .ok (.aload_n 0, 1) := by decide +kernel
theorem dX12_compared_83 : decode cX12_compared 83 = .ok (.getfield 7, 3) := by decide +kernel
theorem dX12_compared_86 : decode cX12_compared 86 = .ok (.iload 5, 2) := by decide +kernel
theorem dX12_compared_88 : decode cX12_compared 88 = .ok (.bipush 18, 2) := by decide +kernel
theorem dX12_compared_90 : decode cX12_compared 90 = .ok (.iadd, 1) := by decide +kernel
theorem dX12_compared_91 : decode cX12_compared 91 = .ok (.iaload, 1) := by decide +kernel
theorem dX12_compared_92 : decode cX12_compared 92 = .ok (.aload_n 0, 1) := by decide +kernel
theorem dX12_compared_93 : decode cX12_compared 93 = .ok (.getfield 7, 3) := by decide +kernel
theorem dX12_compared_96 : decode cX12_compared 96 = .ok (.iload 5, 2) := by decide +kernel
theorem dX12_compared_98 : decode cX12_compared 98 = .ok (.bipush 20, 2) := by decide +kernel
theorem dX12_compared_100 : decode cX12_compared 100 = .ok (.iadd, 1) := by decide +kernel
theorem dX12_compared_101 : decode cX12_compared 101 = .ok (.iaload, 1) := by decide +kernel
theorem dX12_compared_102 : decode cX12_compared 102 = .ok (.iadd, 1) := by decide +kernel
theorem dX12_compared_103 : decode cX12_compared 103 = .ok (.aload_n 0, 1) := by decide +kernel
theorem dX12_compared_104 : decode cX12_compared 104 = .ok (.getfield 7, 3) := by decide +kernel
theorem dX12_compared_107 : decode cX12_compared 107 = .ok (.iload 6, 2) := by decide +kernel
theorem dX12_compared_109 : decode cX12_compared 109 = .ok (.bipush 18, 2) := by decide +kernel
theorem dX12_compared_111 : decode cX12_compared 111 = .ok (.iadd, 1) := by decide +kernel
theorem dX12_compared_112 : decode cX12_compared 112 = .ok (.iaload, 1) := by decide +kernel
theorem dX12_compared_113 : decode cX12_compared 113 = .ok (.isub, 1) := by decide +kernel
theorem dX12_compared_114 : decode cX12_compared 114 = .ok (.aload_n 0, 1) := by decide +kernel
theorem dX12_compared_115 : decode cX12_compared 115 = .ok (.getfield 7, 3) := by decide +kernel
theorem dX12_compared_118 : decode cX12_compared 118 = .ok (.iload 6, 2) := by decide +kernel
theorem dX12_compared_120 : decode cX12_compared 120 = .ok (.bipush 20, 2) := by decide +kernel
theorem dX12_compared_122 : decode cX12_compared 122 = .ok (.iadd, 1) := by decide +kernel
theorem dX12_compared_123 : decode cX12_compared 123 = .ok (.iaload, 1) := by decide +kernel
theorem dX12_compared_124 : decode cX12_compared 124 = .ok (.isub, 1) := by decide +kernel
theorem dX12_compared_125 : decode cX12_compared 125 = .ok (.istore 7, 2) := by decide +kernel
theorem dX12_compared_127 : decode cX12_compared 127 = .ok (.iconst 0, 1) := by decide +kernel
theorem dX12_compared_128 : decode cX12_compared 128 = .ok (.istore 8, 2) := by decide +kernel
theorem dX12_compared_130 : decode cX12_compared 130 = .ok (.iload 8, 2) := by decide +kernel
theorem dX12_compared_132 : decode cX12_compared 132 = .ok (.bipush 24, 2) := by decide +kernel
theorem dX12_compared_134 : decode cX12_compared 134 = .ok (.if_icmp .ge 87, 3) := by decide +kernel
theorem dX12_compared_137 : decode cX12_compared 137 = .ok (.iload 7, 2) := by decide +kernel
theorem dX12_compared_139 : decode cX12_compared 139 = .ok (.ifCond .ne 82, 3) := by decide +kernel
theorem dX12_compared_142 : decode cX12_compared 142 = .ok (.iload 8, 2) := by decide +kernel
theorem dX12_compared_144 : decode cX12_compared 144 = .ok (.aload_n 0, 1) := by decide +kernel
theorem dX12_compared_145 : decode cX12_compared 145 = .ok (.getfield 7, 3) := by decide +kernel
theorem dX12_compared_148 : decode cX12_compared 148 = .ok (.iload 5, 2) := by decide +kernel
theorem dX12_compared_150 : decode cX12_compared 150 = .ok (.bipush 18, 2) := by decide +kernel
theorem dX12_compared_152 : decode cX12_compared 152 = .ok (.iadd, 1) := by decide +kernel
theorem dX12_compared_153 : decode cX12_compared 153 = .ok (.iaload, 1) := by decide +kernel
theorem dX12_compared_154 : decode cX12_compared 154 = .ok (.if_icmp .ge 19, 3) := by decide +kernel
theorem dX12_compared_157 : decode cX12_compared 157 = .ok (.aload_n 0, 1) := by decide +kernel
theorem dX12_compared_158 : decode cX12_compared 158 = .ok (.getfield 7, 3) := by decide +kernel
theorem dX12_compared_161 : decode cX12_compared 161 = .ok (.iload 5, 2) := by decide +kernel
theorem dX12_compared_163 : decode cX12_compared 163 = .ok (.bipush 21, 2) := by decide +kernel
theorem dX12_compared_165 : decode cX12_compared 165 = .ok (.iadd, 1) := by decide +kernel
theorem dX12_compared_166 : decode cX12_compared 166 = .ok (.iload 8, 2) := by decide +kernel
theorem dX12_compared_168 : decode cX12_compared 168 = .ok (.iadd, 1) := by decide +kernel
theorem dX12_compared_169 : decode cX12_compared 169 = .ok (.iaload, 1) := by decide +kernel
theorem dX12_compared_170 : decode cX12_compared 170 = .ok (.goto 5, 3) := by decide +kernel
theorem dX12_compared_173 : decode cX12_compared 173 = .ok (.bipush 48, 2) := by decide +kernel
theorem dX12_compared_175 : decode cX12_compared 175 = .ok (.istore 9, 2) := by decide +kernel
theorem dX12_compared_177 : decode cX12_compared 177 = .ok (.iload 9, 2) := by decide +kernel
theorem dX12_compared_179 : decode cX12_compared 179 = .ok (.iload 8, 2) := by decide +kernel
theorem dX12_compared_181 : decode cX12_compared 181 = .ok (.aload_n 0, 1) := by decide +kernel
theorem dX12_compared_182 : decode cX12_compared 182 = .ok (.getfield 7, 3) := by decide +kernel
theorem dX12_compared_185 : decode cX12_compared 185 = .ok (.iload 6, 2) := by decide +kernel
theorem dX12_compared_187 : decode cX12_compared 187 = .ok (.bipush 18, 2) := by decide +kernel
theorem dX12_compared_189 : decode cX12_compared 189 = .ok (.iadd, 1) := by decide +kernel
theorem dX12_compared_190 : decode cX12_compared 190 = .ok (.iaload, 1) := by decide +kernel
theorem dX12_compared_191 : decode cX12_compared 191 = .ok (.if_icmp .ge 19, 3) := by decide +kernel
theorem dX12_compared_194 : decode cX12_compared 194 = .ok (.aload_n 0, 1) := by decide +kernel
theorem dX12_compared_195 : decode cX12_compared 195 = .ok (.getfield 7, 3) := by decide +kernel
theorem dX12_compared_198 : decode cX12_compared 198 = .ok (.iload 6, 2) := by decide +kernel
theorem dX12_compared_200 : decode cX12_compared 200 = .ok (.bipush 21, 2) := by decide +kernel
theorem dX12_compared_202 : decode cX12_compared 202 = .ok (.iadd, 1) := by decide +kernel
theorem dX12_compared_203 : decode cX12_compared 203 = .ok (.iload 8, 2) := by decide +kernel
theorem dX12_compared_205 : decode cX12_compared 205 = .ok (.iadd, 1) := by decide +kernel
theorem dX12_compared_206 : decode cX12_compared 206 = .ok (.iaload, 1) := by decide +kernel
theorem dX12_compared_207 : decode cX12_compared 207 = .ok (.goto 5, 3) := by decide +kernel
theorem dX12_compared_210 : decode cX12_compared 210 = .ok (.bipush 48, 2) := by decide +kernel
theorem dX12_compared_212 : decode cX12_compared 212 = .ok (.isub, 1) := by decide +kernel
theorem dX12_compared_213 : decode cX12_compared 213 = .ok (.istore 7, 2) := by decide +kernel
theorem dX12_compared_215 : decode cX12_compared 215 = .ok (.iinc 8 1, 3) := by decide +kernel
theorem dX12_compared_218 : decode cX12_compared 218 = .ok (.goto (-88), 3) := by decide +kernel
theorem dX12_compared_221 : decode cX12_compared 221 = .ok (.iload 7, 2) := by decide +kernel
theorem dX12_compared_223 : decode cX12_compared 223 = .ok (.ifCond .ge 7, 3) := by decide +kernel
theorem dX12_compared_226 : decode cX12_compared 226 = .ok (.iconst (-1), 1) := by decide +kernel
theorem dX12_compared_227 : decode cX12_compared 227 = .ok (.goto 13, 3) := by decide +kernel
theorem dX12_compared_230 : decode cX12_compared 230 = .ok (.iload 7, 2) := by decide +kernel
theorem dX12_compared_232 : decode cX12_compared 232 = .ok (.ifCond .le 7, 3) := by decide +kernel
theorem dX12_compared_235 : decode cX12_compared 235 = .ok (.iconst 1, 1) := by decide +kernel
theorem dX12_compared_236 : decode cX12_compared 236 = .ok (.goto 4, 3) := by decide +kernel
theorem dX12_compared_239 : decode cX12_compared 239 = .ok (.iconst 0, 1) := by decide +kernel
theorem dX12_compared_240 : decode cX12_compared 240 = .ok (.istore 7, 2) := by decide +kernel
theorem dX12_compared_242 : decode cX12_compared 242 = .ok (.aload_n 0, 1) := by decide +kernel
theorem dX12_compared_243 : decode cX12_compared 243 = .ok (.getfield 7, 3) := by decide +kernel
theorem dX12_compared_246 : decode cX12_compared 246 = .ok (.iload 5, 2) := by decide +kernel
theorem dX12_compared_248 : decode cX12_compared 248 = .ok (.bipush 19, 2) := by decide +kernel
theorem dX12_compared_250 : decode cX12_compared 250 = .ok (.iadd, 1) := by decide +kernel
theorem dX12_compared_251 : decode cX12_compared 251 = .ok (.iaload, 1) := by decide +kernel
theorem dX12_compared_252 : decode cX12_compared 252 = .ok (.iload 7, 2) := by decide +kernel
theorem dX12_compared_254 : decode cX12_compared 254 = .ok (.imul, 1) := by decide +kernel
theorem dX12_compared_255 : decode cX12_compared 255 = .ok (.ireturn, 1) := by decide +kernel
theorem dX12_compare_0 : decode cX12_compare 0 = .ok (.aload_n 0, 1) := by decide +kernel
theorem dX12_compare_1 : decode cX12_compare 1 = .ok (.aload_n 0, 1) := by decide +kernel
theorem dX12_compare_2 : decode cX12_compare 2 = .ok (.iload_n 1, 1) := by decide +kernel
theorem dX12_compare_3 : decode cX12_compare 3 = .ok (.invokevirtual 22, 3) := by decide +kernel
theorem dX12_compare_6 : decode cX12_compare 6 = .ok (.ifCond .eq 15, 3) := by decide +kernel
theorem dX12_compare_9 : decode cX12_compare 9 = .ok (.aload_n 0, 1) := by decide +kernel
theorem dX12_compare_10 : decode cX12_compare 10 = .ok (.iload_n 2, 1) := by decide +kernel
theorem dX12_compare_11 : decode cX12_compare 11 = .ok (.invokevirtual 22, 3) := by decide +kernel
theorem dX12_compare_14 : decode cX12_compare 14 = .ok (.ifCond .eq 7, 3) := by decide +kernel
theorem dX12_compare_17 : decode cX12_compare 17 = .ok (.iconst 1, 1) := by decide +kernel
theorem dX12_compare_18 : decode cX12_compare 18 = .ok (.goto 4, 3) := by decide +kernel
theorem dX12_compare_21 : decode cX12_compare 21 = .ok (.iconst 0, 1) := by decide +kernel
theorem dX12_compare_22 : decode cX12_compare 22 = .ok (.iconst 1, 1) := by decide +kernel
theorem dX12_compare_23 : decode cX12_compare 23 = .ok (.invokevirtual 456, 3) := by decide +kernel
theorem dX12_compare_26 : decode cX12_compare 26 = .ok (.ifCond .ne 36, 3) := by decide +kernel
theorem dX12_compare_29 : decode cX12_compare 29 = .ok (.aload_n 0, 1) := by decide +kernel
theorem dX12_compare_30 : decode cX12_compare 30 = .ok (.aload_n 0, 1) := by decide +kernel
theorem dX12_compare_31 : decode cX12_compare 31 = .ok (.iload_n 1, 1) := by decide +kernel
theorem dX12_compare_32 : decode cX12_compare 32 = .ok (.iconst 0, 1) := by decide +kernel
theorem dX12_compare_33 : decode cX12_compare 33 = .ok (.invokevirtual 52, 3) := by decide +kernel
theorem dX12_compare_36 : decode cX12_compare 36 = .ok (.iconst 2, 1) := by decide +kernel
theorem dX12_compare_37 : decode cX12_compare 37 = .ok (.if_icmp .ne 17, 3) := by decide +kernel
theorem dX12_compare_40 : decode cX12_compare 40 = .ok (.aload_n 0, 1) := by decide +kernel
theorem dX12_compare_41 : decode cX12_compare 41 = .ok (.iload_n 2, 1) := by decide +kernel
theorem dX12_compare_42 : decode cX12_compare 42 = .ok (.iconst 0, 1) := by decide +kernel
theorem dX12_compare_43 : decode cX12_compare 43 = .ok (.invokevirtual 52, 3) := by decide +kernel
theorem dX12_compare_46 : decode cX12_compare 46 = .ok (.iconst 2, 1) := by decide +kernel
theorem dX12_compare_47 : decode cX12_compare 47 = .ok (.if_icmp .ne 7, 3) := by decide +kernel
theorem dX12_compare_50 : decode cX12_compare 50 = .ok (.iconst 1, 1) := by decide +kernel
theorem dX12_compare_51 : decode cX12_compare 51 = .ok (.goto 4, 3) := by decide +kernel
theorem dX12_compare_54 : decode cX12_compare 54 = .ok (.iconst 0, 1) := by decide +kernel
theorem dX12_compare_55 : decode cX12_compare 55 = .ok (.iconst 2, 1) := by decide +kernel
theorem dX12_compare_56 : decode cX12_compare 56 = .ok (.invokevirtual 456, 3) := by decide +kernel
theorem dX12_compare_59 : decode cX12_compare 59 = .ok (.ifCond .eq 5, 3) := by decide +kernel
theorem dX12_compare_62 : decode cX12_compare 62 = .ok (.iconst 0, 1) := by decide +kernel
theorem dX12_compare_63 : decode cX12_compare 63 = .ok (.ireturn, 1) := by decide +kernel
theorem dX12_compare_64 : decode cX12_compare 64 = .ok (.aload_n 0, 1) := by decide +kernel
theorem dX12_compare_65 : decode cX12_compare 65 = .ok (.iload_n 1, 1) := by decide +kernel
theorem dX12_compare_66 : decode cX12_compare 66 = .ok (.iconst 0, 1) := by decide +kernel
theorem dX12_compare_67 : decode cX12_compare 67 = .ok (.iload_n 2, 1) := by decide +kernel
theorem dX12_compare_68 : decode cX12_compare 68 = .ok (.iconst 0, 1) := by decide +kernel
theorem dX12_compare_69 : decode cX12_compare 69 = .ok (.invokevirtual 594, 3) := by decide +kernel
theorem dX12_compare_72 : decode cX12_compare 72 = .ok (.ireturn, 1) := by decide +kernel
theorem dX12_digest_0 : decode cX12_digest 0 = .ok (.aload_n 0, 1) := by decide +kernel
theorem dX12_digest_1 : decode cX12_digest 1 = .ok (.aload_n 0, 1) := by decide +kernel
theorem dX12_digest_2 : decode cX12_digest 2 = .ok (.iload_n 1, 1) := by decide +kernel
theorem dX12_digest_3 : decode cX12_digest 3 = .ok (.iload_n 2, 1) := by decide +kernel
theorem dX12_digest_4 : decode cX12_digest 4 = .ok (.invokevirtual 580, 3) := by decide +kernel
theorem dX12_digest_7 : decode cX12_digest 7 = .ok (.iconst 1, 1) := by decide +kernel
theorem dX12_digest_8 : decode cX12_digest 8 = .ok (.invokevirtual 456, 3) := by decide +kernel
theorem dX12_digest_11 : decode cX12_digest 11 = .ok (.ifCond .eq 5, 3) := by decide +kernel
theorem dX12_digest_14 : decode cX12_digest 14 = .ok (.iconst 0, 1) := by decide +kernel
theorem dX12_digest_15 : decode cX12_digest 15 = .ok (.ireturn, 1) := by decide +kernel
theorem dX12_digest_16 : decode cX12_digest 16 = .ok (.aload_n 0, 1) := by decide +kernel
theorem dX12_digest_17 : decode cX12_digest 17 = .ok (.iconst 0, 1) := by decide +kernel
theorem dX12_digest_18 : decode cX12_digest 18 = .ok (.iload_n 1, 1) := by decide +kernel
theorem dX12_digest_19 : decode cX12_digest 19 = .ok (.iload_n 2, 1) := by decide +kernel
theorem dX12_digest_20 : decode cX12_digest 20 = .ok (.iconst 1, 1) := by decide +kernel
theorem dX12_digest_21 : decode cX12_digest 21 = .ok (.invokevirtual 574, 3) := by decide +kernel
theorem dX12_digest_24 : decode cX12_digest 24 = .ok (.bipush 7, 2) := by decide +kernel
theorem dX12_digest_26 : decode cX12_digest 26 = .ok (.istore_n 3, 1) := by decide +kernel
theorem dX12_digest_27 : decode cX12_digest 27 = .ok (.iconst 0, 1) := by decide +kernel
theorem dX12_digest_28 : decode cX12_digest 28 = .ok (.istore 4, 2) := by decide +kernel
theorem dX12_digest_30 : decode cX12_digest 30 = .ok (.iload 4, 2) := by decide +kernel
theorem dX12_digest_32 : decode cX12_digest 32 = .ok (.aload_n 0, 1) := by decide +kernel
theorem dX12_digest_33 : decode cX12_digest 33 = .ok (.getfield 272, 3) := by decide +kernel
theorem dX12_digest_36 : decode cX12_digest 36 = .ok (.iconst 0, 1) := by decide +kernel
theorem dX12_digest_37 : decode cX12_digest 37 = .ok (.iaload, 1) := by decide +kernel
theorem dX12_digest_38 : decode cX12_digest 38 = .ok (.if_icmp .ge 27, 3) := by decide +kernel
theorem dX12_digest_41 : decode cX12_digest 41 = .ok (.sipush 257, 3) := by decide +kernel
theorem dX12_digest_44 : decode cX12_digest 44 = .ok (.iload_n 3, 1) := by decide +kernel
theorem dX12_digest_45 : decode cX12_digest 45 = .ok (.imul, 1) := by decide +kernel
theorem dX12_digest_46 : decode cX12_digest 46 = .ok (.aload_n 0, 1) := by decide +kernel
theorem dX12_digest_47 : decode cX12_digest 47 = .ok (.getfield 269, 3) := by decide +kernel
theorem dX12_digest_50 : decode cX12_digest 50 = .ok (.iload 4, 2) := by decide +kernel
theorem dX12_digest_52 : decode cX12_digest 52 = .ok (.iaload, 1) := by decide +kernel
theorem dX12_digest_53 : decode cX12_digest 53 = .ok (.iadd, 1) := by decide +kernel
theorem dX12_digest_54 : decode cX12_digest 54 = .ok (.ldc_w 597, 3) := by decide +kernel
theorem dX12_digest_57 : decode cX12_digest 57 = .ok (.irem, 1) := by decide +kernel
theorem dX12_digest_58 : decode cX12_digest 58 = .ok (.istore_n 3, 1) := by decide +kernel
theorem dX12_digest_59 : decode cX12_digest 59 = .ok (.iinc 4 1, 3) := by decide +kernel
theorem dX12_digest_62 : decode cX12_digest 62 = .ok (.goto (-32), 3) := by decide +kernel
theorem dX12_digest_65 : decode cX12_digest 65 = .ok (.iload_n 3, 1) := by decide +kernel
theorem dX12_digest_66 : decode cX12_digest 66 = .ok (.ireturn, 1) := by decide +kernel
theorem dX12_take_0 : decode cX12_take 0 = .ok (.aload_n 0, 1) := by decide +kernel
theorem dX12_take_1 : decode cX12_take 1 = .ok (.aload_n 0, 1) := by decide +kernel
theorem dX12_take_2 : decode cX12_take 2 = .ok (.iload_n 1, 1) := by decide +kernel
theorem dX12_take_3 : decode cX12_take 3 = .ok (.iload_n 2, 1) := by decide +kernel
theorem dX12_take_4 : decode cX12_take 4 = .ok (.invokevirtual 580, 3) := by decide +kernel
theorem dX12_take_7 : decode cX12_take 7 = .ok (.iconst 1, 1) := by decide +kernel
theorem dX12_take_8 : decode cX12_take 8 = .ok (.invokevirtual 456, 3) := by decide +kernel
theorem dX12_take_11 : decode cX12_take 11 = .ok (.ifCond .ne 25, 3) := by decide +kernel
theorem dX12_take_14 : decode cX12_take 14 = .ok (.aload_n 0, 1) := by decide +kernel
theorem dX12_take_15 : decode cX12_take 15 = .ok (.aload_n 0, 1) := by decide +kernel
theorem dX12_take_16 : decode cX12_take 16 = .ok (.getfield 15, 3) := by decide +kernel
theorem dX12_take_19 : decode cX12_take 19 = .ok (.bipush 40, 2) := by decide +kernel
theorem dX12_take_21 : decode cX12_take 21 = .ok (.if_icmp .ge 7, 3) := by decide +kernel
theorem dX12_take_24 : decode cX12_take 24 = .ok (.iconst 1, 1) := by decide +kernel
theorem dX12_take_25 : decode cX12_take 25 = .ok (.goto 4, 3) := by decide +kernel
theorem dX12_take_28 : decode cX12_take 28 = .ok (.iconst 0, 1) := by decide +kernel
theorem dX12_take_29 : decode cX12_take 29 = .ok (.iconst 2, 1) := by decide +kernel
theorem dX12_take_30 : decode cX12_take 30 = .ok (.invokevirtual 456, 3) := by decide +kernel
theorem dX12_take_33 : decode cX12_take 33 = .ok (.ifCond .eq 5, 3) := by decide +kernel
theorem dX12_take_36 : decode cX12_take 36 = .ok (.iconst 0, 1) := by decide +kernel
theorem dX12_take_37 : decode cX12_take 37 = .ok (.ireturn, 1) := by decide +kernel
theorem dX12_take_38 : decode cX12_take 38 = .ok (.aload_n 0, 1) := by decide +kernel
theorem dX12_take_39 : decode cX12_take 39 = .ok (.iload_n 1, 1) := by decide +kernel
theorem dX12_take_40 : decode cX12_take 40 = .ok (.iload_n 2, 1) := by decide +kernel
theorem dX12_take_41 : decode cX12_take 41 = .ok (.bipush 40, 2) := by decide +kernel
theorem dX12_take_43 : decode cX12_take 43 = .ok (.iconst 0, 1) := by decide +kernel
theorem dX12_take_44 : decode cX12_take 44 = .ok (.invokevirtual 529, 3) := by decide +kernel
theorem dX12_take_47 : decode cX12_take 47 = .ok (.aload_n 0, 1) := by decide +kernel
theorem dX12_take_48 : decode cX12_take 48 = .ok (.bipush 40, 2) := by decide +kernel
theorem dX12_take_50 : decode cX12_take 50 = .ok (.invokevirtual 55, 3) := by decide +kernel
theorem dX12_take_53 : decode cX12_take 53 = .ok (.aload_n 0, 1) := by decide +kernel
theorem dX12_take_54 : decode cX12_take 54 = .ok (.bipush 40, 2) := by decide +kernel
theorem dX12_take_56 : decode cX12_take 56 = .ok (.invokevirtual 536, 3) := by decide +kernel
theorem dX12_take_59 : decode cX12_take 59 = .ok (.ireturn, 1) := by decide +kernel
theorem dX12_sorted_0 : decode cX12_sorted 0 = .ok (.aload_n 0, 1) := by decide +kernel
theorem dX12_sorted_1 : decode cX12_sorted 1 = .ok (.aload_n 0, 1) := by decide +kernel
theorem dX12_sorted_2 : decode cX12_sorted 2 = .ok (.iload_n 1, 1) := by decide +kernel
theorem dX12_sorted_3 : decode cX12_sorted 3 = .ok (.invokevirtual 22, 3) := by decide +kernel
theorem dX12_sorted_6 : decode cX12_sorted 6 = .ok (.iconst 1, 1) := by decide +kernel
theorem dX12_sorted_7 : decode cX12_sorted 7 = .ok (.invokevirtual 456, 3) := by decide +kernel
theorem dX12_sorted_10 : decode cX12_sorted 10 = .ok (.ifCond .ne 25, 3) := by decide +kernel
theorem dX12_sorted_13 : decode cX12_sorted 13 = .ok (.aload_n 0, 1) := by decide +kernel
theorem dX12_sorted_14 : decode cX12_sorted 14 = .ok (.aload_n 0, 1) := by decide +kernel
theorem dX12_sorted_15 : decode cX12_sorted 15 = .ok (.getfield 15, 3) := by decide +kernel
theorem dX12_sorted_18 : decode cX12_sorted 18 = .ok (.bipush 40, 2) := by decide +kernel
theorem dX12_sorted_20 : decode cX12_sorted 20 = .ok (.if_icmp .ge 7, 3) := by decide +kernel
theorem dX12_sorted_23 : decode cX12_sorted 23 = .ok (.iconst 1, 1) := by decide +kernel
theorem dX12_sorted_24 : decode cX12_sorted 24 = .ok (.goto 4, 3) := by decide +kernel
theorem dX12_sorted_27 : decode cX12_sorted 27 = .ok (.iconst 0, 1) := by decide +kernel
theorem dX12_sorted_28 : decode cX12_sorted 28 = .ok (.iconst 2, 1) := by decide +kernel
theorem dX12_sorted_29 : decode cX12_sorted 29 = .ok (.invokevirtual 456, 3) := by decide +kernel
theorem dX12_sorted_32 : decode cX12_sorted 32 = .ok (.ifCond .eq 5, 3) := by decide +kernel
theorem dX12_sorted_35 : decode cX12_sorted 35 = .ok (.iconst 0, 1) := by decide +kernel
theorem dX12_sorted_36 : decode cX12_sorted 36 = .ok (.ireturn, 1) := by decide +kernel
theorem dX12_sorted_37 : decode cX12_sorted 37 = .ok (.aload_n 0, 1) := by decide +kernel
theorem dX12_sorted_38 : decode cX12_sorted 38 = .ok (.iload_n 1, 1) := by decide +kernel
theorem dX12_sorted_39 : decode cX12_sorted 39 = .ok (.iconst 0, 1) := by decide +kernel
theorem dX12_sorted_40 : decode cX12_sorted 40 = .ok (.bipush 40, 2) := by decide +kernel
theorem dX12_sorted_42 : decode cX12_sorted 42 = .ok (.iconst 1, 1) := by decide +kernel
theorem dX12_sorted_43 : decode cX12_sorted 43 = .ok (.invokevirtual 529, 3) := by decide +kernel
theorem dX12_sorted_46 : decode cX12_sorted 46 = .ok (.aload_n 0, 1) := by decide +kernel
theorem dX12_sorted_47 : decode cX12_sorted 47 = .ok (.bipush 40, 2) := by decide +kernel
theorem dX12_sorted_49 : decode cX12_sorted 49 = .ok (.invokevirtual 55, 3) := by decide +kernel
theorem dX12_sorted_52 : decode cX12_sorted 52 = .ok (.aload_n 0, 1) := by decide +kernel
theorem dX12_sorted_53 : decode cX12_sorted 53 = .ok (.bipush 40, 2) := by decide +kernel
theorem dX12_sorted_55 : decode cX12_sorted 55 = .ok (.invokevirtual 536, 3) := by decide +kernel
theorem dX12_sorted_58 : decode cX12_sorted 58 = .ok (.ireturn, 1) := by decide +kernel
theorem dX12_both_0 : decode cX12_both 0 = .ok (.aload_n 0, 1) := by decide +kernel
theorem dX12_both_1 : decode cX12_both 1 = .ok (.aload_n 0, 1) := by decide +kernel
theorem dX12_both_2 : decode cX12_both 2 = .ok (.iload_n 1, 1) := by decide +kernel
theorem dX12_both_3 : decode cX12_both 3 = .ok (.invokevirtual 22, 3) := by decide +kernel
theorem dX12_both_6 : decode cX12_both 6 = .ok (.ifCond .eq 15, 3) := by decide +kernel
theorem dX12_both_9 : decode cX12_both 9 = .ok (.aload_n 0, 1) := by decide +kernel
theorem dX12_both_10 : decode cX12_both 10 = .ok (.iload_n 2, 1) := by decide +kernel
theorem dX12_both_11 : decode cX12_both 11 = .ok (.invokevirtual 22, 3) := by decide +kernel
theorem dX12_both_14 : decode cX12_both 14 = .ok (.ifCond .eq 7, 3) := by decide +kernel
theorem dX12_both_17 : decode cX12_both 17 = .ok (.iconst 1, 1) := by decide +kernel
theorem dX12_both_18 : decode cX12_both 18 = .ok (.goto 4, 3) := by decide +kernel
theorem dX12_both_21 : decode cX12_both 21 = .ok (.iconst 0, 1) := by decide +kernel
theorem dX12_both_22 : decode cX12_both 22 = .ok (.iconst 1, 1) := by decide +kernel
theorem dX12_both_23 : decode cX12_both 23 = .ok (.invokevirtual 456, 3) := by decide +kernel
theorem dX12_both_26 : decode cX12_both 26 = .ok (.ifCond .eq 5, 3) := by decide +kernel
theorem dX12_both_29 : decode cX12_both 29 = .ok (.iconst 0, 1) := by decide +kernel
theorem dX12_both_30 : decode cX12_both 30 = .ok (.ireturn, 1) := by decide +kernel
theorem dX12_both_31 : decode cX12_both 31 = .ok (.aload_n 0, 1) := by decide +kernel
theorem dX12_both_32 : decode cX12_both 32 = .ok (.bipush 40, 2) := by decide +kernel
theorem dX12_both_34 : decode cX12_both 34 = .ok (.invokevirtual 517, 3) := by decide +kernel
theorem dX12_both_37 : decode cX12_both 37 = .ok (.aload_n 0, 1) := by decide +kernel
theorem dX12_both_38 : decode cX12_both 38 = .ok (.bipush 40, 2) := by decide +kernel
theorem dX12_both_40 : decode cX12_both 40 = .ok (.iconst 4, 1) := by decide +kernel
theorem dX12_both_41 : decode cX12_both 41 = .ok (.invokevirtual 33, 3) := by decide +kernel
theorem dX12_both_44 : decode cX12_both 44 = .ok (.istore_n 3, 1) := by decide +kernel
theorem dX12_both_45 : decode cX12_both 45 = .ok (.aload_n 0, 1) := by decide +kernel
theorem dX12_both_46 : decode cX12_both 46 = .ok (.getfield 7, 3) := by decide +kernel
theorem dX12_both_49 : decode cX12_both 49 = .ok (.bipush 40, 2) := by decide +kernel
theorem dX12_both_51 : decode cX12_both 51 = .ok (.iload_n 3, 1) := by decide +kernel
theorem dX12_both_52 : decode cX12_both 52 = .ok (.invokestatic 11, 3) := by decide +kernel
theorem dX12_both_55 : decode cX12_both 55 = .ok (.iconst 3, 1) := by decide +kernel
theorem dX12_both_56 : decode cX12_both 56 = .ok (.iadd, 1) := by decide +kernel
theorem dX12_both_57 : decode cX12_both 57 = .ok (.iconst 2, 1) := by decide +kernel
theorem dX12_both_58 : decode cX12_both 58 = .ok (.iastore, 1) := by decide +kernel
theorem dX12_both_59 : decode cX12_both 59 = .ok (.aload_n 0, 1) := by decide +kernel
theorem dX12_both_60 : decode cX12_both 60 = .ok (.bipush 40, 2) := by decide +kernel
theorem dX12_both_62 : decode cX12_both 62 = .ok (.iload_n 1, 1) := by decide +kernel
theorem dX12_both_63 : decode cX12_both 63 = .ok (.iconst 0, 1) := by decide +kernel
theorem dX12_both_64 : decode cX12_both 64 = .ok (.aload_n 0, 1) := by decide +kernel
theorem dX12_both_65 : decode cX12_both 65 = .ok (.getfield 26, 3) := by decide +kernel
theorem dX12_both_68 : decode cX12_both 68 = .ok (.iload_n 1, 1) := by decide +kernel
theorem dX12_both_69 : decode cX12_both 69 = .ok (.iaload, 1) := by decide +kernel
theorem dX12_both_70 : decode cX12_both 70 = .ok (.invokevirtual 598, 3) := by decide +kernel
theorem dX12_both_73 : decode cX12_both 73 = .ok (.aload_n 0, 1) := by decide +kernel
theorem dX12_both_74 : decode cX12_both 74 = .ok (.bipush 40, 2) := by decide +kernel
theorem dX12_both_76 : decode cX12_both 76 = .ok (.iload_n 2, 1) := by decide +kernel
theorem dX12_both_77 : decode cX12_both 77 = .ok (.iconst 0, 1) := by decide +kernel
theorem dX12_both_78 : decode cX12_both 78 = .ok (.aload_n 0, 1) := by decide +kernel
theorem dX12_both_79 : decode cX12_both 79 = .ok (.getfield 26, 3) := by decide +kernel
theorem dX12_both_82 : decode cX12_both 82 = .ok (.iload_n 2, 1) := by decide +kernel
theorem dX12_both_83 : decode cX12_both 83 = .ok (.iaload, 1) := by decide +kernel
theorem dX12_both_84 : decode cX12_both 84 = .ok (.invokevirtual 598, 3) := by decide +kernel
theorem dX12_both_87 : decode cX12_both 87 = .ok (.aload_n 0, 1) := by decide +kernel
theorem dX12_both_88 : decode cX12_both 88 = .ok (.aload_n 0, 1) := by decide +kernel
theorem dX12_both_89 : decode cX12_both 89 = .ok (.bipush 40, 2) := by decide +kernel
theorem dX12_both_91 : decode cX12_both 91 = .ok (.invokevirtual 601, 3) := by decide +kernel
theorem dX12_both_94 : decode cX12_both 94 = .ok (.ifCond .eq 16, 3) := by decide +kernel
theorem dX12_both_97 : decode cX12_both 97 = .ok (.aload_n 0, 1) := by decide +kernel
theorem dX12_both_98 : decode cX12_both 98 = .ok (.getfield 15, 3) := by decide +kernel
theorem dX12_both_101 : decode cX12_both 101 = .ok (.bipush 40, 2) := by decide +kernel
theorem dX12_both_103 : decode cX12_both 103 = .ok (.if_icmp .ge 7, 3) := by decide +kernel
theorem dX12_both_106 : decode cX12_both 106 = .ok (.iconst 1, 1) := by decide +kernel
theorem dX12_both_107 : decode cX12_both 107 = .ok (.goto 4, 3) := by decide +kernel
theorem dX12_both_110 : decode cX12_both 110 = .ok (.iconst 0, 1) := by decide +kernel
theorem dX12_both_111 : decode cX12_both 111 = .ok (.iconst 2, 1) := by decide +kernel
theorem dX12_both_112 : decode cX12_both 112 = .ok (.invokevirtual 456, 3) := by decide +kernel
theorem dX12_both_115 : decode cX12_both 115 = .ok (.ifCond .eq 7, 3) := by decide +kernel
theorem dX12_both_118 : decode cX12_both 118 = .ok (.iconst 0, 1) := by decide +kernel
theorem dX12_both_119 : decode cX12_both 119 = .ok (.goto 9, 3) := by decide +kernel
theorem dX12_both_122 : decode cX12_both 122 = .ok (.aload_n 0, 1) := by decide +kernel
theorem dX12_both_123 : decode cX12_both 123 = .ok (.bipush 40, 2) := by decide +kernel
theorem dX12_both_125 : decode cX12_both 125 = .ok (.invokevirtual 536, 3) := by decide +kernel
theorem dX12_both_128 : decode cX12_both 128 = .ok (.ireturn, 1) := by decide +kernel
theorem dX12_undo_0 : decode cX12_undo 0 = .ok (.aload_n 0, 1) := by decide +kernel
theorem dX12_undo_1 : decode cX12_undo 1 = .ok (.aload_n 0, 1) := by decide +kernel
theorem dX12_undo_2 : decode cX12_undo 2 = .ok (.getfield 15, 3) := by decide +kernel
theorem dX12_undo_5 : decode cX12_undo 5 = .ok (.ifCond .le 7, 3) := by decide +kernel
theorem dX12_undo_8 : decode cX12_undo 8 = .ok (.iconst 1, 1) := by decide +kernel
theorem dX12_undo_9 : decode cX12_undo 9 = .ok (.goto 4, 3) := by decide +kernel
theorem dX12_undo_12 : decode cX12_undo 12 = .ok (.iconst 0, 1) := by decide +kernel
theorem dX12_undo_13 : decode cX12_undo 13 = .ok (.iconst 1, 1) := by decide +kernel
theorem dX12_undo_14 : decode cX12_undo 14 = .ok (.invokevirtual 456, 3) := by decide +kernel
theorem dX12_undo_17 : decode cX12_undo 17 = .ok (.ifCond .eq 5, 3) := by decide +kernel
theorem dX12_undo_20 : decode cX12_undo 20 = .ok (.iconst 0, 1) := by decide +kernel
theorem dX12_undo_21 : decode cX12_undo 21 = .ok (.ireturn, 1) := by decide +kernel
theorem dX12_undo_22 : decode cX12_undo 22 = .ok (.aload_n 0, 1) := by decide +kernel
theorem dX12_undo_23 : decode cX12_undo 23 = .ok (.dup, 1) := by decide +kernel
theorem dX12_undo_24 : decode cX12_undo 24 = .ok (.getfield 15, 3) := by decide +kernel
theorem dX12_undo_27 : decode cX12_undo 27 = .ok (.iconst 1, 1) := by decide +kernel
theorem dX12_undo_28 : decode cX12_undo 28 = .ok (.isub, 1) := by decide +kernel
theorem dX12_undo_29 : decode cX12_undo 29 = .ok (.putfield 15, 3) := by decide +kernel
theorem dX12_undo_32 : decode cX12_undo 32 = .ok (.aload_n 0, 1) := by decide +kernel
theorem dX12_undo_33 : decode cX12_undo 33 = .ok (.getfield 15, 3) := by decide +kernel
theorem dX12_undo_36 : decode cX12_undo 36 = .ok (.ireturn, 1) := by decide +kernel
theorem dX12_pathOfPage_0 : decode cX12_pathOfPage 0 = .ok (.aload_n 0, 1) := by decide +kernel
theorem dX12_pathOfPage_1 : decode cX12_pathOfPage 1 = .ok (.aload_n 0, 1) := by decide +kernel
theorem dX12_pathOfPage_2 : decode cX12_pathOfPage 2 = .ok (.getfield 460, 3) := by decide +kernel
theorem dX12_pathOfPage_5 : decode cX12_pathOfPage 5 = .ok (.putfield 604, 3) := by decide +kernel
theorem dX12_pathOfPage_8 : decode cX12_pathOfPage 8 = .ok (.iconst 0, 1) := by decide +kernel
theorem dX12_pathOfPage_9 : decode cX12_pathOfPage 9 = .ok (.istore_n 1, 1) := by decide +kernel
theorem dX12_pathOfPage_10 : decode cX12_pathOfPage 10 = .ok (.iload_n 1, 1) := by decide +kernel
theorem dX12_pathOfPage_11 : decode cX12_pathOfPage 11 = .ok (.aload_n 0, 1) := by decide +kernel
theorem dX12_pathOfPage_12 : decode cX12_pathOfPage 12 = .ok (.getfield 460, 3) := by decide +kernel
theorem dX12_pathOfPage_15 : decode cX12_pathOfPage 15 = .ok (.if_icmp .ge 21, 3) := by decide +kernel
theorem dX12_pathOfPage_18 : decode cX12_pathOfPage 18 = .ok (.aload_n 0, 1) := by decide +kernel
theorem dX12_pathOfPage_19 : decode cX12_pathOfPage 19 = .ok (.getfield 275, 3) := by decide +kernel
theorem dX12_pathOfPage_22 : decode cX12_pathOfPage 22 = .ok (.iload_n 1, 1) := by decide +kernel
theorem dX12_pathOfPage_23 : decode cX12_pathOfPage 23 = .ok (.aload_n 0, 1) := by decide +kernel
theorem dX12_pathOfPage_24 : decode cX12_pathOfPage 24 = .ok (.getfield 88, 3) := by decide +kernel
theorem dX12_pathOfPage_27 : decode cX12_pathOfPage 27 = .ok (.iload_n 1, 1) := by decide +kernel
theorem dX12_pathOfPage_28 : decode cX12_pathOfPage 28 = .ok (.iaload, 1) := by decide +kernel
theorem dX12_pathOfPage_29 : decode cX12_pathOfPage 29 = .ok (.iastore, 1) := by decide +kernel
theorem dX12_pathOfPage_30 : decode cX12_pathOfPage 30 = .ok (.iinc 1 1, 3) := by decide +kernel
theorem dX12_pathOfPage_33 : decode cX12_pathOfPage 33 = .ok (.goto (-23), 3) := by decide +kernel
theorem dX12_pathOfPage_36 : decode cX12_pathOfPage 36 = .ok (.return_, 1) := by decide +kernel
theorem dX12_pathOf_0 : decode cX12_pathOf 0 = .ok (.aload_n 0, 1) := by decide +kernel
theorem dX12_pathOf_1 : decode cX12_pathOf 1 = .ok (.aload_n 0, 1) := by decide +kernel
theorem dX12_pathOf_2 : decode cX12_pathOf 2 = .ok (.iload_n 1, 1) := by decide +kernel
theorem dX12_pathOf_3 : decode cX12_pathOf 3 = .ok (.iload_n 2, 1) := by decide +kernel
theorem dX12_pathOf_4 : decode cX12_pathOf 4 = .ok (.bipush 18, 2) := by decide +kernel
theorem dX12_pathOf_6 : decode cX12_pathOf 6 = .ok (.invokevirtual 36, 3) := by decide +kernel
theorem dX12_pathOf_9 : decode cX12_pathOf 9 = .ok (.putfield 604, 3) := by decide +kernel
theorem dX12_pathOf_12 : decode cX12_pathOf 12 = .ok (.iconst 0, 1) := by decide +kernel
theorem dX12_pathOf_13 : decode cX12_pathOf 13 = .ok (.istore_n 3, 1) := by decide +kernel
theorem dX12_pathOf_14 : decode cX12_pathOf 14 = .ok (.iload_n 3, 1) := by decide +kernel
theorem dX12_pathOf_15 : decode cX12_pathOf 15 = .ok (.aload_n 0, 1) := by decide +kernel
theorem dX12_pathOf_16 : decode cX12_pathOf 16 = .ok (.getfield 604, 3) := by decide +kernel
theorem dX12_pathOf_19 : decode cX12_pathOf 19 = .ok (.if_icmp .ge 25, 3) := by decide +kernel
theorem dX12_pathOf_22 : decode cX12_pathOf 22 = .ok (.aload_n 0, 1) := by decide +kernel
theorem dX12_pathOf_23 : decode cX12_pathOf 23 = .ok (.getfield 275, 3) := by decide +kernel
theorem dX12_pathOf_26 : decode cX12_pathOf 26 = .ok (.iload_n 3, 1) := by decide +kernel
theorem dX12_pathOf_27 : decode cX12_pathOf 27 = .ok (.aload_n 0, 1) := by decide +kernel
theorem dX12_pathOf_28 : decode cX12_pathOf 28 = .ok (.iload_n 1, 1) := by decide +kernel
theorem dX12_pathOf_29 : decode cX12_pathOf 29 = .ok (.iload_n 2, 1) := by decide +kernel
theorem dX12_pathOf_30 : decode cX12_pathOf 30 = .ok (.bipush 21, 2) := by decide +kernel
theorem dX12_pathOf_32 : decode cX12_pathOf 32 = .ok (.iload_n 3, 1) := by decide +kernel
theorem dX12_pathOf_33 : decode cX12_pathOf 33 = .ok (.iadd, 1) := by decide +kernel
theorem dX12_pathOf_34 : decode cX12_pathOf 34 = .ok (.invokevirtual 36, 3) := by decide +kernel
theorem dX12_pathOf_37 : decode cX12_pathOf 37 = .ok (.iastore, 1) := by decide +kernel
theorem dX12_pathOf_38 : decode cX12_pathOf 38 = .ok (.iinc 3 1, 3) := by decide +kernel
theorem dX12_pathOf_41 : decode cX12_pathOf 41 = .ok (.goto (-27), 3) := by decide +kernel
theorem dX12_pathOf_44 : decode cX12_pathOf 44 = .ok (.return_, 1) := by decide +kernel
theorem dX12_isPath_0 : decode cX12_isPath 0 = .ok (.aload_n 0, 1) := by decide +kernel
theorem dX12_isPath_1 : decode cX12_isPath 1 = .ok (.getfield 604, 3) := by decide +kernel
theorem dX12_isPath_4 : decode cX12_isPath 4 = .ok (.ifCond .eq 14, 3) := by decide +kernel
theorem dX12_isPath_7 : decode cX12_isPath 7 = .ok (.aload_n 0, 1) := by decide +kernel
theorem dX12_isPath_8 : decode cX12_isPath 8 = .ok (.getfield 275, 3) := by decide +kernel
theorem dX12_isPath_11 : decode cX12_isPath 11 = .ok (.iconst 0, 1) := by decide +kernel
theorem dX12_isPath_12 : decode cX12_isPath 12 = .ok (.iaload, 1) := by decide +kernel
theorem dX12_isPath_13 : decode cX12_isPath 13 = .ok (.bipush 47, 2) := by decide +kernel
theorem dX12_isPath_15 : decode cX12_isPath 15 = .ok (.if_icmp .ne 7, 3) := by decide +kernel
theorem dX12_isPath_18 : decode cX12_isPath 18 = .ok (.iconst 1, 1) := by decide +kernel
theorem dX12_isPath_19 : decode cX12_isPath 19 = .ok (.goto 4, 3) := by decide +kernel
theorem dX12_isPath_22 : decode cX12_isPath 22 = .ok (.iconst 0, 1) := by decide +kernel
theorem dX12_isPath_23 : decode cX12_isPath 23 = .ok (.istore_n 1, 1) := by decide +kernel
theorem dX12_isPath_24 : decode cX12_isPath 24 = .ok (.iconst 0, 1) := by decide +kernel
theorem dX12_isPath_25 : decode cX12_isPath 25 = .ok (.istore_n 2, 1) := by decide +kernel
theorem dX12_isPath_26 : decode cX12_isPath 26 = .ok (.iload_n 2, 1) := by decide +kernel
theorem dX12_isPath_27 : decode cX12_isPath 27 = .ok (.aload_n 0, 1) := by decide +kernel
theorem dX12_isPath_28 : decode cX12_isPath 28 = .ok (.getfield 604, 3) := by decide +kernel
theorem dX12_isPath_31 : decode cX12_isPath 31 = .ok (.if_icmp .ge 66, 3) := by decide +kernel
theorem dX12_isPath_34 : decode cX12_isPath 34 = .ok (.iload_n 1, 1) := by decide +kernel
theorem dX12_isPath_35 : decode cX12_isPath 35 = .ok (.ifCond .eq 54, 3) := by decide +kernel
theorem dX12_isPath_38 : decode cX12_isPath 38 = .ok (.aload_n 0, 1) := by decide +kernel
theorem dX12_isPath_39 : decode cX12_isPath 39 = .ok (.getfield 275, 3) := by decide +kernel
theorem dX12_isPath_42 : decode cX12_isPath 42 = .ok (.iload_n 2, 1) := by decide +kernel
theorem dX12_isPath_43 : decode cX12_isPath 43 = .ok (.iaload, 1) := by decide +kernel
theorem dX12_isPath_44 : decode cX12_isPath 44 = .ok (.bipush 126, 2) := by decide +kernel
theorem dX12_isPath_46 : decode cX12_isPath 46 = .ok (.if_icmp .ne 39, 3) := by decide +kernel
theorem dX12_isPath_49 : decode cX12_isPath 49 = .ok (.iload_n 2, 1) := by decide +kernel
theorem dX12_isPath_50 : decode cX12_isPath 50 = .ok (.iconst 1, 1) := by decide +kernel
theorem dX12_isPath_51 : decode cX12_isPath 51 = .ok (.iadd, 1) := by decide +kernel
theorem dX12_isPath_52 : decode cX12_isPath 52 = .ok (.aload_n 0, 1) := by decide +kernel
theorem dX12_isPath_53 : decode cX12_isPath 53 = .ok (.getfield 604, 3) := by decide +kernel
theorem dX12_isPath_56 : decode cX12_isPath 56 = .ok (.if_icmp .ge 33, 3) := by decide +kernel
theorem dX12_isPath_59 : decode cX12_isPath 59 = .ok (.aload_n 0, 1) := by decide +kernel
theorem dX12_isPath_60 : decode cX12_isPath 60 = .ok (.getfield 275, 3) := by decide +kernel
theorem dX12_isPath_63 : decode cX12_isPath 63 = .ok (.iload_n 2, 1) := by decide +kernel
theorem dX12_isPath_64 : decode cX12_isPath 64 = .ok (.iconst 1, 1) := by decide +kernel
theorem dX12_isPath_65 : decode cX12_isPath 65 = .ok (.iadd, 1) := by decide +kernel
theorem dX12_isPath_66 : decode cX12_isPath 66 = .ok (.iaload, 1) := by decide +kernel
theorem dX12_isPath_67 : decode cX12_isPath 67 = .ok (.bipush 48, 2) := by decide +kernel
theorem dX12_isPath_69 : decode cX12_isPath 69 = .ok (.if_icmp .eq 16, 3) := by decide +kernel
theorem dX12_isPath_72 : decode cX12_isPath 72 = .ok (.aload_n 0, 1) := by decide +kernel
theorem dX12_isPath_73 : decode cX12_isPath 73 = .ok (.getfield 275, 3) := by decide +kernel
theorem dX12_isPath_76 : decode cX12_isPath 76 = .ok (.iload_n 2, 1) := by decide +kernel
theorem dX12_isPath_77 : decode cX12_isPath 77 = .ok (.iconst 1, 1) := by decide +kernel
theorem dX12_isPath_78 : decode cX12_isPath 78 = .ok (.iadd, 1) := by decide +kernel
theorem dX12_isPath_79 : decode cX12_isPath 79 = .ok (.iaload, 1) := by decide +kernel
theorem dX12_isPath_80 : decode cX12_isPath 80 = .ok (.bipush 49, 2) := by decide +kernel
theorem dX12_isPath_82 : decode cX12_isPath 82 = .ok (.if_icmp .ne 7, 3) := by decide +kernel
theorem dX12_isPath_85 : decode cX12_isPath 85 = .ok (.iconst 1, 1) := by decide +kernel
theorem dX12_isPath_86 : decode cX12_isPath 86 = .ok (.goto 4, 3) := by decide +kernel
theorem dX12_isPath_89 : decode cX12_isPath 89 = .ok (.iconst 0, 1) := by decide +kernel
theorem dX12_isPath_90 : decode cX12_isPath 90 = .ok (.istore_n 1, 1) := by decide +kernel
theorem dX12_isPath_91 : decode cX12_isPath 91 = .ok (.iinc 2 1, 3) := by decide +kernel
theorem dX12_isPath_94 : decode cX12_isPath 94 = .ok (.goto (-68), 3) := by decide +kernel
theorem dX12_isPath_97 : decode cX12_isPath 97 = .ok (.iload_n 1, 1) := by decide +kernel
theorem dX12_isPath_98 : decode cX12_isPath 98 = .ok (.ireturn, 1) := by decide +kernel
theorem dX12_step_0 : decode cX12_step 0 = .ok (.aload_n 0, 1) := by decide +kernel
theorem dX12_step_1 : decode cX12_step 1 = .ok (.iload_n 1, 1) := by decide +kernel
theorem dX12_step_2 : decode cX12_step 2 = .ok (.iconst 1, 1) := by decide +kernel
theorem dX12_step_3 : decode cX12_step 3 = .ok (.iadd, 1) := by decide +kernel
theorem dX12_step_4 : decode cX12_step 4 = .ok (.putfield 607, 3) := by decide +kernel
theorem dX12_step_7 : decode cX12_step 7 = .ok (.aload_n 0, 1) := by decide +kernel
theorem dX12_step_8 : decode cX12_step 8 = .ok (.aload_n 0, 1) := by decide +kernel
theorem dX12_step_9 : decode cX12_step 9 = .ok (.getfield 607, 3) := by decide +kernel
theorem dX12_step_12 : decode cX12_step 12 = .ok (.putfield 610, 3) := by decide +kernel
theorem dX12_step_15 : decode cX12_step 15 = .ok (.aload_n 0, 1) := by decide +kernel
theorem dX12_step_16 : decode cX12_step 16 = .ok (.getfield 610, 3) := by decide +kernel
theorem dX12_step_19 : decode cX12_step 19 = .ok (.aload_n 0, 1) := by decide +kernel
theorem dX12_step_20 : decode cX12_step 20 = .ok (.getfield 604, 3) := by decide +kernel
theorem dX12_step_23 : decode cX12_step 23 = .ok (.if_icmp .ge 30, 3) := by decide +kernel
theorem dX12_step_26 : decode cX12_step 26 = .ok (.aload_n 0, 1) := by decide +kernel
theorem dX12_step_27 : decode cX12_step 27 = .ok (.getfield 275, 3) := by decide +kernel
theorem dX12_step_30 : decode cX12_step 30 = .ok (.aload_n 0, 1) := by decide +kernel
theorem dX12_step_31 : decode cX12_step 31 = .ok (.getfield 610, 3) := by decide +kernel
theorem dX12_step_34 : decode cX12_step 34 = .ok (.iaload, 1) := by decide +kernel
theorem dX12_step_35 : decode cX12_step 35 = .ok (.bipush 47, 2) := by decide +kernel
theorem dX12_step_37 : decode cX12_step 37 = .ok (.if_icmp .eq 16, 3) := by decide +kernel
theorem dX12_step_40 : decode cX12_step 40 = .ok (.aload_n 0, 1) := by decide +kernel
theorem dX12_step_41 : decode cX12_step 41 = .ok (.dup, 1) := by decide +kernel
theorem dX12_step_42 : decode cX12_step 42 = .ok (.getfield 610, 3) := by decide +kernel
theorem dX12_step_45 : decode cX12_step 45 = .ok (.iconst 1, 1) := by decide +kernel
theorem dX12_step_46 : decode cX12_step 46 = .ok (.iadd, 1) := by decide +kernel
theorem dX12_step_47 : decode cX12_step 47 = .ok (.putfield 610, 3) := by decide +kernel
theorem dX12_step_50 : decode cX12_step 50 = .ok (.goto (-35), 3) := by decide +kernel
theorem dX12_step_53 : decode cX12_step 53 = .ok (.return_, 1) := by decide +kernel
theorem dX12_wordOf_0 : decode cX12_wordOf 0 = .ok (.aload_n 0, 1) := by decide +kernel
theorem dX12_wordOf_1 : decode cX12_wordOf 1 = .ok (.iconst 0, 1) := by decide +kernel
theorem dX12_wordOf_2 : decode cX12_wordOf 2 = .ok (.putfield 66, 3) := by decide +kernel
theorem dX12_wordOf_5 : decode cX12_wordOf 5 = .ok (.iload_n 1, 1) := by decide +kernel
theorem dX12_wordOf_6 : decode cX12_wordOf 6 = .ok (.istore_n 3, 1) := by decide +kernel
theorem dX12_wordOf_7 : decode cX12_wordOf 7 = .ok (.iload_n 3, 1) := by decide +kernel
theorem dX12_wordOf_8 : decode cX12_wordOf 8 = .ok (.iload_n 2, 1) := by decide +kernel
theorem dX12_wordOf_9 : decode cX12_wordOf 9 = .ok (.if_icmp .ge 68, 3) := by decide +kernel
theorem dX12_wordOf_12 : decode cX12_wordOf 12 = .ok (.aload_n 0, 1) := by decide +kernel
theorem dX12_wordOf_13 : decode cX12_wordOf 13 = .ok (.getfield 275, 3) := by decide +kernel
theorem dX12_wordOf_16 : decode cX12_wordOf 16 = .ok (.iload_n 3, 1) := by decide +kernel
theorem dX12_wordOf_17 : decode cX12_wordOf 17 = .ok (.iaload, 1) := by decide +kernel
theorem dX12_wordOf_18 : decode cX12_wordOf 18 = .ok (.istore 4, 2) := by decide +kernel
theorem dX12_wordOf_20 : decode cX12_wordOf 20 = .ok (.iload 4, 2) := by decide +kernel
theorem dX12_wordOf_22 : decode cX12_wordOf 22 = .ok (.bipush 126, 2) := by decide +kernel
theorem dX12_wordOf_24 : decode cX12_wordOf 24 = .ok (.if_icmp .ne 26, 3) := by decide +kernel
theorem dX12_wordOf_27 : decode cX12_wordOf 27 = .ok (.iinc 3 1, 3) := by decide +kernel
theorem dX12_wordOf_30 : decode cX12_wordOf 30 = .ok (.aload_n 0, 1) := by decide +kernel
theorem dX12_wordOf_31 : decode cX12_wordOf 31 = .ok (.getfield 275, 3) := by decide +kernel
theorem dX12_wordOf_34 : decode cX12_wordOf 34 = .ok (.iload_n 3, 1) := by decide +kernel
theorem dX12_wordOf_35 : decode cX12_wordOf 35 = .ok (.iaload, 1) := by decide +kernel
theorem dX12_wordOf_36 : decode cX12_wordOf 36 = .ok (.bipush 48, 2) := by decide +kernel
theorem dX12_wordOf_38 : decode cX12_wordOf 38 = .ok (.if_icmp .ne 8, 3) := by decide +kernel
theorem dX12_wordOf_41 : decode cX12_wordOf 41 = .ok (.bipush 126, 2) := by decide +kernel
theorem dX12_wordOf_43 : decode cX12_wordOf 43 = .ok (.goto 5, 3) := by decide +kernel
theorem dX12_wordOf_46 : decode cX12_wordOf 46 = .ok (.bipush 47, 2) := by decide +kernel
theorem dX12_wordOf_48 : decode cX12_wordOf 48 = .ok (.istore 4, 2) := by decide +kernel
theorem dX12_wordOf_50 : decode cX12_wordOf 50 = .ok (.aload_n 0, 1) := by decide +kernel
theorem dX12_wordOf_51 : decode cX12_wordOf 51 = .ok (.getfield 69, 3) := by decide +kernel
theorem dX12_wordOf_54 : decode cX12_wordOf 54 = .ok (.aload_n 0, 1) := by decide +kernel
theorem dX12_wordOf_55 : decode cX12_wordOf 55 = .ok (.getfield 66, 3) := by decide +kernel
theorem dX12_wordOf_58 : decode cX12_wordOf 58 = .ok (.iload 4, 2) := by decide +kernel
theorem dX12_wordOf_60 : decode cX12_wordOf 60 = .ok (.iastore, 1) := by decide +kernel
theorem dX12_wordOf_61 : decode cX12_wordOf 61 = .ok (.aload_n 0, 1) := by decide +kernel
theorem dX12_wordOf_62 : decode cX12_wordOf 62 = .ok (.dup, 1) := by decide +kernel
theorem dX12_wordOf_63 : decode cX12_wordOf 63 = .ok (.getfield 66, 3) := by decide +kernel
theorem dX12_wordOf_66 : decode cX12_wordOf 66 = .ok (.iconst 1, 1) := by decide +kernel
theorem dX12_wordOf_67 : decode cX12_wordOf 67 = .ok (.iadd, 1) := by decide +kernel
theorem dX12_wordOf_68 : decode cX12_wordOf 68 = .ok (.putfield 66, 3) := by decide +kernel
theorem dX12_wordOf_71 : decode cX12_wordOf 71 = .ok (.iinc 3 1, 3) := by decide +kernel
theorem dX12_wordOf_74 : decode cX12_wordOf 74 = .ok (.goto (-67), 3) := by decide +kernel
theorem dX12_wordOf_77 : decode cX12_wordOf 77 = .ok (.return_, 1) := by decide +kernel
theorem dX12_figured_0 : decode cX12_figured 0 = .ok (.iload_n 1, 1) := by decide +kernel
theorem dX12_figured_1 : decode cX12_figured 1 = .ok (.aload_n 0, 1) := by decide +kernel
theorem dX12_figured_2 : decode cX12_figured 2 = .ok (.getfield 66, 3) := by decide +kernel
theorem dX12_figured_5 : decode cX12_figured 5 = .ok (.if_icmp .ge 24, 3) := by decide +kernel
theorem dX12_figured_8 : decode cX12_figured 8 = .ok (.aload_n 0, 1) := by decide +kernel
theorem dX12_figured_9 : decode cX12_figured 9 = .ok (.getfield 69, 3) := by decide +kernel
theorem dX12_figured_12 : decode cX12_figured 12 = .ok (.iload_n 1, 1) := by decide +kernel
theorem dX12_figured_13 : decode cX12_figured 13 = .ok (.iaload, 1) := by decide +kernel
theorem dX12_figured_14 : decode cX12_figured 14 = .ok (.bipush 48, 2) := by decide +kernel
theorem dX12_figured_16 : decode cX12_figured 16 = .ok (.if_icmp .ne 15, 3) := by decide +kernel
theorem dX12_figured_19 : decode cX12_figured 19 = .ok (.aload_n 0, 1) := by decide +kernel
theorem dX12_figured_20 : decode cX12_figured 20 = .ok (.getfield 66, 3) := by decide +kernel
theorem dX12_figured_23 : decode cX12_figured 23 = .ok (.iload_n 1, 1) := by decide +kernel
theorem dX12_figured_24 : decode cX12_figured 24 = .ok (.iconst 1, 1) := by decide +kernel
theorem dX12_figured_25 : decode cX12_figured 25 = .ok (.iadd, 1) := by decide +kernel
theorem dX12_figured_26 : decode cX12_figured 26 = .ok (.if_icmp .le 5, 3) := by decide +kernel
theorem dX12_figured_29 : decode cX12_figured 29 = .ok (.iconst (-1), 1) := by decide +kernel
theorem dX12_figured_30 : decode cX12_figured 30 = .ok (.ireturn, 1) := by decide +kernel
theorem dX12_figured_31 : decode cX12_figured 31 = .ok (.iconst 0, 1) := by decide +kernel
theorem dX12_figured_32 : decode cX12_figured 32 = .ok (.istore_n 2, 1) := by decide +kernel
theorem dX12_figured_33 : decode cX12_figured 33 = .ok (.iload_n 1, 1) := by decide +kernel
theorem dX12_figured_34 : decode cX12_figured 34 = .ok (.istore_n 3, 1) := by decide +kernel
theorem dX12_figured_35 : decode cX12_figured 35 = .ok (.iload_n 3, 1) := by decide +kernel
theorem dX12_figured_36 : decode cX12_figured 36 = .ok (.aload_n 0, 1) := by decide +kernel
theorem dX12_figured_37 : decode cX12_figured 37 = .ok (.getfield 66, 3) := by decide +kernel
theorem dX12_figured_40 : decode cX12_figured 40 = .ok (.if_icmp .ge 53, 3) := by decide +kernel
theorem dX12_figured_43 : decode cX12_figured 43 = .ok (.aload_n 0, 1) := by decide +kernel
theorem dX12_figured_44 : decode cX12_figured 44 = .ok (.getfield 69, 3) := by decide +kernel
theorem dX12_figured_47 : decode cX12_figured 47 = .ok (.iload_n 3, 1) := by decide +kernel
theorem dX12_figured_48 : decode cX12_figured 48 = .ok (.iaload, 1) := by decide +kernel
theorem dX12_figured_49 : decode cX12_figured 49 = .ok (.bipush 48, 2) := by decide +kernel
theorem dX12_figured_51 : decode cX12_figured 51 = .ok (.bipush 57, 2) := by decide +kernel
theorem dX12_figured_53 : decode cX12_figured 53 = .ok (.invokestatic 18, 3) := by decide +kernel
theorem dX12_figured_56 : decode cX12_figured 56 = .ok (.ifCond .ne 5, 3) := by decide +kernel
theorem dX12_figured_59 : decode cX12_figured 59 = .ok (.iconst (-1), 1) := by decide +kernel
theorem dX12_figured_60 : decode cX12_figured 60 = .ok (.ireturn, 1) := by decide +kernel
theorem dX12_figured_61 : decode cX12_figured 61 = .ok (.iload_n 2, 1) := by decide +kernel
theorem dX12_figured_62 : decode cX12_figured 62 = .ok (.sipush 9999, 3) := by decide +kernel
theorem dX12_figured_65 : decode cX12_figured 65 = .ok (.if_icmp .le 7, 3) := by decide +kernel
theorem dX12_figured_68 : decode cX12_figured 68 = .ok (.iload_n 2, 1) := by decide +kernel
theorem dX12_figured_69 : decode cX12_figured 69 = .ok (.goto 17, 3) := by decide +kernel
theorem dX12_figured_72 : decode cX12_figured 72 = .ok (.bipush 10, 2) := by decide +kernel
theorem dX12_figured_74 : decode cX12_figured 74 = .ok (.iload_n 2, 1) := by decide +kernel
theorem dX12_figured_75 : decode cX12_figured 75 = .ok (.imul, 1) := by decide +kernel
theorem dX12_figured_76 : decode cX12_figured 76 = .ok (.aload_n 0, 1) := by decide +kernel
theorem dX12_figured_77 : decode cX12_figured 77 = .ok (.getfield 69, 3) := by decide +kernel
theorem dX12_figured_80 : decode cX12_figured 80 = .ok (.iload_n 3, 1) := by decide +kernel
theorem dX12_figured_81 : decode cX12_figured 81 = .ok (.iaload, 1) := by decide +kernel
theorem dX12_figured_82 : decode cX12_figured 82 = .ok (.iadd, 1) := by decide +kernel
theorem dX12_figured_83 : decode cX12_figured 83 = .ok (.bipush 48, 2) := by decide +kernel
theorem dX12_figured_85 : decode cX12_figured 85 = .ok (.isub, 1) := by decide +kernel
theorem dX12_figured_86 : decode cX12_figured 86 = .ok (.istore_n 2, 1) := by decide +kernel
theorem dX12_figured_87 : decode cX12_figured 87 = .ok (.iinc 3 1, 3) := by decide +kernel
theorem dX12_figured_90 : decode cX12_figured 90 = .ok (.goto (-55), 3) := by decide +kernel
theorem dX12_figured_93 : decode cX12_figured 93 = .ok (.iload_n 2, 1) := by decide +kernel
theorem dX12_figured_94 : decode cX12_figured 94 = .ok (.ireturn, 1) := by decide +kernel
theorem dX12_stepped_0 : decode cX12_stepped 0 = .ok (.aload_n 0, 1) := by decide +kernel
theorem dX12_stepped_1 : decode cX12_stepped 1 = .ok (.iload_n 1, 1) := by decide +kernel
theorem dX12_stepped_2 : decode cX12_stepped 2 = .ok (.iload_n 2, 1) := by decide +kernel
theorem dX12_stepped_3 : decode cX12_stepped 3 = .ok (.invokevirtual 52, 3) := by decide +kernel
theorem dX12_stepped_6 : decode cX12_stepped 6 = .ok (.iconst 5, 1) := by decide +kernel
theorem dX12_stepped_7 : decode cX12_stepped 7 = .ok (.if_icmp .ne 10, 3) := by decide +kernel
theorem dX12_stepped_10 : decode cX12_stepped 10 = .ok (.aload_n 0, 1) := by decide +kernel
theorem dX12_stepped_11 : decode cX12_stepped 11 = .ok (.iload_n 1, 1) := by decide +kernel
theorem dX12_stepped_12 : decode cX12_stepped 12 = .ok (.iload_n 2, 1) := by decide +kernel
theorem dX12_stepped_13 : decode cX12_stepped 13 = .ok (.invokevirtual 78, 3) := by decide +kernel
theorem dX12_stepped_16 : decode cX12_stepped 16 = .ok (.ireturn, 1) := by decide +kernel
theorem dX12_stepped_17 : decode cX12_stepped 17 = .ok (.aload_n 0, 1) := by decide +kernel
theorem dX12_stepped_18 : decode cX12_stepped 18 = .ok (.iload_n 1, 1) := by decide +kernel
theorem dX12_stepped_19 : decode cX12_stepped 19 = .ok (.iload_n 2, 1) := by decide +kernel
theorem dX12_stepped_20 : decode cX12_stepped 20 = .ok (.invokevirtual 52, 3) := by decide +kernel
theorem dX12_stepped_23 : decode cX12_stepped 23 = .ok (.iconst 4, 1) := by decide +kernel
theorem dX12_stepped_24 : decode cX12_stepped 24 = .ok (.if_icmp .eq 5, 3) := by decide +kernel
theorem dX12_stepped_27 : decode cX12_stepped 27 = .ok (.iconst (-1), 1) := by decide +kernel
theorem dX12_stepped_28 : decode cX12_stepped 28 = .ok (.ireturn, 1) := by decide +kernel
theorem dX12_stepped_29 : decode cX12_stepped 29 = .ok (.aload_n 0, 1) := by decide +kernel
theorem dX12_stepped_30 : decode cX12_stepped 30 = .ok (.iload_n 1, 1) := by decide +kernel
theorem dX12_stepped_31 : decode cX12_stepped 31 = .ok (.iload_n 2, 1) := by decide +kernel
theorem dX12_stepped_32 : decode cX12_stepped 32 = .ok (.iconst 3, 1) := by decide +kernel
theorem dX12_stepped_33 : decode cX12_stepped 33 = .ok (.invokevirtual 36, 3) := by decide +kernel
theorem dX12_stepped_36 : decode cX12_stepped 36 = .ok (.istore 4, 2) := by decide +kernel
theorem dX12_stepped_38 : decode cX12_stepped 38 = .ok (.aload_n 0, 1) := by decide +kernel
theorem dX12_stepped_39 : decode cX12_stepped 39 = .ok (.iconst 0, 1) := by decide +kernel
theorem dX12_stepped_40 : decode cX12_stepped 40 = .ok (.invokevirtual 613, 3) := by decide +kernel
theorem dX12_stepped_43 : decode cX12_stepped 43 = .ok (.istore 5, 2) := by decide +kernel
theorem dX12_stepped_45 : decode cX12_stepped 45 = .ok (.iload_n 3, 1) := by decide +kernel
theorem dX12_stepped_46 : decode cX12_stepped 46 = .ok (.ifCond .eq 44, 3) := by decide +kernel
theorem dX12_stepped_49 : decode cX12_stepped 49 = .ok (.aload_n 0, 1) := by decide +kernel
theorem dX12_stepped_50 : decode cX12_stepped 50 = .ok (.getfield 66, 3) := by decide +kernel
theorem dX12_stepped_53 : decode cX12_stepped 53 = .ok (.ifCond .le 37, 3) := by decide +kernel
theorem dX12_stepped_56 : decode cX12_stepped 56 = .ok (.aload_n 0, 1) := by decide +kernel
theorem dX12_stepped_57 : decode cX12_stepped 57 = .ok (.getfield 69, 3) := by decide +kernel
theorem dX12_stepped_60 : decode cX12_stepped 60 = .ok (.iconst 0, 1) := by decide +kernel
theorem dX12_stepped_61 : decode cX12_stepped 61 = .ok (.iaload, 1) := by decide +kernel
theorem dX12_stepped_62 : decode cX12_stepped 62 = .ok (.bipush 45, 2) := by decide +kernel
theorem dX12_stepped_64 : decode cX12_stepped 64 = .ok (.if_icmp .ne 26, 3) := by decide +kernel
theorem dX12_stepped_67 : decode cX12_stepped 67 = .ok (.aload_n 0, 1) := by decide +kernel
theorem dX12_stepped_68 : decode cX12_stepped 68 = .ok (.iconst 1, 1) := by decide +kernel
theorem dX12_stepped_69 : decode cX12_stepped 69 = .ok (.invokevirtual 613, 3) := by decide +kernel
theorem dX12_stepped_72 : decode cX12_stepped 72 = .ok (.istore 6, 2) := by decide +kernel
theorem dX12_stepped_74 : decode cX12_stepped 74 = .ok (.iload 6, 2) := by decide +kernel
theorem dX12_stepped_76 : decode cX12_stepped 76 = .ok (.ifCond .le 11, 3) := by decide +kernel
theorem dX12_stepped_79 : decode cX12_stepped 79 = .ok (.iload 4, 2) := by decide +kernel
theorem dX12_stepped_81 : decode cX12_stepped 81 = .ok (.iload 6, 2) := by decide +kernel
theorem dX12_stepped_83 : decode cX12_stepped 83 = .ok (.isub, 1) := by decide +kernel
theorem dX12_stepped_84 : decode cX12_stepped 84 = .ok (.goto 4, 3) := by decide +kernel
theorem dX12_stepped_87 : decode cX12_stepped 87 = .ok (.iconst (-1), 1) := by decide +kernel
theorem dX12_stepped_88 : decode cX12_stepped 88 = .ok (.istore 5, 2) := by decide +kernel
theorem dX12_stepped_90 : decode cX12_stepped 90 = .ok (.iload 5, 2) := by decide +kernel
theorem dX12_stepped_92 : decode cX12_stepped 92 = .ok (.iconst 0, 1) := by decide +kernel
theorem dX12_stepped_93 : decode cX12_stepped 93 = .ok (.iload 4, 2) := by decide +kernel
theorem dX12_stepped_95 : decode cX12_stepped 95 = .ok (.iconst 1, 1) := by decide +kernel
theorem dX12_stepped_96 : decode cX12_stepped 96 = .ok (.isub, 1) := by decide +kernel
