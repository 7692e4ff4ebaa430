theorem dX12_joinsOne_157 : decode cX12_joinsOne 157 = .ok (.invokevirtual 52, 3) := by decide +kernel
theorem dX12_joinsOne_160 : decode cX12_joinsOne 160 = .ok (.iconst 5, 1) := by decide +kernel
theorem dX12_joinsOne_161 : decode cX12_joinsOne 161 = .ok (.if_icmp .ne 7, 3) := by decide +kernel
theorem dX12_joinsOne_164 : decode cX12_joinsOne 164 = .ok (.iconst 1, 1) := by decide +kernel
theorem dX12_joinsOne_165 : decode cX12_joinsOne 165 = .ok (.goto 4, 3) := by decide +kernel
theorem dX12_joinsOne_168 : decode cX12_joinsOne 168 = .ok (.iconst 0, 1) := by decide +kernel
theorem dX12_joinsOne_169 : decode cX12_joinsOne 169 = .ok (.istore 7, 2) := by decide +kernel
theorem dX12_joinsOne_171 : decode cX12_joinsOne 171 = .ok (.iload 7, 2) := by decide +kernel
theorem dX12_joinsOne_173 : decode cX12_joinsOne 173 = .ok (.ifCond .eq 45, 3) := by decide +kernel
theorem dX12_joinsOne_176 : decode cX12_joinsOne 176 = .ok (.iload_n 1, 1) := by decide +kernel
theorem dX12_joinsOne_177 : decode cX12_joinsOne 177 = .ok (.iconst (-1), 1) := by decide +kernel
theorem dX12_joinsOne_178 : decode cX12_joinsOne 178 = .ok (.if_icmp .eq 16, 3) := by decide +kernel
theorem dX12_joinsOne_181 : decode cX12_joinsOne 181 = .ok (.aload_n 0, 1) := by decide +kernel
theorem dX12_joinsOne_182 : decode cX12_joinsOne 182 = .ok (.aload_n 0, 1) := by decide +kernel
theorem dX12_joinsOne_183 : decode cX12_joinsOne 183 = .ok (.getfield 765, 3) := by decide +kernel
theorem dX12_joinsOne_186 : decode cX12_joinsOne 186 = .ok (.iload_n 1, 1) := by decide +kernel
theorem dX12_joinsOne_187 : decode cX12_joinsOne 187 = .ok (.invokevirtual 52, 3) := by decide +kernel
theorem dX12_joinsOne_190 : decode cX12_joinsOne 190 = .ok (.iconst 5, 1) := by decide +kernel
theorem dX12_joinsOne_191 : decode cX12_joinsOne 191 = .ok (.if_icmp .ne 27, 3) := by decide +kernel
theorem dX12_joinsOne_194 : decode cX12_joinsOne 194 = .ok (.aload_n 0, 1) := by decide +kernel
theorem dX12_joinsOne_195 : decode cX12_joinsOne 195 = .ok (.bipush 40, 2) := by decide +kernel
theorem dX12_joinsOne_197 : decode cX12_joinsOne 197 = .ok (.iconst 5, 1) := by decide +kernel
theorem dX12_joinsOne_198 : decode cX12_joinsOne 198 = .ok (.invokevirtual 33, 3) := by decide +kernel
theorem dX12_joinsOne_201 : decode cX12_joinsOne 201 = .ok (.istore 8, 2) := by decide +kernel
theorem dX12_joinsOne_203 : decode cX12_joinsOne 203 = .ok (.iload 4, 2) := by decide +kernel
theorem dX12_joinsOne_205 : decode cX12_joinsOne 205 = .ok (.ifCond .eq 11, 3) := by decide +kernel
theorem dX12_joinsOne_208 : decode cX12_joinsOne 208 = .ok (.aload_n 0, 1) := by decide +kernel
theorem dX12_joinsOne_209 : decode cX12_joinsOne 209 = .ok (.bipush 40, 2) := by decide +kernel
theorem dX12_joinsOne_211 : decode cX12_joinsOne 211 = .ok (.iload 8, 2) := by decide +kernel
theorem dX12_joinsOne_213 : decode cX12_joinsOne 213 = .ok (.invokevirtual 650, 3) := by decide +kernel
theorem dX12_joinsOne_216 : decode cX12_joinsOne 216 = .ok (.iconst 2, 1) := by decide +kernel
theorem dX12_joinsOne_217 : decode cX12_joinsOne 217 = .ok (.ireturn, 1) := by decide +kernel
theorem dX12_joinsOne_218 : decode cX12_joinsOne 218 = .ok (.iconst 0, 1) := by decide +kernel
theorem dX12_joinsOne_219 : decode cX12_joinsOne 219 = .ok (.istore 8, 2) := by decide +kernel
theorem dX12_joinsOne_221 : decode cX12_joinsOne 221 = .ok (.iload 8, 2) := by decide +kernel
theorem dX12_joinsOne_223 : decode cX12_joinsOne 223 = .ok (.aload_n 0, 1) := by decide +kernel
theorem dX12_joinsOne_224 : decode cX12_joinsOne 224 = .ok (.getfield 604, 3) := by decide +kernel
theorem dX12_joinsOne_227 : decode cX12_joinsOne 227 = .ok (.if_icmp .ge 33, 3) := by decide +kernel
theorem dX12_joinsOne_230 : decode cX12_joinsOne 230 = .ok (.aload_n 0, 1) := by decide +kernel
theorem dX12_joinsOne_231 : decode cX12_joinsOne 231 = .ok (.getfield 349, 3) := by decide +kernel
theorem dX12_joinsOne_234 : decode cX12_joinsOne 234 = .ok (.aload_n 0, 1) := by decide +kernel
theorem dX12_joinsOne_235 : decode cX12_joinsOne 235 = .ok (.getfield 346, 3) := by decide +kernel
theorem dX12_joinsOne_238 : decode cX12_joinsOne 238 = .ok (.aload_n 0, 1) := by decide +kernel
theorem dX12_joinsOne_239 : decode cX12_joinsOne 239 = .ok (.getfield 768, 3) := by decide +kernel
theorem dX12_joinsOne_242 : decode cX12_joinsOne 242 = .ok (.iaload, 1) := by decide +kernel
theorem dX12_joinsOne_243 : decode cX12_joinsOne 243 = .ok (.iload 8, 2) := by decide +kernel
theorem dX12_joinsOne_245 : decode cX12_joinsOne 245 = .ok (.iadd, 1) := by decide +kernel
theorem dX12_joinsOne_246 : decode cX12_joinsOne 246 = .ok (.aload_n 0, 1) := by decide +kernel
theorem dX12_joinsOne_247 : decode cX12_joinsOne 247 = .ok (.getfield 275, 3) := by decide +kernel
theorem dX12_joinsOne_250 : decode cX12_joinsOne 250 = .ok (.iload 8, 2) := by decide +kernel
theorem dX12_joinsOne_252 : decode cX12_joinsOne 252 = .ok (.iaload, 1) := by decide +kernel
theorem dX12_joinsOne_253 : decode cX12_joinsOne 253 = .ok (.iastore, 1) := by decide +kernel
theorem dX12_joinsOne_254 : decode cX12_joinsOne 254 = .ok (.iinc 8 1, 3) := by decide +kernel
theorem dX12_joinsOne_257 : decode cX12_joinsOne 257 = .ok (.goto (-36), 3) := by decide +kernel
theorem dX12_joinsOne_260 : decode cX12_joinsOne 260 = .ok (.aload_n 0, 1) := by decide +kernel
theorem dX12_joinsOne_261 : decode cX12_joinsOne 261 = .ok (.getfield 346, 3) := by decide +kernel
theorem dX12_joinsOne_264 : decode cX12_joinsOne 264 = .ok (.aload_n 0, 1) := by decide +kernel
theorem dX12_joinsOne_265 : decode cX12_joinsOne 265 = .ok (.getfield 768, 3) := by decide +kernel
theorem dX12_joinsOne_268 : decode cX12_joinsOne 268 = .ok (.iconst 1, 1) := by decide +kernel
theorem dX12_joinsOne_269 : decode cX12_joinsOne 269 = .ok (.iadd, 1) := by decide +kernel
theorem dX12_joinsOne_270 : decode cX12_joinsOne 270 = .ok (.aload_n 0, 1) := by decide +kernel
theorem dX12_joinsOne_271 : decode cX12_joinsOne 271 = .ok (.getfield 346, 3) := by decide +kernel
theorem dX12_joinsOne_274 : decode cX12_joinsOne 274 = .ok (.aload_n 0, 1) := by decide +kernel
theorem dX12_joinsOne_275 : decode cX12_joinsOne 275 = .ok (.getfield 768, 3) := by decide +kernel
theorem dX12_joinsOne_278 : decode cX12_joinsOne 278 = .ok (.iaload, 1) := by decide +kernel
theorem dX12_joinsOne_279 : decode cX12_joinsOne 279 = .ok (.aload_n 0, 1) := by decide +kernel
theorem dX12_joinsOne_280 : decode cX12_joinsOne 280 = .ok (.getfield 604, 3) := by decide +kernel
theorem dX12_joinsOne_283 : decode cX12_joinsOne 283 = .ok (.iadd, 1) := by decide +kernel
theorem dX12_joinsOne_284 : decode cX12_joinsOne 284 = .ok (.iastore, 1) := by decide +kernel
theorem dX12_joinsOne_285 : decode cX12_joinsOne 285 = .ok (.aload_n 0, 1) := by decide +kernel
theorem dX12_joinsOne_286 : decode cX12_joinsOne 286 = .ok (.dup, 1) := by decide +kernel
theorem dX12_joinsOne_287 : decode cX12_joinsOne 287 = .ok (.getfield 768, 3) := by decide +kernel
theorem dX12_joinsOne_290 : decode cX12_joinsOne 290 = .ok (.iconst 1, 1) := by decide +kernel
theorem dX12_joinsOne_291 : decode cX12_joinsOne 291 = .ok (.iadd, 1) := by decide +kernel
theorem dX12_joinsOne_292 : decode cX12_joinsOne 292 = .ok (.putfield 768, 3) := by decide +kernel
theorem dX12_joinsOne_295 : decode cX12_joinsOne 295 = .ok (.iconst 0, 1) := by decide +kernel
theorem dX12_joinsOne_296 : decode cX12_joinsOne 296 = .ok (.ireturn, 1) := by decide +kernel
theorem dX12_goesInto_0 : decode cX12_goesInto 0 = .ok (.aload_n 0, 1) := by decide +kernel
theorem dX12_goesInto_1 : decode cX12_goesInto 1 = .ok (.getfield 318, 3) := by decide +kernel
theorem dX12_goesInto_4 : decode cX12_goesInto 4 = .ok (.iload_n 1, 1) := by decide +kernel
theorem dX12_goesInto_5 : decode cX12_goesInto 5 = .ok (.iload_n 2, 1) := by decide +kernel
theorem dX12_goesInto_6 : decode cX12_goesInto 6 = .ok (.iastore, 1) := by decide +kernel
theorem dX12_goesInto_7 : decode cX12_goesInto 7 = .ok (.aload_n 0, 1) := by decide +kernel
theorem dX12_goesInto_8 : decode cX12_goesInto 8 = .ok (.getfield 321, 3) := by decide +kernel
theorem dX12_goesInto_11 : decode cX12_goesInto 11 = .ok (.iload_n 1, 1) := by decide +kernel
theorem dX12_goesInto_12 : decode cX12_goesInto 12 = .ok (.iload_n 3, 1) := by decide +kernel
theorem dX12_goesInto_13 : decode cX12_goesInto 13 = .ok (.iastore, 1) := by decide +kernel
theorem dX12_goesInto_14 : decode cX12_goesInto 14 = .ok (.aload_n 0, 1) := by decide +kernel
theorem dX12_goesInto_15 : decode cX12_goesInto 15 = .ok (.getfield 324, 3) := by decide +kernel
theorem dX12_goesInto_18 : decode cX12_goesInto 18 = .ok (.iload_n 1, 1) := by decide +kernel
theorem dX12_goesInto_19 : decode cX12_goesInto 19 = .ok (.iload 4, 2) := by decide +kernel
theorem dX12_goesInto_21 : decode cX12_goesInto 21 = .ok (.iastore, 1) := by decide +kernel
theorem dX12_goesInto_22 : decode cX12_goesInto 22 = .ok (.aload_n 0, 1) := by decide +kernel
theorem dX12_goesInto_23 : decode cX12_goesInto 23 = .ok (.getfield 327, 3) := by decide +kernel
theorem dX12_goesInto_26 : decode cX12_goesInto 26 = .ok (.iload_n 1, 1) := by decide +kernel
theorem dX12_goesInto_27 : decode cX12_goesInto 27 = .ok (.iconst 0, 1) := by decide +kernel
theorem dX12_goesInto_28 : decode cX12_goesInto 28 = .ok (.iastore, 1) := by decide +kernel
theorem dX12_goesInto_29 : decode cX12_goesInto 29 = .ok (.aload_n 0, 1) := by decide +kernel
theorem dX12_goesInto_30 : decode cX12_goesInto 30 = .ok (.getfield 330, 3) := by decide +kernel
theorem dX12_goesInto_33 : decode cX12_goesInto 33 = .ok (.iload_n 1, 1) := by decide +kernel
theorem dX12_goesInto_34 : decode cX12_goesInto 34 = .ok (.iload_n 2, 1) := by decide +kernel
theorem dX12_goesInto_35 : decode cX12_goesInto 35 = .ok (.iconst (-1), 1) := by decide +kernel
theorem dX12_goesInto_36 : decode cX12_goesInto 36 = .ok (.if_icmp .ne 7, 3) := by decide +kernel
theorem dX12_goesInto_39 : decode cX12_goesInto 39 = .ok (.iconst (-1), 1) := by decide +kernel
theorem dX12_goesInto_40 : decode cX12_goesInto 40 = .ok (.goto 6, 3) := by decide +kernel
theorem dX12_goesInto_43 : decode cX12_goesInto 43 = .ok (.iload_n 2, 1) := by decide +kernel
theorem dX12_goesInto_44 : decode cX12_goesInto 44 = .ok (.iconst 1, 1) := by decide +kernel
theorem dX12_goesInto_45 : decode cX12_goesInto 45 = .ok (.iadd, 1) := by decide +kernel
theorem dX12_goesInto_46 : decode cX12_goesInto 46 = .ok (.iastore, 1) := by decide +kernel
theorem dX12_goesInto_47 : decode cX12_goesInto 47 = .ok (.aload_n 0, 1) := by decide +kernel
theorem dX12_goesInto_48 : decode cX12_goesInto 48 = .ok (.getfield 333, 3) := by decide +kernel
theorem dX12_goesInto_51 : decode cX12_goesInto 51 = .ok (.iload_n 1, 1) := by decide +kernel
theorem dX12_goesInto_52 : decode cX12_goesInto 52 = .ok (.aload_n 0, 1) := by decide +kernel
theorem dX12_goesInto_53 : decode cX12_goesInto 53 = .ok (.getfield 26, 3) := by decide +kernel
theorem dX12_goesInto_56 : decode cX12_goesInto 56 = .ok (.bipush 40, 2) := by decide +kernel
theorem dX12_goesInto_58 : decode cX12_goesInto 58 = .ok (.iaload, 1) := by decide +kernel
theorem dX12_goesInto_59 : decode cX12_goesInto 59 = .ok (.iconst 1, 1) := by decide +kernel
theorem dX12_goesInto_60 : decode cX12_goesInto 60 = .ok (.isub, 1) := by decide +kernel
theorem dX12_goesInto_61 : decode cX12_goesInto 61 = .ok (.iastore, 1) := by decide +kernel
theorem dX12_goesInto_62 : decode cX12_goesInto 62 = .ok (.aload_n 0, 1) := by decide +kernel
theorem dX12_goesInto_63 : decode cX12_goesInto 63 = .ok (.getfield 336, 3) := by decide +kernel
theorem dX12_goesInto_66 : decode cX12_goesInto 66 = .ok (.iload_n 1, 1) := by decide +kernel
theorem dX12_goesInto_67 : decode cX12_goesInto 67 = .ok (.aload_n 0, 1) := by decide +kernel
theorem dX12_goesInto_68 : decode cX12_goesInto 68 = .ok (.getfield 604, 3) := by decide +kernel
theorem dX12_goesInto_71 : decode cX12_goesInto 71 = .ok (.iastore, 1) := by decide +kernel
theorem dX12_goesInto_72 : decode cX12_goesInto 72 = .ok (.return_, 1) := by decide +kernel
theorem dX12_docOf_0 : decode cX12_docOf 0 = .ok (.iload_n 1, 1) := by decide +kernel
theorem dX12_docOf_1 : decode cX12_docOf 1 = .ok (.ifCond .ne 10, 3) := by decide +kernel
theorem dX12_docOf_4 : decode cX12_docOf 4 = .ok (.aload_n 0, 1) := by decide +kernel
theorem dX12_docOf_5 : decode cX12_docOf 5 = .ok (.getfield 765, 3) := by decide +kernel
theorem dX12_docOf_8 : decode cX12_docOf 8 = .ok (.goto 19, 3) := by decide +kernel
theorem dX12_docOf_11 : decode cX12_docOf 11 = .ok (.iload_n 1, 1) := by decide +kernel
theorem dX12_docOf_12 : decode cX12_docOf 12 = .ok (.iconst 1, 1) := by decide +kernel
theorem dX12_docOf_13 : decode cX12_docOf 13 = .ok (.if_icmp .ne 10, 3) := by decide +kernel
theorem dX12_docOf_16 : decode cX12_docOf 16 = .ok (.aload_n 0, 1) := by decide +kernel
theorem dX12_docOf_17 : decode cX12_docOf 17 = .ok (.getfield 756, 3) := by decide +kernel
theorem dX12_docOf_20 : decode cX12_docOf 20 = .ok (.goto 7, 3) := by decide +kernel
theorem dX12_docOf_23 : decode cX12_docOf 23 = .ok (.aload_n 0, 1) := by decide +kernel
theorem dX12_docOf_24 : decode cX12_docOf 24 = .ok (.getfield 759, 3) := by decide +kernel
theorem dX12_docOf_27 : decode cX12_docOf 27 = .ok (.ireturn, 1) := by decide +kernel
theorem dX12_mapOf_0 : decode cX12_mapOf 0 = .ok (.iload_n 2, 1) := by decide +kernel
theorem dX12_mapOf_1 : decode cX12_mapOf 1 = .ok (.ifCond .ne 12, 3) := by decide +kernel
theorem dX12_mapOf_4 : decode cX12_mapOf 4 = .ok (.aload_n 0, 1) := by decide +kernel
theorem dX12_mapOf_5 : decode cX12_mapOf 5 = .ok (.getfield 318, 3) := by decide +kernel
theorem dX12_mapOf_8 : decode cX12_mapOf 8 = .ok (.iload_n 1, 1) := by decide +kernel
theorem dX12_mapOf_9 : decode cX12_mapOf 9 = .ok (.iaload, 1) := by decide +kernel
theorem dX12_mapOf_10 : decode cX12_mapOf 10 = .ok (.goto 23, 3) := by decide +kernel
theorem dX12_mapOf_13 : decode cX12_mapOf 13 = .ok (.iload_n 2, 1) := by decide +kernel
theorem dX12_mapOf_14 : decode cX12_mapOf 14 = .ok (.iconst 1, 1) := by decide +kernel
theorem dX12_mapOf_15 : decode cX12_mapOf 15 = .ok (.if_icmp .ne 12, 3) := by decide +kernel
theorem dX12_mapOf_18 : decode cX12_mapOf 18 = .ok (.aload_n 0, 1) := by decide +kernel
theorem dX12_mapOf_19 : decode cX12_mapOf 19 = .ok (.getfield 321, 3) := by decide +kernel
theorem dX12_mapOf_22 : decode cX12_mapOf 22 = .ok (.iload_n 1, 1) := by decide +kernel
theorem dX12_mapOf_23 : decode cX12_mapOf 23 = .ok (.iaload, 1) := by decide +kernel
theorem dX12_mapOf_24 : decode cX12_mapOf 24 = .ok (.goto 9, 3) := by decide +kernel
theorem dX12_mapOf_27 : decode cX12_mapOf 27 = .ok (.aload_n 0, 1) := by decide +kernel
theorem dX12_mapOf_28 : decode cX12_mapOf 28 = .ok (.getfield 324, 3) := by decide +kernel
theorem dX12_mapOf_31 : decode cX12_mapOf 31 = .ok (.iload_n 1, 1) := by decide +kernel
theorem dX12_mapOf_32 : decode cX12_mapOf 32 = .ok (.iaload, 1) := by decide +kernel
theorem dX12_mapOf_33 : decode cX12_mapOf 33 = .ok (.ireturn, 1) := by decide +kernel
theorem dX12_joins_0 : decode cX12_joins 0 = .ok (.aload_n 0, 1) := by decide +kernel
theorem dX12_joins_1 : decode cX12_joins 1 = .ok (.bipush 40, 2) := by decide +kernel
theorem dX12_joins_3 : decode cX12_joins 3 = .ok (.invokevirtual 517, 3) := by decide +kernel
theorem dX12_joins_6 : decode cX12_joins 6 = .ok (.aload_n 0, 1) := by decide +kernel
theorem dX12_joins_7 : decode cX12_joins 7 = .ok (.iconst 0, 1) := by decide +kernel
theorem dX12_joins_8 : decode cX12_joins 8 = .ok (.putfield 768, 3) := by decide +kernel
theorem dX12_joins_11 : decode cX12_joins 11 = .ok (.aload_n 0, 1) := by decide +kernel
theorem dX12_joins_12 : decode cX12_joins 12 = .ok (.getfield 346, 3) := by decide +kernel
theorem dX12_joins_15 : decode cX12_joins 15 = .ok (.iconst 0, 1) := by decide +kernel
theorem dX12_joins_16 : decode cX12_joins 16 = .ok (.iconst 0, 1) := by decide +kernel
theorem dX12_joins_17 : decode cX12_joins 17 = .ok (.iastore, 1) := by decide +kernel
theorem dX12_joins_18 : decode cX12_joins 18 = .ok (.aload_n 0, 1) := by decide +kernel
theorem dX12_joins_19 : decode cX12_joins 19 = .ok (.iconst 0, 1) := by decide +kernel
theorem dX12_joins_20 : decode cX12_joins 20 = .ok (.putfield 604, 3) := by decide +kernel
theorem dX12_joins_23 : decode cX12_joins 23 = .ok (.iconst 0, 1) := by decide +kernel
theorem dX12_joins_24 : decode cX12_joins 24 = .ok (.istore_n 1, 1) := by decide +kernel
theorem dX12_joins_25 : decode cX12_joins 25 = .ok (.aload_n 0, 1) := by decide +kernel
theorem dX12_joins_26 : decode cX12_joins 26 = .ok (.iconst 0, 1) := by decide +kernel
theorem dX12_joins_27 : decode cX12_joins 27 = .ok (.iconst 0, 1) := by decide +kernel
theorem dX12_joins_28 : decode cX12_joins 28 = .ok (.iconst 0, 1) := by decide +kernel
theorem dX12_joins_29 : decode cX12_joins 29 = .ok (.iconst 0, 1) := by decide +kernel
theorem dX12_joins_30 : decode cX12_joins 30 = .ok (.invokevirtual 771, 3) := by decide +kernel
theorem dX12_joins_33 : decode cX12_joins 33 = .ok (.iconst 2, 1) := by decide +kernel
theorem dX12_joins_34 : decode cX12_joins 34 = .ok (.if_icmp .ne 13, 3) := by decide +kernel
theorem dX12_joins_37 : decode cX12_joins 37 = .ok (.aload_n 0, 1) := by decide +kernel
theorem dX12_joins_38 : decode cX12_joins 38 = .ok (.iconst 0, 1) := by decide +kernel
theorem dX12_joins_39 : decode cX12_joins 39 = .ok (.iconst 0, 1) := by decide +kernel
theorem dX12_joins_40 : decode cX12_joins 40 = .ok (.iconst 0, 1) := by decide +kernel
theorem dX12_joins_41 : decode cX12_joins 41 = .ok (.iconst 0, 1) := by decide +kernel
theorem dX12_joins_42 : decode cX12_joins 42 = .ok (.invokevirtual 775, 3) := by decide +kernel
theorem dX12_joins_45 : decode cX12_joins 45 = .ok (.iconst 1, 1) := by decide +kernel
theorem dX12_joins_46 : decode cX12_joins 46 = .ok (.istore_n 1, 1) := by decide +kernel
theorem dX12_joins_47 : decode cX12_joins 47 = .ok (.iload_n 1, 1) := by decide +kernel
theorem dX12_joins_48 : decode cX12_joins 48 = .ok (.ifCond .le 301, 3) := by decide +kernel
theorem dX12_joins_51 : decode cX12_joins 51 = .ok (.iload_n 1, 1) := by decide +kernel
theorem dX12_joins_52 : decode cX12_joins 52 = .ok (.iconst 1, 1) := by decide +kernel
theorem dX12_joins_53 : decode cX12_joins 53 = .ok (.isub, 1) := by decide +kernel
theorem dX12_joins_54 : decode cX12_joins 54 = .ok (.istore_n 2, 1) := by decide +kernel
theorem dX12_joins_55 : decode cX12_joins 55 = .ok (.aload_n 0, 1) := by decide +kernel
theorem dX12_joins_56 : decode cX12_joins 56 = .ok (.getfield 327, 3) := by decide +kernel
theorem dX12_joins_59 : decode cX12_joins 59 = .ok (.iload_n 2, 1) := by decide +kernel
theorem dX12_joins_60 : decode cX12_joins 60 = .ok (.iaload, 1) := by decide +kernel
theorem dX12_joins_61 : decode cX12_joins 61 = .ok (.istore_n 3, 1) := by decide +kernel
theorem dX12_joins_62 : decode cX12_joins 62 = .ok (.aload_n 0, 1) := by decide +kernel
theorem dX12_joins_63 : decode cX12_joins 63 = .ok (.iload_n 2, 1) := by decide +kernel
theorem dX12_joins_64 : decode cX12_joins 64 = .ok (.iload_n 3, 1) := by decide +kernel
theorem dX12_joins_65 : decode cX12_joins 65 = .ok (.invokevirtual 778, 3) := by decide +kernel
theorem dX12_joins_68 : decode cX12_joins 68 = .ok (.istore 4, 2) := by decide +kernel
theorem dX12_joins_70 : decode cX12_joins 70 = .ok (.iload 4, 2) := by decide +kernel
theorem dX12_joins_72 : decode cX12_joins 72 = .ok (.iconst (-1), 1) := by decide +kernel
theorem dX12_joins_73 : decode cX12_joins 73 = .ok (.if_icmp .eq 23, 3) := by decide +kernel
theorem dX12_joins_76 : decode cX12_joins 76 = .ok (.aload_n 0, 1) := by decide +kernel
theorem dX12_joins_77 : decode cX12_joins 77 = .ok (.getfield 330, 3) := by decide +kernel
theorem dX12_joins_80 : decode cX12_joins 80 = .ok (.iload_n 2, 1) := by decide +kernel
theorem dX12_joins_81 : decode cX12_joins 81 = .ok (.iaload, 1) := by decide +kernel
theorem dX12_joins_82 : decode cX12_joins 82 = .ok (.aload_n 0, 1) := by decide +kernel
theorem dX12_joins_83 : decode cX12_joins 83 = .ok (.aload_n 0, 1) := by decide +kernel
theorem dX12_joins_84 : decode cX12_joins 84 = .ok (.iload_n 3, 1) := by decide +kernel
theorem dX12_joins_85 : decode cX12_joins 85 = .ok (.invokevirtual 781, 3) := by decide +kernel
theorem dX12_joins_88 : decode cX12_joins 88 = .ok (.iload 4, 2) := by decide +kernel
theorem dX12_joins_90 : decode cX12_joins 90 = .ok (.invokevirtual 49, 3) := by decide +kernel
theorem dX12_joins_93 : decode cX12_joins 93 = .ok (.if_icmp .ne 43, 3) := by decide +kernel
theorem dX12_joins_96 : decode cX12_joins 96 = .ok (.aload_n 0, 1) := by decide +kernel
theorem dX12_joins_97 : decode cX12_joins 97 = .ok (.getfield 327, 3) := by decide +kernel
theorem dX12_joins_100 : decode cX12_joins 100 = .ok (.iload_n 2, 1) := by decide +kernel
theorem dX12_joins_101 : decode cX12_joins 101 = .ok (.dup2, 1) := by decide +kernel
theorem dX12_joins_102 : decode cX12_joins 102 = .ok (.iaload, 1) := by decide +kernel
theorem dX12_joins_103 : decode cX12_joins 103 = .ok (.iconst 1, 1) := by decide +kernel
theorem dX12_joins_104 : decode cX12_joins 104 = .ok (.iadd, 1) := by decide +kernel
theorem dX12_joins_105 : decode cX12_joins 105 = .ok (.iastore, 1) := by decide +kernel
theorem dX12_joins_106 : decode cX12_joins 106 = .ok (.iload_n 3, 1) := by decide +kernel
theorem dX12_joins_107 : decode cX12_joins 107 = .ok (.iconst 2, 1) := by decide +kernel
theorem dX12_joins_108 : decode cX12_joins 108 = .ok (.if_icmp .ne 9, 3) := by decide +kernel
theorem dX12_joins_111 : decode cX12_joins 111 = .ok (.iinc 1 (-1), 3) := by decide +kernel
theorem dX12_joins_114 : decode cX12_joins 114 = .ok (.goto 232, 3) := by decide +kernel
theorem dX12_joins_117 : decode cX12_joins 117 = .ok (.aload_n 0, 1) := by decide +kernel
theorem dX12_joins_118 : decode cX12_joins 118 = .ok (.getfield 330, 3) := by decide +kernel
theorem dX12_joins_121 : decode cX12_joins 121 = .ok (.iload_n 2, 1) := by decide +kernel
theorem dX12_joins_122 : decode cX12_joins 122 = .ok (.aload_n 0, 1) := by decide +kernel
theorem dX12_joins_123 : decode cX12_joins 123 = .ok (.iload_n 2, 1) := by decide +kernel
theorem dX12_joins_124 : decode cX12_joins 124 = .ok (.iload_n 3, 1) := by decide +kernel
theorem dX12_joins_125 : decode cX12_joins 125 = .ok (.iconst 1, 1) := by decide +kernel
theorem dX12_joins_126 : decode cX12_joins 126 = .ok (.iadd, 1) := by decide +kernel
theorem dX12_joins_127 : decode cX12_joins 127 = .ok (.invokevirtual 778, 3) := by decide +kernel
theorem dX12_joins_130 : decode cX12_joins 130 = .ok (.iconst 1, 1) := by decide +kernel
theorem dX12_joins_131 : decode cX12_joins 131 = .ok (.iadd, 1) := by decide +kernel
theorem dX12_joins_132 : decode cX12_joins 132 = .ok (.iastore, 1) := by decide +kernel
theorem dX12_joins_133 : decode cX12_joins 133 = .ok (.goto 213, 3) := by decide +kernel
theorem dX12_joins_136 : decode cX12_joins 136 = .ok (.aload_n 0, 1) := by decide +kernel
theorem dX12_joins_137 : decode cX12_joins 137 = .ok (.getfield 330, 3) := by decide +kernel
theorem dX12_joins_140 : decode cX12_joins 140 = .ok (.iload_n 2, 1) := by decide +kernel
theorem dX12_joins_141 : decode cX12_joins 141 = .ok (.iaload, 1) := by decide +kernel
theorem dX12_joins_142 : decode cX12_joins 142 = .ok (.istore 5, 2) := by decide +kernel
theorem dX12_joins_144 : decode cX12_joins 144 = .ok (.aload_n 0, 1) := by decide +kernel
theorem dX12_joins_145 : decode cX12_joins 145 = .ok (.iload_n 3, 1) := by decide +kernel
theorem dX12_joins_146 : decode cX12_joins 146 = .ok (.invokevirtual 781, 3) := by decide +kernel
theorem dX12_joins_149 : decode cX12_joins 149 = .ok (.istore 6, 2) := by decide +kernel
theorem dX12_joins_151 : decode cX12_joins 151 = .ok (.aload_n 0, 1) := by decide +kernel
theorem dX12_joins_152 : decode cX12_joins 152 = .ok (.getfield 330, 3) := by decide +kernel
theorem dX12_joins_155 : decode cX12_joins 155 = .ok (.iload_n 2, 1) := by decide +kernel
theorem dX12_joins_156 : decode cX12_joins 156 = .ok (.aload_n 0, 1) := by decide +kernel
theorem dX12_joins_157 : decode cX12_joins 157 = .ok (.iload 6, 2) := by decide +kernel
theorem dX12_joins_159 : decode cX12_joins 159 = .ok (.iload 5, 2) := by decide +kernel
theorem dX12_joins_161 : decode cX12_joins 161 = .ok (.invokevirtual 49, 3) := by decide +kernel
theorem dX12_joins_164 : decode cX12_joins 164 = .ok (.iastore, 1) := by decide +kernel
theorem dX12_joins_165 : decode cX12_joins 165 = .ok (.aload_n 0, 1) := by decide +kernel
theorem dX12_joins_166 : decode cX12_joins 166 = .ok (.getfield 318, 3) := by decide +kernel
theorem dX12_joins_169 : decode cX12_joins 169 = .ok (.iload_n 2, 1) := by decide +kernel
theorem dX12_joins_170 : decode cX12_joins 170 = .ok (.iaload, 1) := by decide +kernel
theorem dX12_joins_171 : decode cX12_joins 171 = .ok (.iconst (-1), 1) := by decide +kernel
theorem dX12_joins_172 : decode cX12_joins 172 = .ok (.if_icmp .ne 7, 3) := by decide +kernel
theorem dX12_joins_175 : decode cX12_joins 175 = .ok (.iconst (-1), 1) := by decide +kernel
theorem dX12_joins_176 : decode cX12_joins 176 = .ok (.goto 21, 3) := by decide +kernel
theorem dX12_joins_179 : decode cX12_joins 179 = .ok (.aload_n 0, 1) := by decide +kernel
theorem dX12_joins_180 : decode cX12_joins 180 = .ok (.aload_n 0, 1) := by decide +kernel
theorem dX12_joins_181 : decode cX12_joins 181 = .ok (.getfield 765, 3) := by decide +kernel
theorem dX12_joins_184 : decode cX12_joins 184 = .ok (.aload_n 0, 1) := by decide +kernel
theorem dX12_joins_185 : decode cX12_joins 185 = .ok (.getfield 318, 3) := by decide +kernel
theorem dX12_joins_188 : decode cX12_joins 188 = .ok (.iload_n 2, 1) := by decide +kernel
theorem dX12_joins_189 : decode cX12_joins 189 = .ok (.iaload, 1) := by decide +kernel
theorem dX12_joins_190 : decode cX12_joins 190 = .ok (.iload 6, 2) := by decide +kernel
theorem dX12_joins_192 : decode cX12_joins 192 = .ok (.iload 5, 2) := by decide +kernel
theorem dX12_joins_194 : decode cX12_joins 194 = .ok (.invokevirtual 732, 3) := by decide +kernel
theorem dX12_joins_197 : decode cX12_joins 197 = .ok (.istore 7, 2) := by decide +kernel
theorem dX12_joins_199 : decode cX12_joins 199 = .ok (.aload_n 0, 1) := by decide +kernel
theorem dX12_joins_200 : decode cX12_joins 200 = .ok (.aload_n 0, 1) := by decide +kernel
theorem dX12_joins_201 : decode cX12_joins 201 = .ok (.getfield 756, 3) := by decide +kernel
theorem dX12_joins_204 : decode cX12_joins 204 = .ok (.aload_n 0, 1) := by decide +kernel
theorem dX12_joins_205 : decode cX12_joins 205 = .ok (.getfield 321, 3) := by decide +kernel
theorem dX12_joins_208 : decode cX12_joins 208 = .ok (.iload_n 2, 1) := by decide +kernel
theorem dX12_joins_209 : decode cX12_joins 209 = .ok (.iaload, 1) := by decide +kernel
theorem dX12_joins_210 : decode cX12_joins 210 = .ok (.iload 6, 2) := by decide +kernel
theorem dX12_joins_212 : decode cX12_joins 212 = .ok (.iload 5, 2) := by decide +kernel
theorem dX12_joins_214 : decode cX12_joins 214 = .ok (.invokevirtual 732, 3) := by decide +kernel
theorem dX12_joins_217 : decode cX12_joins 217 = .ok (.istore 8, 2) := by decide +kernel
theorem dX12_joins_219 : decode cX12_joins 219 = .ok (.aload_n 0, 1) := by decide +kernel
theorem dX12_joins_220 : decode cX12_joins 220 = .ok (.aload_n 0, 1) := by decide +kernel
theorem dX12_joins_221 : decode cX12_joins 221 = .ok (.getfield 759, 3) := by decide +kernel
theorem dX12_joins_224 : decode cX12_joins 224 = .ok (.aload_n 0, 1) := by decide +kernel
theorem dX12_joins_225 : decode cX12_joins 225 = .ok (.getfield 324, 3) := by decide +kernel
theorem dX12_joins_228 : decode cX12_joins 228 = .ok (.iload_n 2, 1) := by decide +kernel
theorem dX12_joins_229 : decode cX12_joins 229 = .ok (.iaload, 1) := by decide +kernel
theorem dX12_joins_230 : decode cX12_joins 230 = .ok (.iload 6, 2) := by decide +kernel
theorem dX12_joins_232 : decode cX12_joins 232 = .ok (.iload 5, 2) := by decide +kernel
theorem dX12_joins_234 : decode cX12_joins 234 = .ok (.invokevirtual 732, 3) := by decide +kernel
theorem dX12_joins_237 : decode cX12_joins 237 = .ok (.istore 9, 2) := by decide +kernel
theorem dX12_joins_239 : decode cX12_joins 239 = .ok (.iload_n 3, 1) := by decide +kernel
theorem dX12_joins_240 : decode cX12_joins 240 = .ok (.ifCond .eq 20, 3) := by decide +kernel
theorem dX12_joins_243 : decode cX12_joins 243 = .ok (.iload 7, 2) := by decide +kernel
theorem dX12_joins_245 : decode cX12_joins 245 = .ok (.iconst (-1), 1) := by decide +kernel
theorem dX12_joins_246 : decode cX12_joins 246 = .ok (.if_icmp .ne 100, 3) := by decide +kernel
theorem dX12_joins_249 : decode cX12_joins 249 = .ok (.iload_n 3, 1) := by decide +kernel
theorem dX12_joins_250 : decode cX12_joins 250 = .ok (.iconst 1, 1) := by decide +kernel
theorem dX12_joins_251 : decode cX12_joins 251 = .ok (.if_icmp .eq 9, 3) := by decide +kernel
theorem dX12_joins_254 : decode cX12_joins 254 = .ok (.iload 8, 2) := by decide +kernel
theorem dX12_joins_256 : decode cX12_joins 256 = .ok (.iconst (-1), 1) := by decide +kernel
theorem dX12_joins_257 : decode cX12_joins 257 = .ok (.if_icmp .ne 89, 3) := by decide +kernel
theorem dX12_joins_260 : decode cX12_joins 260 = .ok (.aload_n 0, 1) := by decide +kernel
theorem dX12_joins_261 : decode cX12_joins 261 = .ok (.iload 6, 2) := by decide +kernel
theorem dX12_joins_263 : decode cX12_joins 263 = .ok (.iload 5, 2) := by decide +kernel
theorem dX12_joins_265 : decode cX12_joins 265 = .ok (.invokevirtual 653, 3) := by decide +kernel
theorem dX12_joins_268 : decode cX12_joins 268 = .ok (.aload_n 0, 1) := by decide +kernel
theorem dX12_joins_269 : decode cX12_joins 269 = .ok (.aload_n 0, 1) := by decide +kernel
theorem dX12_joins_270 : decode cX12_joins 270 = .ok (.getfield 336, 3) := by decide +kernel
theorem dX12_joins_273 : decode cX12_joins 273 = .ok (.iload_n 2, 1) := by decide +kernel
theorem dX12_joins_274 : decode cX12_joins 274 = .ok (.iaload, 1) := by decide +kernel
theorem dX12_joins_275 : decode cX12_joins 275 = .ok (.putfield 604, 3) := by decide +kernel
theorem dX12_joins_278 : decode cX12_joins 278 = .ok (.aload_n 0, 1) := by decide +kernel
theorem dX12_joins_279 : decode cX12_joins 279 = .ok (.invokevirtual 784, 3) := by decide +kernel
theorem dX12_joins_282 : decode cX12_joins 282 = .ok (.aload_n 0, 1) := by decide +kernel
theorem dX12_joins_283 : decode cX12_joins 283 = .ok (.iload 7, 2) := by decide +kernel
theorem dX12_joins_285 : decode cX12_joins 285 = .ok (.iload 8, 2) := by decide +kernel
theorem dX12_joins_287 : decode cX12_joins 287 = .ok (.iload 9, 2) := by decide +kernel
theorem dX12_joins_289 : decode cX12_joins 289 = .ok (.iconst 1, 1) := by decide +kernel
theorem dX12_joins_290 : decode cX12_joins 290 = .ok (.invokevirtual 771, 3) := by decide +kernel
theorem dX12_joins_293 : decode cX12_joins 293 = .ok (.istore 10, 2) := by decide +kernel
theorem dX12_joins_295 : decode cX12_joins 295 = .ok (.aload_n 0, 1) := by decide +kernel
theorem dX12_joins_296 : decode cX12_joins 296 = .ok (.getfield 7, 3) := by decide +kernel
theorem dX12_joins_299 : decode cX12_joins 299 = .ok (.bipush 40, 2) := by decide +kernel
theorem dX12_joins_301 : decode cX12_joins 301 = .ok (.aload_n 0, 1) := by decide +kernel
theorem dX12_joins_302 : decode cX12_joins 302 = .ok (.getfield 333, 3) := by decide +kernel
theorem dX12_joins_305 : decode cX12_joins 305 = .ok (.iload_n 2, 1) := by decide +kernel
theorem dX12_joins_306 : decode cX12_joins 306 = .ok (.iaload, 1) := by decide +kernel
theorem dX12_joins_307 : decode cX12_joins 307 = .ok (.invokestatic 11, 3) := by decide +kernel
theorem dX12_joins_310 : decode cX12_joins 310 = .ok (.iconst 3, 1) := by decide +kernel
theorem dX12_joins_311 : decode cX12_joins 311 = .ok (.iadd, 1) := by decide +kernel
theorem dX12_joins_312 : decode cX12_joins 312 = .ok (.dup2, 1) := by decide +kernel
theorem dX12_joins_313 : decode cX12_joins 313 = .ok (.iaload, 1) := by decide +kernel
theorem dX12_joins_314 : decode cX12_joins 314 = .ok (.iload 10, 2) := by decide +kernel
theorem dX12_joins_316 : decode cX12_joins 316 = .ok (.ifCond .ne 7, 3) := by decide +kernel
theorem dX12_joins_319 : decode cX12_joins 319 = .ok (.iconst 0, 1) := by decide +kernel
theorem dX12_joins_320 : decode cX12_joins 320 = .ok (.goto 4, 3) := by decide +kernel
theorem dX12_joins_323 : decode cX12_joins 323 = .ok (.iconst 1, 1) := by decide +kernel
theorem dX12_joins_324 : decode cX12_joins 324 = .ok (.iadd, 1) := by decide +kernel
theorem dX12_joins_325 : decode cX12_joins 325 = .ok (.iastore, 1) := by decide +kernel
theorem dX12_joins_326 : decode cX12_joins 326 = .ok (.iload 10, 2) := by decide +kernel
theorem dX12_joins_328 : decode cX12_joins 328 = .ok (.iconst 2, 1) := by decide +kernel
theorem dX12_joins_329 : decode cX12_joins 329 = .ok (.if_icmp .ne 17, 3) := by decide +kernel
theorem dX12_joins_332 : decode cX12_joins 332 = .ok (.aload_n 0, 1) := by decide +kernel
theorem dX12_joins_333 : decode cX12_joins 333 = .ok (.iload_n 1, 1) := by decide +kernel
theorem dX12_joins_334 : decode cX12_joins 334 = .ok (.iload 7, 2) := by decide +kernel
theorem dX12_joins_336 : decode cX12_joins 336 = .ok (.iload 8, 2) := by decide +kernel
theorem dX12_joins_338 : decode cX12_joins 338 = .ok (.iload 9, 2) := by decide +kernel
theorem dX12_joins_340 : decode cX12_joins 340 = .ok (.invokevirtual 775, 3) := by decide +kernel
theorem dX12_joins_343 : decode cX12_joins 343 = .ok (.iinc 1 1, 3) := by decide +kernel
theorem dX12_joins_346 : decode cX12_joins 346 = .ok (.goto (-299), 3) := by decide +kernel
theorem dX12_joins_349 : decode cX12_joins 349 = .ok (.return_, 1) := by decide +kernel
theorem dX12_join_0 : decode cX12_join 0 = .ok (.aload_n 0, 1) := by decide +kernel
theorem dX12_join_1 : decode cX12_join 1 = .ok (.aload_n 0, 1) := by decide +kernel
theorem dX12_join_2 : decode cX12_join 2 = .ok (.iload_n 1, 1) := by decide +kernel
theorem dX12_join_3 : decode cX12_join 3 = .ok (.invokevirtual 22, 3) := by decide +kernel
theorem dX12_join_6 : decode cX12_join 6 = .ok (.ifCond .eq 23, 3) := by decide +kernel
theorem dX12_join_9 : decode cX12_join 9 = .ok (.aload_n 0, 1) := by decide +kernel
theorem dX12_join_10 : decode cX12_join 10 = .ok (.iload_n 2, 1) := by decide +kernel
theorem dX12_join_11 : decode cX12_join 11 = .ok (.invokevirtual 22, 3) := by decide +kernel
theorem dX12_join_14 : decode cX12_join 14 = .ok (.ifCond .eq 15, 3) := by decide +kernel
theorem dX12_join_17 : decode cX12_join 17 = .ok (.aload_n 0, 1) := by decide +kernel
theorem dX12_join_18 : decode cX12_join 18 = .ok (.iload_n 3, 1) := by decide +kernel
theorem dX12_join_19 : decode cX12_join 19 = .ok (.invokevirtual 22, 3) := by decide +kernel
theorem dX12_join_22 : decode cX12_join 22 = .ok (.ifCond .eq 7, 3) := by decide +kernel
theorem dX12_join_25 : decode cX12_join 25 = .ok (.iconst 1, 1) := by decide +kernel
theorem dX12_join_26 : decode cX12_join 26 = .ok (.goto 4, 3) := by decide +kernel
theorem dX12_join_29 : decode cX12_join 29 = .ok (.iconst 0, 1) := by decide +kernel
theorem dX12_join_30 : decode cX12_join 30 = .ok (.iconst 1, 1) := by decide +kernel
theorem dX12_join_31 : decode cX12_join 31 = .ok (.invokevirtual 456, 3) := by decide +kernel
theorem dX12_join_34 : decode cX12_join 34 = .ok (.ifCond .eq 5, 3) := by decide +kernel
theorem dX12_join_37 : decode cX12_join 37 = .ok (.iconst 0, 1) := by decide +kernel
theorem dX12_join_38 : decode cX12_join 38 = .ok (.ireturn, 1) := by decide +kernel
theorem dX12_join_39 : decode cX12_join 39 = .ok (.aload_n 0, 1) := by decide +kernel
theorem dX12_join_40 : decode cX12_join 40 = .ok (.iload_n 1, 1) := by decide +kernel
theorem dX12_join_41 : decode cX12_join 41 = .ok (.putfield 765, 3) := by decide +kernel
theorem dX12_join_44 : decode cX12_join 44 = .ok (.aload_n 0, 1) := by decide +kernel
theorem dX12_join_45 : decode cX12_join 45 = .ok (.iload_n 2, 1) := by decide +kernel
theorem dX12_join_46 : decode cX12_join 46 = .ok (.putfield 756, 3) := by decide +kernel
theorem dX12_join_49 : decode cX12_join 49 = .ok (.aload_n 0, 1) := by decide +kernel
theorem dX12_join_50 : decode cX12_join 50 = .ok (.iload_n 3, 1) := by decide +kernel
theorem dX12_join_51 : decode cX12_join 51 = .ok (.putfield 759, 3) := by decide +kernel
theorem dX12_join_54 : decode cX12_join 54 = .ok (.aload_n 0, 1) := by decide +kernel
theorem dX12_join_55 : decode cX12_join 55 = .ok (.invokevirtual 787, 3) := by decide +kernel
theorem dX12_join_58 : decode cX12_join 58 = .ok (.aload_n 0, 1) := by decide +kernel
theorem dX12_join_59 : decode cX12_join 59 = .ok (.getfield 768, 3) := by decide +kernel
theorem dX12_join_62 : decode cX12_join 62 = .ok (.ifCond .ne 36, 3) := by decide +kernel
theorem dX12_join_65 : decode cX12_join 65 = .ok (.aload_n 0, 1) := by decide +kernel
theorem dX12_join_66 : decode cX12_join 66 = .ok (.aload_n 0, 1) := by decide +kernel
theorem dX12_join_67 : decode cX12_join 67 = .ok (.bipush 40, 2) := by decide +kernel
theorem dX12_join_69 : decode cX12_join 69 = .ok (.invokevirtual 601, 3) := by decide +kernel
theorem dX12_join_72 : decode cX12_join 72 = .ok (.ifCond .eq 16, 3) := by decide +kernel
theorem dX12_join_75 : decode cX12_join 75 = .ok (.aload_n 0, 1) := by decide +kernel
theorem dX12_join_76 : decode cX12_join 76 = .ok (.getfield 15, 3) := by decide +kernel
theorem dX12_join_79 : decode cX12_join 79 = .ok (.bipush 40, 2) := by decide +kernel
theorem dX12_join_81 : decode cX12_join 81 = .ok (.if_icmp .ge 7, 3) := by decide +kernel
theorem dX12_join_84 : decode cX12_join 84 = .ok (.iconst 1, 1) := by decide +kernel
theorem dX12_join_85 : decode cX12_join 85 = .ok (.goto 4, 3) := by decide +kernel
theorem dX12_join_88 : decode cX12_join 88 = .ok (.iconst 0, 1) := by decide +kernel
theorem dX12_join_89 : decode cX12_join 89 = .ok (.iconst 2, 1) := by decide +kernel
theorem dX12_join_90 : decode cX12_join 90 = .ok (.invokevirtual 456, 3) := by decide +kernel
theorem dX12_join_93 : decode cX12_join 93 = .ok (.ifCond .eq 5, 3) := by decide +kernel
theorem dX12_join_96 : decode cX12_join 96 = .ok (.iconst 0, 1) := by decide +kernel
theorem dX12_join_97 : decode cX12_join 97 = .ok (.ireturn, 1) := by decide +kernel
theorem dX12_join_98 : decode cX12_join 98 = .ok (.aload_n 0, 1) := by decide +kernel
theorem dX12_join_99 : decode cX12_join 99 = .ok (.aload_n 0, 1) := by decide +kernel
theorem dX12_join_100 : decode cX12_join 100 = .ok (.getfield 768, 3) := by decide +kernel
theorem dX12_join_103 : decode cX12_join 103 = .ok (.putfield 790, 3) := by decide +kernel
theorem dX12_join_106 : decode cX12_join 106 = .ok (.iconst 0, 1) := by decide +kernel
theorem dX12_join_107 : decode cX12_join 107 = .ok (.istore 4, 2) := by decide +kernel
theorem dX12_join_109 : decode cX12_join 109 = .ok (.iload 4, 2) := by decide +kernel
theorem dX12_join_111 : decode cX12_join 111 = .ok (.aload_n 0, 1) := by decide +kernel
theorem dX12_join_112 : decode cX12_join 112 = .ok (.getfield 768, 3) := by decide +kernel
theorem dX12_join_115 : decode cX12_join 115 = .ok (.if_icmp .gt 23, 3) := by decide +kernel
theorem dX12_join_118 : decode cX12_join 118 = .ok (.aload_n 0, 1) := by decide +kernel
theorem dX12_join_119 : decode cX12_join 119 = .ok (.getfield 339, 3) := by decide +kernel
theorem dX12_join_122 : decode cX12_join 122 = .ok (.iload 4, 2) := by decide +kernel
theorem dX12_join_124 : decode cX12_join 124 = .ok (.aload_n 0, 1) := by decide +kernel
theorem dX12_join_125 : decode cX12_join 125 = .ok (.getfield 346, 3) := by decide +kernel
theorem dX12_join_128 : decode cX12_join 128 = .ok (.iload 4, 2) := by decide +kernel
theorem dX12_join_130 : decode cX12_join 130 = .ok (.iaload, 1) := by decide +kernel
theorem dX12_join_131 : decode cX12_join 131 = .ok (.iastore, 1) := by decide +kernel
theorem dX12_join_132 : decode cX12_join 132 = .ok (.iinc 4 1, 3) := by decide +kernel
theorem dX12_join_135 : decode cX12_join 135 = .ok (.goto (-26), 3) := by decide +kernel
theorem dX12_join_138 : decode cX12_join 138 = .ok (.iconst 0, 1) := by decide +kernel
theorem dX12_join_139 : decode cX12_join 139 = .ok (.istore 4, 2) := by decide +kernel
theorem dX12_join_141 : decode cX12_join 141 = .ok (.iload 4, 2) := by decide +kernel
theorem dX12_join_143 : decode cX12_join 143 = .ok (.aload_n 0, 1) := by decide +kernel
theorem dX12_join_144 : decode cX12_join 144 = .ok (.getfield 346, 3) := by decide +kernel
theorem dX12_join_147 : decode cX12_join 147 = .ok (.aload_n 0, 1) := by decide +kernel
theorem dX12_join_148 : decode cX12_join 148 = .ok (.getfield 768, 3) := by decide +kernel
theorem dX12_join_151 : decode cX12_join 151 = .ok (.iaload, 1) := by decide +kernel
theorem dX12_join_152 : decode cX12_join 152 = .ok (.if_icmp .ge 23, 3) := by decide +kernel
theorem dX12_join_155 : decode cX12_join 155 = .ok (.aload_n 0, 1) := by decide +kernel
theorem dX12_join_156 : decode cX12_join 156 = .ok (.getfield 343, 3) := by decide +kernel
theorem dX12_join_159 : decode cX12_join 159 = .ok (.iload 4, 2) := by decide +kernel
theorem dX12_join_161 : decode cX12_join 161 = .ok (.aload_n 0, 1) := by decide +kernel
theorem dX12_join_162 : decode cX12_join 162 = .ok (.getfield 349, 3) := by decide +kernel
theorem dX12_join_165 : decode cX12_join 165 = .ok (.iload 4, 2) := by decide +kernel
theorem dX12_join_167 : decode cX12_join 167 = .ok (.iaload, 1) := by decide +kernel
theorem dX12_join_168 : decode cX12_join 168 = .ok (.iastore, 1) := by decide +kernel
theorem dX12_join_169 : decode cX12_join 169 = .ok (.iinc 4 1, 3) := by decide +kernel
theorem dX12_join_172 : decode cX12_join 172 = .ok (.goto (-31), 3) := by decide +kernel
theorem dX12_join_175 : decode cX12_join 175 = .ok (.aload_n 0, 1) := by decide +kernel
theorem dX12_join_176 : decode cX12_join 176 = .ok (.getfield 768, 3) := by decide +kernel
theorem dX12_join_179 : decode cX12_join 179 = .ok (.ifCond .le 7, 3) := by decide +kernel
theorem dX12_join_182 : decode cX12_join 182 = .ok (.iconst (-1), 1) := by decide +kernel
theorem dX12_join_183 : decode cX12_join 183 = .ok (.goto 9, 3) := by decide +kernel
theorem dX12_join_186 : decode cX12_join 186 = .ok (.aload_n 0, 1) := by decide +kernel
theorem dX12_join_187 : decode cX12_join 187 = .ok (.bipush 40, 2) := by decide +kernel
theorem dX12_join_189 : decode cX12_join 189 = .ok (.invokevirtual 536, 3) := by decide +kernel
theorem dX12_join_192 : decode cX12_join 192 = .ok (.ireturn, 1) := by decide +kernel
theorem dX12_quarrels_0 : decode cX12_quarrels 0 = .ok (.aload_n 0, 1) := by decide +kernel
theorem dX12_quarrels_1 : decode cX12_quarrels 1 = .ok (.iconst 0, 1) := by decide +kernel
theorem dX12_quarrels_2 : decode cX12_quarrels 2 = .ok (.putfield 1, 3) := by decide +kernel
theorem dX12_quarrels_5 : decode cX12_quarrels 5 = .ok (.aload_n 0, 1) := by decide +kernel
theorem dX12_quarrels_6 : decode cX12_quarrels 6 = .ok (.getfield 790, 3) := by decide +kernel
theorem dX12_quarrels_9 : decode cX12_quarrels 9 = .ok (.ireturn, 1) := by decide +kernel
theorem dX12_quarrel_0 : decode cX12_quarrel 0 = .ok (.aload_n 0, 1) := by decide +kernel
theorem dX12_quarrel_1 : decode cX12_quarrel 1 = .ok (.iload_n 1, 1) := by decide +kernel
theorem dX12_quarrel_2 : decode cX12_quarrel 2 = .ok (.iconst 0, 1) := by decide +kernel
theorem dX12_quarrel_3 : decode cX12_quarrel 3 = .ok (.aload_n 0, 1) := by decide +kernel
theorem dX12_quarrel_4 : decode cX12_quarrel 4 = .ok (.getfield 790, 3) := by decide +kernel
theorem dX12_quarrel_7 : decode cX12_quarrel 7 = .ok (.iconst 1, 1) := by decide +kernel
theorem dX12_quarrel_8 : decode cX12_quarrel 8 = .ok (.isub, 1) := by decide +kernel
theorem dX12_quarrel_9 : decode cX12_quarrel 9 = .ok (.invokestatic 18, 3) := by decide +kernel
theorem dX12_quarrel_12 : decode cX12_quarrel 12 = .ok (.iconst 1, 1) := by decide +kernel
theorem dX12_quarrel_13 : decode cX12_quarrel 13 = .ok (.invokevirtual 456, 3) := by decide +kernel
theorem dX12_quarrel_16 : decode cX12_quarrel 16 = .ok (.ifCond .eq 5, 3) := by decide +kernel
theorem dX12_quarrel_19 : decode cX12_quarrel 19 = .ok (.iconst 0, 1) := by decide +kernel
theorem dX12_quarrel_20 : decode cX12_quarrel 20 = .ok (.ireturn, 1) := by decide +kernel
theorem dX12_quarrel_21 : decode cX12_quarrel 21 = .ok (.aload_n 0, 1) := by decide +kernel
theorem dX12_quarrel_22 : decode cX12_quarrel 22 = .ok (.getfield 272, 3) := by decide +kernel
theorem dX12_quarrel_25 : decode cX12_quarrel 25 = .ok (.iconst 0, 1) := by decide +kernel
theorem dX12_quarrel_26 : decode cX12_quarrel 26 = .ok (.iconst 0, 1) := by decide +kernel
theorem dX12_quarrel_27 : decode cX12_quarrel 27 = .ok (.iastore, 1) := by decide +kernel
theorem dX12_quarrel_28 : decode cX12_quarrel 28 = .ok (.aload_n 0, 1) := by decide +kernel
theorem dX12_quarrel_29 : decode cX12_quarrel 29 = .ok (.getfield 339, 3) := by decide +kernel
theorem dX12_quarrel_32 : decode cX12_quarrel 32 = .ok (.iload_n 1, 1) := by decide +kernel
theorem dX12_quarrel_33 : decode cX12_quarrel 33 = .ok (.iaload, 1) := by decide +kernel
theorem dX12_quarrel_34 : decode cX12_quarrel 34 = .ok (.istore_n 2, 1) := by decide +kernel
theorem dX12_quarrel_35 : decode cX12_quarrel 35 = .ok (.iload_n 2, 1) := by decide +kernel
theorem dX12_quarrel_36 : decode cX12_quarrel 36 = .ok (.aload_n 0, 1) := by decide +kernel
theorem dX12_quarrel_37 : decode cX12_quarrel 37 = .ok (.getfield 339, 3) := by decide +kernel
theorem dX12_quarrel_40 : decode cX12_quarrel 40 = .ok (.iload_n 1, 1) := by decide +kernel
theorem dX12_quarrel_41 : decode cX12_quarrel 41 = .ok (.iconst 1, 1) := by decide +kernel
theorem dX12_quarrel_42 : decode cX12_quarrel 42 = .ok (.iadd, 1) := by decide +kernel
theorem dX12_quarrel_43 : decode cX12_quarrel 43 = .ok (.iaload, 1) := by decide +kernel
theorem dX12_quarrel_44 : decode cX12_quarrel 44 = .ok (.if_icmp .ge 20, 3) := by decide +kernel
theorem dX12_quarrel_47 : decode cX12_quarrel 47 = .ok (.aload_n 0, 1) := by decide +kernel
theorem dX12_quarrel_48 : decode cX12_quarrel 48 = .ok (.iconst 0, 1) := by decide +kernel
theorem dX12_quarrel_49 : decode cX12_quarrel 49 = .ok (.aload_n 0, 1) := by decide +kernel
theorem dX12_quarrel_50 : decode cX12_quarrel 50 = .ok (.getfield 343, 3) := by decide +kernel
theorem dX12_quarrel_53 : decode cX12_quarrel 53 = .ok (.iload_n 2, 1) := by decide +kernel
theorem dX12_quarrel_54 : decode cX12_quarrel 54 = .ok (.iaload, 1) := by decide +kernel
theorem dX12_quarrel_55 : decode cX12_quarrel 55 = .ok (.invokevirtual 551, 3) := by decide +kernel
theorem dX12_quarrel_58 : decode cX12_quarrel 58 = .ok (.iinc 2 1, 3) := by decide +kernel
theorem dX12_quarrel_61 : decode cX12_quarrel 61 = .ok (.goto (-26), 3) := by decide +kernel
theorem dX12_quarrel_64 : decode cX12_quarrel 64 = .ok (.aload_n 0, 1) := by decide +kernel
theorem dX12_quarrel_65 : decode cX12_quarrel 65 = .ok (.invokevirtual 577, 3) := by decide +kernel
theorem dX12_quarrel_68 : decode cX12_quarrel 68 = .ok (.ireturn, 1) := by decide +kernel
theorem dX12_standard_0 : decode cX12_standard 0 = .ok (.aload_n 0, 1) := by decide +kernel
theorem dX12_standard_1 : decode cX12_standard 1 = .ok (.aload_n 0, 1) := by decide +kernel
theorem dX12_standard_2 : decode cX12_standard 2 = .ok (.getfield 15, 3) := by decide +kernel
theorem dX12_standard_5 : decode cX12_standard 5 = .ok (.bipush 40, 2) := by decide +kernel
theorem dX12_standard_7 : decode cX12_standard 7 = .ok (.if_icmp .ge 7, 3) := by decide +kernel
theorem dX12_standard_10 : decode cX12_standard 10 = .ok (.iconst 1, 1) := by decide +kernel
theorem dX12_standard_11 : decode cX12_standard 11 = .ok (.goto 4, 3) := by decide +kernel
theorem dX12_standard_14 : decode cX12_standard 14 = .ok (.iconst 0, 1) := by decide +kernel
theorem dX12_standard_15 : decode cX12_standard 15 = .ok (.iconst 1, 1) := by decide +kernel
theorem dX12_standard_16 : decode cX12_standard 16 = .ok (.invokevirtual 456, 3) := by decide +kernel
theorem dX12_standard_19 : decode cX12_standard 19 = .ok (.ifCond .eq 7, 3) := by decide +kernel
theorem dX12_standard_22 : decode cX12_standard 22 = .ok (.iconst 0, 1) := by decide +kernel
theorem dX12_standard_23 : decode cX12_standard 23 = .ok (.goto 9, 3) := by decide +kernel
theorem dX12_standard_26 : decode cX12_standard 26 = .ok (.aload_n 0, 1) := by decide +kernel
theorem dX12_standard_27 : decode cX12_standard 27 = .ok (.bipush 45, 2) := by decide +kernel
theorem dX12_standard_29 : decode cX12_standard 29 = .ok (.invokevirtual 536, 3) := by decide +kernel
theorem dX12_standard_32 : decode cX12_standard 32 = .ok (.ireturn, 1) := by decide +kernel
theorem dX12_complains_0 : decode cX12_complains 0 = .ok (.aload_n 0, 1) := by decide +kernel
theorem dX12_complains_1 : decode cX12_complains 1 = .ok (.getfield 433, 3) := by decide +kernel
theorem dX12_complains_4 : decode cX12_complains 4 = .ok (.aload_n 0, 1) := by decide +kernel
theorem dX12_complains_5 : decode cX12_complains 5 = .ok (.getfield 793, 3) := by decide +kernel
theorem dX12_complains_8 : decode cX12_complains 8 = .ok (.bipush 32, 2) := by decide +kernel
theorem dX12_complains_10 : decode cX12_complains 10 = .ok (.iload_n 1, 1) := by decide +kernel
theorem dX12_complains_11 : decode cX12_complains 11 = .ok (.imul, 1) := by decide +kernel
theorem dX12_complains_12 : decode cX12_complains 12 = .ok (.iload_n 2, 1) := by decide +kernel
theorem dX12_complains_13 : decode cX12_complains 13 = .ok (.iadd, 1) := by decide +kernel
theorem dX12_complains_14 : decode cX12_complains 14 = .ok (.iastore, 1) := by decide +kernel
theorem dX12_complains_15 : decode cX12_complains 15 = .ok (.aload_n 0, 1) := by decide +kernel
theorem dX12_complains_16 : decode cX12_complains 16 = .ok (.dup, 1) := by decide +kernel
theorem dX12_complains_17 : decode cX12_complains 17 = .ok (.getfield 793, 3) := by decide +kernel
theorem dX12_complains_20 : decode cX12_complains 20 = .ok (.iconst 1, 1) := by decide +kernel
theorem dX12_complains_21 : decode cX12_complains 21 = .ok (.iadd, 1) := by decide +kernel
theorem dX12_complains_22 : decode cX12_complains 22 = .ok (.putfield 793, 3) := by decide +kernel
theorem dX12_complains_25 : decode cX12_complains 25 = .ok (.return_, 1) := by decide +kernel
theorem dX12_asksOf_0 : decode cX12_asksOf 0 = .ok (.aload_n 0, 1) := by decide +kernel
theorem dX12_asksOf_1 : decode cX12_asksOf 1 = .ok (.dup, 1) := by decide +kernel
theorem dX12_asksOf_2 : decode cX12_asksOf 2 = .ok (.getfield 796, 3) := by decide +kernel
theorem dX12_asksOf_5 : decode cX12_asksOf 5 = .ok (.iconst 1, 1) := by decide +kernel
theorem dX12_asksOf_6 : decode cX12_asksOf 6 = .ok (.iadd, 1) := by decide +kernel
theorem dX12_asksOf_7 : decode cX12_asksOf 7 = .ok (.putfield 796, 3) := by decide +kernel
theorem dX12_asksOf_10 : decode cX12_asksOf 10 = .ok (.aload_n 0, 1) := by decide +kernel
theorem dX12_asksOf_11 : decode cX12_asksOf 11 = .ok (.getfield 402, 3) := by decide +kernel
theorem dX12_asksOf_14 : decode cX12_asksOf 14 = .ok (.aload_n 0, 1) := by decide +kernel
theorem dX12_asksOf_15 : decode cX12_asksOf 15 = .ok (.getfield 799, 3) := by decide +kernel
theorem dX12_asksOf_18 : decode cX12_asksOf 18 = .ok (.iload_n 1, 1) := by decide +kernel
theorem dX12_asksOf_19 : decode cX12_asksOf 19 = .ok (.iastore, 1) := by decide +kernel
theorem dX12_asksOf_20 : decode cX12_asksOf 20 = .ok (.aload_n 0, 1) := by decide +kernel
theorem dX12_asksOf_21 : decode cX12_asksOf 21 = .ok (.getfield 405, 3) := by decide +kernel
theorem dX12_asksOf_24 : decode cX12_asksOf 24 = .ok (.aload_n 0, 1) := by decide +kernel
theorem dX12_asksOf_25 : decode cX12_asksOf 25 = .ok (.getfield 799, 3) := by decide +kernel
theorem dX12_asksOf_28 : decode cX12_asksOf 28 = .ok (.iload_n 2, 1) := by decide +kernel
theorem dX12_asksOf_29 : decode cX12_asksOf 29 = .ok (.iastore, 1) := by decide +kernel
theorem dX12_asksOf_30 : decode cX12_asksOf 30 = .ok (.aload_n 0, 1) := by decide +kernel
theorem dX12_asksOf_31 : decode cX12_asksOf 31 = .ok (.getfield 408, 3) := by decide +kernel
theorem dX12_asksOf_34 : decode cX12_asksOf 34 = .ok (.aload_n 0, 1) := by decide +kernel
theorem dX12_asksOf_35 : decode cX12_asksOf 35 = .ok (.getfield 799, 3) := by decide +kernel
theorem dX12_asksOf_38 : decode cX12_asksOf 38 = .ok (.iconst 1, 1) := by decide +kernel
theorem dX12_asksOf_39 : decode cX12_asksOf 39 = .ok (.iastore, 1) := by decide +kernel
theorem dX12_asksOf_40 : decode cX12_asksOf 40 = .ok (.aload_n 0, 1) := by decide +kernel
theorem dX12_asksOf_41 : decode cX12_asksOf 41 = .ok (.getfield 411, 3) := by decide +kernel
theorem dX12_asksOf_44 : decode cX12_asksOf 44 = .ok (.aload_n 0, 1) := by decide +kernel
theorem dX12_asksOf_45 : decode cX12_asksOf 45 = .ok (.getfield 799, 3) := by decide +kernel
theorem dX12_asksOf_48 : decode cX12_asksOf 48 = .ok (.iconst 0, 1) := by decide +kernel
theorem dX12_asksOf_49 : decode cX12_asksOf 49 = .ok (.iastore, 1) := by decide +kernel
theorem dX12_asksOf_50 : decode cX12_asksOf 50 = .ok (.aload_n 0, 1) := by decide +kernel
theorem dX12_asksOf_51 : decode cX12_asksOf 51 = .ok (.getfield 414, 3) := by decide +kernel
theorem dX12_asksOf_54 : decode cX12_asksOf 54 = .ok (.aload_n 0, 1) := by decide +kernel
theorem dX12_asksOf_55 : decode cX12_asksOf 55 = .ok (.getfield 799, 3) := by decide +kernel
theorem dX12_asksOf_58 : decode cX12_asksOf 58 = .ok (.aload_n 0, 1) := by decide +kernel
theorem dX12_asksOf_59 : decode cX12_asksOf 59 = .ok (.getfield 793, 3) := by decide +kernel
theorem dX12_asksOf_62 : decode cX12_asksOf 62 = .ok (.iastore, 1) := by decide +kernel
theorem dX12_asksOf_63 : decode cX12_asksOf 63 = .ok (.aload_n 0, 1) := by decide +kernel
theorem dX12_asksOf_64 : decode cX12_asksOf 64 = .ok (.getfield 420, 3) := by decide +kernel
theorem dX12_asksOf_67 : decode cX12_asksOf 67 = .ok (.aload_n 0, 1) := by decide +kernel
theorem dX12_asksOf_68 : decode cX12_asksOf 68 = .ok (.getfield 799, 3) := by decide +kernel
theorem dX12_asksOf_71 : decode cX12_asksOf 71 = .ok (.iconst 0, 1) := by decide +kernel
theorem dX12_asksOf_72 : decode cX12_asksOf 72 = .ok (.iastore, 1) := by decide +kernel
theorem dX12_asksOf_73 : decode cX12_asksOf 73 = .ok (.aload_n 0, 1) := by decide +kernel
theorem dX12_asksOf_74 : decode cX12_asksOf 74 = .ok (.getfield 423, 3) := by decide +kernel
theorem dX12_asksOf_77 : decode cX12_asksOf 77 = .ok (.aload_n 0, 1) := by decide +kernel
theorem dX12_asksOf_78 : decode cX12_asksOf 78 = .ok (.getfield 799, 3) := by decide +kernel
theorem dX12_asksOf_81 : decode cX12_asksOf 81 = .ok (.iconst 0, 1) := by decide +kernel
theorem dX12_asksOf_82 : decode cX12_asksOf 82 = .ok (.bastore, 1) := by decide +kernel
theorem dX12_asksOf_83 : decode cX12_asksOf 83 = .ok (.aload_n 0, 1) := by decide +kernel
theorem dX12_asksOf_84 : decode cX12_asksOf 84 = .ok (.dup, 1) := by decide +kernel
theorem dX12_asksOf_85 : decode cX12_asksOf 85 = .ok (.getfield 799, 3) := by decide +kernel
theorem dX12_asksOf_88 : decode cX12_asksOf 88 = .ok (.iconst 1, 1) := by decide +kernel
theorem dX12_asksOf_89 : decode cX12_asksOf 89 = .ok (.iadd, 1) := by decide +kernel
theorem dX12_asksOf_90 : decode cX12_asksOf 90 = .ok (.putfield 799, 3) := by decide +kernel
theorem dX12_asksOf_93 : decode cX12_asksOf 93 = .ok (.return_, 1) := by decide +kernel
theorem dX12_isKind_0 : decode cX12_isKind 0 = .ok (.iconst 0, 1) := by decide +kernel
theorem dX12_isKind_1 : decode cX12_isKind 1 = .ok (.istore_n 3, 1) := by decide +kernel
theorem dX12_isKind_2 : decode cX12_isKind 2 = .ok (.iconst 0, 1) := by decide +kernel
theorem dX12_isKind_3 : decode cX12_isKind 3 = .ok (.istore 4, 2) := by decide +kernel
theorem dX12_isKind_5 : decode cX12_isKind 5 = .ok (.iload 4, 2) := by decide +kernel
theorem dX12_isKind_7 : decode cX12_isKind 7 = .ok (.bipush 7, 2) := by decide +kernel
theorem dX12_isKind_9 : decode cX12_isKind 9 = .ok (.if_icmp .ge 89, 3) := by decide +kernel
theorem dX12_isKind_12 : decode cX12_isKind 12 = .ok (.iload_n 3, 1) := by decide +kernel
theorem dX12_isKind_13 : decode cX12_isKind 13 = .ok (.ifCond .ne 73, 3) := by decide +kernel
theorem dX12_isKind_16 : decode cX12_isKind 16 = .ok (.aload_n 0, 1) := by decide +kernel
theorem dX12_isKind_17 : decode cX12_isKind 17 = .ok (.aload_n 0, 1) := by decide +kernel
theorem dX12_isKind_18 : decode cX12_isKind 18 = .ok (.getfield 802, 3) := by decide +kernel
theorem dX12_isKind_21 : decode cX12_isKind 21 = .ok (.iload_n 1, 1) := by decide +kernel
theorem dX12_isKind_22 : decode cX12_isKind 22 = .ok (.aload_n 0, 1) := by decide +kernel
theorem dX12_isKind_23 : decode cX12_isKind 23 = .ok (.getfield 399, 3) := by decide +kernel
theorem dX12_isKind_26 : decode cX12_isKind 26 = .ok (.iload 4, 2) := by decide +kernel
theorem dX12_isKind_28 : decode cX12_isKind 28 = .ok (.laload, 1) := by decide +kernel
theorem dX12_isKind_29 : decode cX12_isKind 29 = .ok (.invokevirtual 690, 3) := by decide +kernel
theorem dX12_isKind_32 : decode cX12_isKind 32 = .ok (.ifCond .eq 58, 3) := by decide +kernel
theorem dX12_isKind_35 : decode cX12_isKind 35 = .ok (.iload 4, 2) := by decide +kernel
theorem dX12_isKind_37 : decode cX12_isKind 37 = .ok (.bipush 6, 2) := by decide +kernel
theorem dX12_isKind_39 : decode cX12_isKind 39 = .ok (.if_icmp .ge 20, 3) := by decide +kernel
theorem dX12_isKind_42 : decode cX12_isKind 42 = .ok (.aload_n 0, 1) := by decide +kernel
theorem dX12_isKind_43 : decode cX12_isKind 43 = .ok (.aload_n 0, 1) := by decide +kernel
theorem dX12_isKind_44 : decode cX12_isKind 44 = .ok (.getfield 805, 3) := by decide +kernel
theorem dX12_isKind_47 : decode cX12_isKind 47 = .ok (.iload_n 2, 1) := by decide +kernel
theorem dX12_isKind_48 : decode cX12_isKind 48 = .ok (.invokevirtual 52, 3) := by decide +kernel
theorem dX12_isKind_51 : decode cX12_isKind 51 = .ok (.iload 4, 2) := by decide +kernel
theorem dX12_isKind_53 : decode cX12_isKind 53 = .ok (.if_icmp .ne 37, 3) := by decide +kernel
theorem dX12_isKind_56 : decode cX12_isKind 56 = .ok (.goto 30, 3) := by decide +kernel
theorem dX12_isKind_59 : decode cX12_isKind 59 = .ok (.aload_n 0, 1) := by decide +kernel
theorem dX12_isKind_60 : decode cX12_isKind 60 = .ok (.aload_n 0, 1) := by decide +kernel
theorem dX12_isKind_61 : decode cX12_isKind 61 = .ok (.getfield 805, 3) := by decide +kernel
theorem dX12_isKind_64 : decode cX12_isKind 64 = .ok (.iload_n 2, 1) := by decide +kernel
theorem dX12_isKind_65 : decode cX12_isKind 65 = .ok (.invokevirtual 52, 3) := by decide +kernel
theorem dX12_isKind_68 : decode cX12_isKind 68 = .ok (.iconst 2, 1) := by decide +kernel
theorem dX12_isKind_69 : decode cX12_isKind 69 = .ok (.if_icmp .ne 21, 3) := by decide +kernel
theorem dX12_isKind_72 : decode cX12_isKind 72 = .ok (.aload_n 0, 1) := by decide +kernel
theorem dX12_isKind_73 : decode cX12_isKind 73 = .ok (.aload_n 0, 1) := by decide +kernel
theorem dX12_isKind_74 : decode cX12_isKind 74 = .ok (.getfield 805, 3) := by decide +kernel
theorem dX12_isKind_77 : decode cX12_isKind 77 = .ok (.iload_n 2, 1) := by decide +kernel
theorem dX12_isKind_78 : decode cX12_isKind 78 = .ok (.bipush 20, 2) := by decide +kernel
theorem dX12_isKind_80 : decode cX12_isKind 80 = .ok (.invokevirtual 36, 3) := by decide +kernel
theorem dX12_isKind_83 : decode cX12_isKind 83 = .ok (.ifCond .lt 7, 3) := by decide +kernel
theorem dX12_isKind_86 : decode cX12_isKind 86 = .ok (.iconst 1, 1) := by decide +kernel
theorem dX12_isKind_87 : decode cX12_isKind 87 = .ok (.goto 4, 3) := by decide +kernel
theorem dX12_isKind_90 : decode cX12_isKind 90 = .ok (.iconst 0, 1) := by decide +kernel
theorem dX12_isKind_91 : decode cX12_isKind 91 = .ok (.istore_n 3, 1) := by decide +kernel
theorem dX12_isKind_92 : decode cX12_isKind 92 = .ok (.iinc 4 1, 3) := by decide +kernel
theorem dX12_isKind_95 : decode cX12_isKind 95 = .ok (.goto (-90), 3) := by decide +kernel
theorem dX12_isKind_98 : decode cX12_isKind 98 = .ok (.iload_n 3, 1) := by decide +kernel
theorem dX12_isKind_99 : decode cX12_isKind 99 = .ok (.ireturn, 1) := by decide +kernel
theorem dX12_beside_0 : decode cX12_beside 0 = .ok (.aload_n 0, 1) := by decide +kernel
theorem dX12_beside_1 : decode cX12_beside 1 = .ok (.bipush 40, 2) := by decide +kernel
theorem dX12_beside_3 : decode cX12_beside 3 = .ok (.invokevirtual 517, 3) := by decide +kernel
theorem dX12_beside_6 : decode cX12_beside 6 = .ok (.aload_n 0, 1) := by decide +kernel
theorem dX12_beside_7 : decode cX12_beside 7 = .ok (.bipush 40, 2) := by decide +kernel
theorem dX12_beside_9 : decode cX12_beside 9 = .ok (.iconst 2, 1) := by decide +kernel
theorem dX12_beside_10 : decode cX12_beside 10 = .ok (.invokevirtual 33, 3) := by decide +kernel
theorem dX12_beside_13 : decode cX12_beside 13 = .ok (.istore_n 3, 1) := by decide +kernel
theorem dX12_beside_14 : decode cX12_beside 14 = .ok (.aload_n 0, 1) := by decide +kernel
theorem dX12_beside_15 : decode cX12_beside 15 = .ok (.getfield 250, 3) := by decide +kernel
theorem dX12_beside_18 : decode cX12_beside 18 = .ok (.iconst 0, 1) := by decide +kernel
theorem dX12_beside_19 : decode cX12_beside 19 = .ok (.iload_n 1, 1) := by decide +kernel
theorem dX12_beside_20 : decode cX12_beside 20 = .ok (.bipush 100, 2) := by decide +kernel
theorem dX12_beside_22 : decode cX12_beside 22 = .ok (.idiv, 1) := by decide +kernel
theorem dX12_beside_23 : decode cX12_beside 23 = .ok (.iastore, 1) := by decide +kernel
theorem dX12_beside_24 : decode cX12_beside 24 = .ok (.aload_n 0, 1) := by decide +kernel
theorem dX12_beside_25 : decode cX12_beside 25 = .ok (.getfield 250, 3) := by decide +kernel
theorem dX12_beside_28 : decode cX12_beside 28 = .ok (.iconst 1, 1) := by decide +kernel
theorem dX12_beside_29 : decode cX12_beside 29 = .ok (.iload_n 1, 1) := by decide +kernel
theorem dX12_beside_30 : decode cX12_beside 30 = .ok (.bipush 10, 2) := by decide +kernel
theorem dX12_beside_32 : decode cX12_beside 32 = .ok (.idiv, 1) := by decide +kernel
theorem dX12_beside_33 : decode cX12_beside 33 = .ok (.bipush 10, 2) := by decide +kernel
theorem dX12_beside_35 : decode cX12_beside 35 = .ok (.irem, 1) := by decide +kernel
theorem dX12_beside_36 : decode cX12_beside 36 = .ok (.iastore, 1) := by decide +kernel
theorem dX12_beside_37 : decode cX12_beside 37 = .ok (.aload_n 0, 1) := by decide +kernel
theorem dX12_beside_38 : decode cX12_beside 38 = .ok (.getfield 250, 3) := by decide +kernel
theorem dX12_beside_41 : decode cX12_beside 41 = .ok (.iconst 2, 1) := by decide +kernel
theorem dX12_beside_42 : decode cX12_beside 42 = .ok (.iload_n 1, 1) := by decide +kernel
theorem dX12_beside_43 : decode cX12_beside 43 = .ok (.bipush 10, 2) := by decide +kernel
theorem dX12_beside_45 : decode cX12_beside 45 = .ok (.irem, 1) := by decide +kernel
theorem dX12_beside_46 : decode cX12_beside 46 = .ok (.iastore, 1) := by decide +kernel
theorem dX12_beside_47 : decode cX12_beside 47 = .ok (.aload_n 0, 1) := by decide +kernel
theorem dX12_beside_48 : decode cX12_beside 48 = .ok (.iload_n 3, 1) := by decide +kernel
theorem dX12_beside_49 : decode cX12_beside 49 = .ok (.iconst 0, 1) := by decide +kernel
theorem dX12_beside_50 : decode cX12_beside 50 = .ok (.iconst 3, 1) := by decide +kernel
theorem dX12_beside_51 : decode cX12_beside 51 = .ok (.iconst 0, 1) := by decide +kernel
theorem dX12_beside_52 : decode cX12_beside 52 = .ok (.invokevirtual 485, 3) := by decide +kernel
theorem dX12_beside_55 : decode cX12_beside 55 = .ok (.istore 4, 2) := by decide +kernel
theorem dX12_beside_57 : decode cX12_beside 57 = .ok (.aload_n 0, 1) := by decide +kernel
theorem dX12_beside_58 : decode cX12_beside 58 = .ok (.bipush 40, 2) := by decide +kernel
theorem dX12_beside_60 : decode cX12_beside 60 = .ok (.iload_n 3, 1) := by decide +kernel
theorem dX12_beside_61 : decode cX12_beside 61 = .ok (.aload_n 0, 1) := by decide +kernel
theorem dX12_beside_62 : decode cX12_beside 62 = .ok (.getfield 802, 3) := by decide +kernel
theorem dX12_beside_65 : decode cX12_beside 65 = .ok (.iload_n 2, 1) := by decide +kernel
theorem dX12_beside_66 : decode cX12_beside 66 = .ok (.invokevirtual 594, 3) := by decide +kernel
theorem dX12_beside_69 : decode cX12_beside 69 = .ok (.ireturn, 1) := by decide +kernel
theorem dX12_wordOfText_0 : decode cX12_wordOfText 0 = .ok (.aload_n 0, 1) := by decide +kernel
theorem dX12_wordOfText_1 : decode cX12_wordOfText 1 = .ok (.aload_n 0, 1) := by decide +kernel
theorem dX12_wordOfText_2 : decode cX12_wordOfText 2 = .ok (.iload_n 1, 1) := by decide +kernel
theorem dX12_wordOfText_3 : decode cX12_wordOfText 3 = .ok (.iload_n 2, 1) := by decide +kernel
theorem dX12_wordOfText_4 : decode cX12_wordOfText 4 = .ok (.bipush 18, 2) := by decide +kernel
theorem dX12_wordOfText_6 : decode cX12_wordOfText 6 = .ok (.invokevirtual 36, 3) := by decide +kernel
theorem dX12_wordOfText_9 : decode cX12_wordOfText 9 = .ok (.putfield 66, 3) := by decide +kernel
theorem dX12_wordOfText_12 : decode cX12_wordOfText 12 = .ok (.iconst 0, 1) := by decide +kernel
theorem dX12_wordOfText_13 : decode cX12_wordOfText 13 = .ok (.istore_n 3, 1) := by decide +kernel
theorem dX12_wordOfText_14 : decode cX12_wordOfText 14 = .ok (.iload_n 3, 1) := by decide +kernel
theorem dX12_wordOfText_15 : decode cX12_wordOfText 15 = .ok (.aload_n 0, 1) := by decide +kernel
theorem dX12_wordOfText_16 : decode cX12_wordOfText 16 = .ok (.getfield 66, 3) := by decide +kernel
theorem dX12_wordOfText_19 : decode cX12_wordOfText 19 = .ok (.if_icmp .ge 25, 3) := by decide +kernel
theorem dX12_wordOfText_22 : decode cX12_wordOfText 22 = .ok (.aload_n 0, 1) := by decide +kernel
theorem dX12_wordOfText_23 : decode cX12_wordOfText 23 = .ok (.getfield 69, 3) := by decide +kernel
theorem dX12_wordOfText_26 : decode cX12_wordOfText 26 = .ok (.iload_n 3, 1) := by decide +kernel
theorem dX12_wordOfText_27 : decode cX12_wordOfText 27 = .ok (.aload_n 0, 1) := by decide +kernel
theorem dX12_wordOfText_28 : decode cX12_wordOfText 28 = .ok (.iload_n 1, 1) := by decide +kernel
theorem dX12_wordOfText_29 : decode cX12_wordOfText 29 = .ok (.iload_n 2, 1) := by decide +kernel
theorem dX12_wordOfText_30 : decode cX12_wordOfText 30 = .ok (.bipush 21, 2) := by decide +kernel
theorem dX12_wordOfText_32 : decode cX12_wordOfText 32 = .ok (.iload_n 3, 1) := by decide +kernel
theorem dX12_wordOfText_33 : decode cX12_wordOfText 33 = .ok (.iadd, 1) := by decide +kernel
theorem dX12_wordOfText_34 : decode cX12_wordOfText 34 = .ok (.invokevirtual 36, 3) := by decide +kernel
theorem dX12_wordOfText_37 : decode cX12_wordOfText 37 = .ok (.iastore, 1) := by decide +kernel
theorem dX12_wordOfText_38 : decode cX12_wordOfText 38 = .ok (.iinc 3 1, 3) := by decide +kernel
theorem dX12_wordOfText_41 : decode cX12_wordOfText 41 = .ok (.goto (-27), 3) := by decide +kernel
theorem dX12_wordOfText_44 : decode cX12_wordOfText 44 = .ok (.return_, 1) := by decide +kernel
theorem dX12_says__0 : decode cX12_says_ 0 = .ok (.aload_n 0, 1) := by decide +kernel
theorem dX12_says__1 : decode cX12_says_ 1 = .ok (.aload_n 0, 1) := by decide +kernel
theorem dX12_says__2 : decode cX12_says_ 2 = .ok (.getfield 805, 3) := by decide +kernel
theorem dX12_says__5 : decode cX12_says_ 5 = .ok (.iload_n 3, 1) := by decide +kernel
theorem dX12_says__6 : decode cX12_says_ 6 = .ok (.invokevirtual 52, 3) := by decide +kernel
theorem dX12_says__9 : decode cX12_says_ 9 = .ok (.istore 4, 2) := by decide +kernel
theorem dX12_says__11 : decode cX12_says_ 11 = .ok (.iload 4, 2) := by decide +kernel
theorem dX12_says__13 : decode cX12_says_ 13 = .ok (.iconst 3, 1) := by decide +kernel
theorem dX12_says__14 : decode cX12_says_ 14 = .ok (.if_icmp .ne 17, 3) := by decide +kernel
theorem dX12_says__17 : decode cX12_says_ 17 = .ok (.aload_n 0, 1) := by decide +kernel
theorem dX12_says__18 : decode cX12_says_ 18 = .ok (.aload_n 0, 1) := by decide +kernel
theorem dX12_says__19 : decode cX12_says_ 19 = .ok (.getfield 805, 3) := by decide +kernel
theorem dX12_says__22 : decode cX12_says_ 22 = .ok (.iload_n 3, 1) := by decide +kernel
theorem dX12_says__23 : decode cX12_says_ 23 = .ok (.bipush 18, 2) := by decide +kernel
theorem dX12_says__25 : decode cX12_says_ 25 = .ok (.invokevirtual 36, 3) := by decide +kernel
theorem dX12_says__28 : decode cX12_says_ 28 = .ok (.goto 13, 3) := by decide +kernel
theorem dX12_says__31 : decode cX12_says_ 31 = .ok (.aload_n 0, 1) := by decide +kernel
theorem dX12_says__32 : decode cX12_says_ 32 = .ok (.aload_n 0, 1) := by decide +kernel
theorem dX12_says__33 : decode cX12_says_ 33 = .ok (.getfield 805, 3) := by decide +kernel
theorem dX12_says__36 : decode cX12_says_ 36 = .ok (.iload_n 3, 1) := by decide +kernel
theorem dX12_says__37 : decode cX12_says_ 37 = .ok (.iconst 3, 1) := by decide +kernel
theorem dX12_says__38 : decode cX12_says_ 38 = .ok (.invokevirtual 36, 3) := by decide +kernel
theorem dX12_says__41 : decode cX12_says_ 41 = .ok (.istore 5, 2) := by decide +kernel
theorem dX12_says__43 : decode cX12_says_ 43 = .ok (.iconst 1, 1) := by decide +kernel
theorem dX12_says__44 : decode cX12_says_ 44 = .ok (.istore 6, 2) := by decide +kernel
theorem dX12_says__46 : decode cX12_says_ 46 = .ok (.iload_n 1, 1) := by decide +kernel
theorem dX12_says__47 : decode cX12_says_ 47 = .ok (.iconst 1, 1) := by decide +kernel
theorem dX12_says__48 : decode cX12_says_ 48 = .ok (.if_icmp .ne 69, 3) := by decide +kernel
theorem dX12_says__51 : decode cX12_says_ 51 = .ok (.aload_n 0, 1) := by decide +kernel
theorem dX12_says__52 : decode cX12_says_ 52 = .ok (.iload_n 2, 1) := by decide +kernel
theorem dX12_says__53 : decode cX12_says_ 53 = .ok (.iload_n 3, 1) := by decide +kernel
theorem dX12_says__54 : decode cX12_says_ 54 = .ok (.invokevirtual 808, 3) := by decide +kernel
theorem dX12_says__57 : decode cX12_says_ 57 = .ok (.istore 6, 2) := by decide +kernel
theorem dX12_says__59 : decode cX12_says_ 59 = .ok (.iconst 0, 1) := by decide +kernel
theorem dX12_says__60 : decode cX12_says_ 60 = .ok (.istore 7, 2) := by decide +kernel
theorem dX12_says__62 : decode cX12_says_ 62 = .ok (.iload 7, 2) := by decide +kernel
theorem dX12_says__64 : decode cX12_says_ 64 = .ok (.aload_n 0, 1) := by decide +kernel
theorem dX12_says__65 : decode cX12_says_ 65 = .ok (.aload_n 0, 1) := by decide +kernel
theorem dX12_says__66 : decode cX12_says_ 66 = .ok (.getfield 802, 3) := by decide +kernel
theorem dX12_says__69 : decode cX12_says_ 69 = .ok (.iload_n 2, 1) := by decide +kernel
theorem dX12_says__70 : decode cX12_says_ 70 = .ok (.iconst 3, 1) := by decide +kernel
theorem dX12_says__71 : decode cX12_says_ 71 = .ok (.invokevirtual 36, 3) := by decide +kernel
theorem dX12_says__74 : decode cX12_says_ 74 = .ok (.if_icmp .ge 40, 3) := by decide +kernel
theorem dX12_says__77 : decode cX12_says_ 77 = .ok (.iload 6, 2) := by decide +kernel
theorem dX12_says__79 : decode cX12_says_ 79 = .ok (.ifCond .ne 22, 3) := by decide +kernel
theorem dX12_says__82 : decode cX12_says_ 82 = .ok (.aload_n 0, 1) := by decide +kernel
theorem dX12_says__83 : decode cX12_says_ 83 = .ok (.aload_n 0, 1) := by decide +kernel
theorem dX12_says__84 : decode cX12_says_ 84 = .ok (.aload_n 0, 1) := by decide +kernel
theorem dX12_says__85 : decode cX12_says_ 85 = .ok (.getfield 802, 3) := by decide +kernel
theorem dX12_says__88 : decode cX12_says_ 88 = .ok (.iload_n 2, 1) := by decide +kernel
theorem dX12_says__89 : decode cX12_says_ 89 = .ok (.iload 7, 2) := by decide +kernel
theorem dX12_says__91 : decode cX12_says_ 91 = .ok (.invokevirtual 616, 3) := by decide +kernel
theorem dX12_says__94 : decode cX12_says_ 94 = .ok (.iload_n 3, 1) := by decide +kernel
theorem dX12_says__95 : decode cX12_says_ 95 = .ok (.invokevirtual 808, 3) := by decide +kernel
theorem dX12_says__98 : decode cX12_says_ 98 = .ok (.ifCond .eq 7, 3) := by decide +kernel
theorem dX12_says__101 : decode cX12_says_ 101 = .ok (.iconst 1, 1) := by decide +kernel
theorem dX12_says__102 : decode cX12_says_ 102 = .ok (.goto 4, 3) := by decide +kernel
theorem dX12_says__105 : decode cX12_says_ 105 = .ok (.iconst 0, 1) := by decide +kernel
theorem dX12_says__106 : decode cX12_says_ 106 = .ok (.istore 6, 2) := by decide +kernel
theorem dX12_says__108 : decode cX12_says_ 108 = .ok (.iinc 7 1, 3) := by decide +kernel
theorem dX12_says__111 : decode cX12_says_ 111 = .ok (.goto (-49), 3) := by decide +kernel
theorem dX12_says__114 : decode cX12_says_ 114 = .ok (.goto 285, 3) := by decide +kernel
theorem dX12_says__117 : decode cX12_says_ 117 = .ok (.iload_n 1, 1) := by decide +kernel
theorem dX12_says__118 : decode cX12_says_ 118 = .ok (.iconst 2, 1) := by decide +kernel
theorem dX12_says__119 : decode cX12_says_ 119 = .ok (.if_icmp .ne 36, 3) := by decide +kernel
theorem dX12_says__122 : decode cX12_says_ 122 = .ok (.iload 4, 2) := by decide +kernel
theorem dX12_says__124 : decode cX12_says_ 124 = .ok (.iconst 2, 1) := by decide +kernel
theorem dX12_says__125 : decode cX12_says_ 125 = .ok (.if_icmp .ne 20, 3) := by decide +kernel
theorem dX12_says__128 : decode cX12_says_ 128 = .ok (.aload_n 0, 1) := by decide +kernel
theorem dX12_says__129 : decode cX12_says_ 129 = .ok (.aload_n 0, 1) := by decide +kernel
theorem dX12_says__130 : decode cX12_says_ 130 = .ok (.getfield 805, 3) := by decide +kernel
theorem dX12_says__133 : decode cX12_says_ 133 = .ok (.iload_n 3, 1) := by decide +kernel
theorem dX12_says__134 : decode cX12_says_ 134 = .ok (.aload_n 0, 1) := by decide +kernel
theorem dX12_says__135 : decode cX12_says_ 135 = .ok (.getfield 802, 3) := by decide +kernel
theorem dX12_says__138 : decode cX12_says_ 138 = .ok (.iload_n 2, 1) := by decide +kernel
theorem dX12_says__139 : decode cX12_says_ 139 = .ok (.invokevirtual 594, 3) := by decide +kernel
theorem dX12_says__142 : decode cX12_says_ 142 = .ok (.ifCond .lt 7, 3) := by decide +kernel
theorem dX12_says__145 : decode cX12_says_ 145 = .ok (.iconst 1, 1) := by decide +kernel
theorem dX12_says__146 : decode cX12_says_ 146 = .ok (.goto 4, 3) := by decide +kernel
theorem dX12_says__149 : decode cX12_says_ 149 = .ok (.iconst 0, 1) := by decide +kernel
theorem dX12_says__150 : decode cX12_says_ 150 = .ok (.istore 6, 2) := by decide +kernel
theorem dX12_says__152 : decode cX12_says_ 152 = .ok (.goto 247, 3) := by decide +kernel
theorem dX12_says__155 : decode cX12_says_ 155 = .ok (.iload_n 1, 1) := by decide +kernel
theorem dX12_says__156 : decode cX12_says_ 156 = .ok (.iconst 3, 1) := by decide +kernel
theorem dX12_says__157 : decode cX12_says_ 157 = .ok (.if_icmp .ne 36, 3) := by decide +kernel
theorem dX12_says__160 : decode cX12_says_ 160 = .ok (.iload 4, 2) := by decide +kernel
theorem dX12_says__162 : decode cX12_says_ 162 = .ok (.iconst 2, 1) := by decide +kernel
theorem dX12_says__163 : decode cX12_says_ 163 = .ok (.if_icmp .ne 20, 3) := by decide +kernel
theorem dX12_says__166 : decode cX12_says_ 166 = .ok (.aload_n 0, 1) := by decide +kernel
theorem dX12_says__167 : decode cX12_says_ 167 = .ok (.aload_n 0, 1) := by decide +kernel
theorem dX12_says__168 : decode cX12_says_ 168 = .ok (.getfield 805, 3) := by decide +kernel
theorem dX12_says__171 : decode cX12_says_ 171 = .ok (.iload_n 3, 1) := by decide +kernel
theorem dX12_says__172 : decode cX12_says_ 172 = .ok (.aload_n 0, 1) := by decide +kernel
theorem dX12_says__173 : decode cX12_says_ 173 = .ok (.getfield 802, 3) := by decide +kernel
theorem dX12_says__176 : decode cX12_says_ 176 = .ok (.iload_n 2, 1) := by decide +kernel
theorem dX12_says__177 : decode cX12_says_ 177 = .ok (.invokevirtual 594, 3) := by decide +kernel
theorem dX12_says__180 : decode cX12_says_ 180 = .ok (.ifCond .gt 7, 3) := by decide +kernel
theorem dX12_says__183 : decode cX12_says_ 183 = .ok (.iconst 1, 1) := by decide +kernel
theorem dX12_says__184 : decode cX12_says_ 184 = .ok (.goto 4, 3) := by decide +kernel
theorem dX12_says__187 : decode cX12_says_ 187 = .ok (.iconst 0, 1) := by decide +kernel
theorem dX12_says__188 : decode cX12_says_ 188 = .ok (.istore 6, 2) := by decide +kernel
theorem dX12_says__190 : decode cX12_says_ 190 = .ok (.goto 209, 3) := by decide +kernel
theorem dX12_says__193 : decode cX12_says_ 193 = .ok (.iload_n 1, 1) := by decide +kernel
theorem dX12_says__194 : decode cX12_says_ 194 = .ok (.iconst 4, 1) := by decide +kernel
theorem dX12_says__195 : decode cX12_says_ 195 = .ok (.if_icmp .ne 29, 3) := by decide +kernel
theorem dX12_says__198 : decode cX12_says_ 198 = .ok (.iload 4, 2) := by decide +kernel
theorem dX12_says__200 : decode cX12_says_ 200 = .ok (.iconst 3, 1) := by decide +kernel
theorem dX12_says__201 : decode cX12_says_ 201 = .ok (.if_icmp .lt 13, 3) := by decide +kernel
theorem dX12_says__204 : decode cX12_says_ 204 = .ok (.aload_n 0, 1) := by decide +kernel
theorem dX12_says__205 : decode cX12_says_ 205 = .ok (.iload 5, 2) := by decide +kernel
theorem dX12_says__207 : decode cX12_says_ 207 = .ok (.iload_n 2, 1) := by decide +kernel
theorem dX12_says__208 : decode cX12_says_ 208 = .ok (.invokevirtual 811, 3) := by decide +kernel
theorem dX12_says__211 : decode cX12_says_ 211 = .ok (.ifCond .lt 7, 3) := by decide +kernel
theorem dX12_says__214 : decode cX12_says_ 214 = .ok (.iconst 1, 1) := by decide +kernel
theorem dX12_says__215 : decode cX12_says_ 215 = .ok (.goto 4, 3) := by decide +kernel
theorem dX12_says__218 : decode cX12_says_ 218 = .ok (.iconst 0, 1) := by decide +kernel
theorem dX12_says__219 : decode cX12_says_ 219 = .ok (.istore 6, 2) := by decide +kernel
theorem dX12_says__221 : decode cX12_says_ 221 = .ok (.goto 178, 3) := by decide +kernel
theorem dX12_says__224 : decode cX12_says_ 224 = .ok (.iload_n 1, 1) := by decide +kernel
theorem dX12_says__225 : decode cX12_says_ 225 = .ok (.iconst 5, 1) := by decide +kernel
theorem dX12_says__226 : decode cX12_says_ 226 = .ok (.if_icmp .ne 29, 3) := by decide +kernel
theorem dX12_says__229 : decode cX12_says_ 229 = .ok (.iload 4, 2) := by decide +kernel
theorem dX12_says__231 : decode cX12_says_ 231 = .ok (.iconst 3, 1) := by decide +kernel
theorem dX12_says__232 : decode cX12_says_ 232 = .ok (.if_icmp .lt 13, 3) := by decide +kernel
theorem dX12_says__235 : decode cX12_says_ 235 = .ok (.aload_n 0, 1) := by decide +kernel
theorem dX12_says__236 : decode cX12_says_ 236 = .ok (.iload 5, 2) := by decide +kernel
theorem dX12_says__238 : decode cX12_says_ 238 = .ok (.iload_n 2, 1) := by decide +kernel
theorem dX12_says__239 : decode cX12_says_ 239 = .ok (.invokevirtual 811, 3) := by decide +kernel
theorem dX12_says__242 : decode cX12_says_ 242 = .ok (.ifCond .gt 7, 3) := by decide +kernel
theorem dX12_says__245 : decode cX12_says_ 245 = .ok (.iconst 1, 1) := by decide +kernel
theorem dX12_says__246 : decode cX12_says_ 246 = .ok (.goto 4, 3) := by decide +kernel
theorem dX12_says__249 : decode cX12_says_ 249 = .ok (.iconst 0, 1) := by decide +kernel
theorem dX12_says__250 : decode cX12_says_ 250 = .ok (.istore 6, 2) := by decide +kernel
theorem dX12_says__252 : decode cX12_says_ 252 = .ok (.goto 147, 3) := by decide +kernel
theorem dX12_says__255 : decode cX12_says_ 255 = .ok (.iload_n 1, 1) := by decide +kernel
theorem dX12_says__256 : decode cX12_says_ 256 = .ok (.bipush 6, 2) := by decide +kernel
theorem dX12_says__258 : decode cX12_says_ 258 = .ok (.if_icmp .ne 75, 3) := by decide +kernel
theorem dX12_says__261 : decode cX12_says_ 261 = .ok (.iconst 0, 1) := by decide +kernel
theorem dX12_says__262 : decode cX12_says_ 262 = .ok (.istore 7, 2) := by decide +kernel
theorem dX12_says__264 : decode cX12_says_ 264 = .ok (.iload 7, 2) := by decide +kernel
theorem dX12_says__266 : decode cX12_says_ 266 = .ok (.aload_n 0, 1) := by decide +kernel
theorem dX12_says__267 : decode cX12_says_ 267 = .ok (.aload_n 0, 1) := by decide +kernel
theorem dX12_says__268 : decode cX12_says_ 268 = .ok (.getfield 802, 3) := by decide +kernel
theorem dX12_says__271 : decode cX12_says_ 271 = .ok (.iload_n 2, 1) := by decide +kernel
theorem dX12_says__272 : decode cX12_says_ 272 = .ok (.iconst 3, 1) := by decide +kernel
theorem dX12_says__273 : decode cX12_says_ 273 = .ok (.invokevirtual 36, 3) := by decide +kernel
theorem dX12_says__276 : decode cX12_says_ 276 = .ok (.if_icmp .ge 54, 3) := by decide +kernel
theorem dX12_says__279 : decode cX12_says_ 279 = .ok (.iload 4, 2) := by decide +kernel
theorem dX12_says__281 : decode cX12_says_ 281 = .ok (.iconst 5, 1) := by decide +kernel
theorem dX12_says__282 : decode cX12_says_ 282 = .ok (.if_icmp .ne 48, 3) := by decide +kernel
theorem dX12_says__285 : decode cX12_says_ 285 = .ok (.aload_n 0, 1) := by decide +kernel
theorem dX12_says__286 : decode cX12_says_ 286 = .ok (.aload_n 0, 1) := by decide +kernel
theorem dX12_says__287 : decode cX12_says_ 287 = .ok (.getfield 802, 3) := by decide +kernel
theorem dX12_says__290 : decode cX12_says_ 290 = .ok (.aload_n 0, 1) := by decide +kernel
theorem dX12_says__291 : decode cX12_says_ 291 = .ok (.aload_n 0, 1) := by decide +kernel
theorem dX12_says__292 : decode cX12_says_ 292 = .ok (.getfield 802, 3) := by decide +kernel
theorem dX12_says__295 : decode cX12_says_ 295 = .ok (.iload_n 2, 1) := by decide +kernel
theorem dX12_says__296 : decode cX12_says_ 296 = .ok (.iload 7, 2) := by decide +kernel
theorem dX12_says__298 : decode cX12_says_ 298 = .ok (.invokevirtual 616, 3) := by decide +kernel
theorem dX12_says__301 : decode cX12_says_ 301 = .ok (.invokevirtual 814, 3) := by decide +kernel
theorem dX12_says__304 : decode cX12_says_ 304 = .ok (.aload_n 0, 1) := by decide +kernel
theorem dX12_says__305 : decode cX12_says_ 305 = .ok (.aload_n 0, 1) := by decide +kernel
theorem dX12_says__306 : decode cX12_says_ 306 = .ok (.getfield 805, 3) := by decide +kernel
theorem dX12_says__309 : decode cX12_says_ 309 = .ok (.iload_n 3, 1) := by decide +kernel
theorem dX12_says__310 : decode cX12_says_ 310 = .ok (.invokevirtual 78, 3) := by decide +kernel
theorem dX12_says__313 : decode cX12_says_ 313 = .ok (.iconst (-1), 1) := by decide +kernel
theorem dX12_says__314 : decode cX12_says_ 314 = .ok (.if_icmp .ne 10, 3) := by decide +kernel
theorem dX12_says__317 : decode cX12_says_ 317 = .ok (.aload_n 0, 1) := by decide +kernel
theorem dX12_says__318 : decode cX12_says_ 318 = .ok (.iload_n 3, 1) := by decide +kernel
theorem dX12_says__319 : decode cX12_says_ 319 = .ok (.bipush 6, 2) := by decide +kernel
theorem dX12_says__321 : decode cX12_says_ 321 = .ok (.invokevirtual 817, 3) := by decide +kernel
theorem dX12_says__324 : decode cX12_says_ 324 = .ok (.iinc 7 1, 3) := by decide +kernel
theorem dX12_says__327 : decode cX12_says_ 327 = .ok (.goto (-63), 3) := by decide +kernel
theorem dX12_says__330 : decode cX12_says_ 330 = .ok (.goto 69, 3) := by decide +kernel
theorem dX12_says__333 : decode cX12_says_ 333 = .ok (.iconst 0, 1) := by decide +kernel
theorem dX12_says__334 : decode cX12_says_ 334 = .ok (.istore 6, 2) := by decide +kernel
theorem dX12_says__336 : decode cX12_says_ 336 = .ok (.iconst 0, 1) := by decide +kernel
theorem dX12_says__337 : decode cX12_says_ 337 = .ok (.istore 7, 2) := by decide +kernel
theorem dX12_says__339 : decode cX12_says_ 339 = .ok (.iload 7, 2) := by decide +kernel
theorem dX12_says__341 : decode cX12_says_ 341 = .ok (.aload_n 0, 1) := by decide +kernel
theorem dX12_says__342 : decode cX12_says_ 342 = .ok (.aload_n 0, 1) := by decide +kernel
theorem dX12_says__343 : decode cX12_says_ 343 = .ok (.getfield 802, 3) := by decide +kernel
theorem dX12_says__346 : decode cX12_says_ 346 = .ok (.iload_n 2, 1) := by decide +kernel
theorem dX12_says__347 : decode cX12_says_ 347 = .ok (.iconst 3, 1) := by decide +kernel
theorem dX12_says__348 : decode cX12_says_ 348 = .ok (.invokevirtual 36, 3) := by decide +kernel
theorem dX12_says__351 : decode cX12_says_ 351 = .ok (.if_icmp .ge 48, 3) := by decide +kernel
theorem dX12_says__354 : decode cX12_says_ 354 = .ok (.iload 6, 2) := by decide +kernel
theorem dX12_says__356 : decode cX12_says_ 356 = .ok (.ifCond .ne 30, 3) := by decide +kernel
theorem dX12_says__359 : decode cX12_says_ 359 = .ok (.aload_n 0, 1) := by decide +kernel
theorem dX12_says__360 : decode cX12_says_ 360 = .ok (.aload_n 0, 1) := by decide +kernel
theorem dX12_says__361 : decode cX12_says_ 361 = .ok (.getfield 802, 3) := by decide +kernel
theorem dX12_says__364 : decode cX12_says_ 364 = .ok (.aload_n 0, 1) := by decide +kernel
theorem dX12_says__365 : decode cX12_says_ 365 = .ok (.aload_n 0, 1) := by decide +kernel
theorem dX12_says__366 : decode cX12_says_ 366 = .ok (.getfield 802, 3) := by decide +kernel
theorem dX12_says__369 : decode cX12_says_ 369 = .ok (.iload_n 2, 1) := by decide +kernel
theorem dX12_says__370 : decode cX12_says_ 370 = .ok (.iload 7, 2) := by decide +kernel
theorem dX12_says__372 : decode cX12_says_ 372 = .ok (.invokevirtual 616, 3) := by decide +kernel
theorem dX12_says__375 : decode cX12_says_ 375 = .ok (.aload_n 0, 1) := by decide +kernel
theorem dX12_says__376 : decode cX12_says_ 376 = .ok (.getfield 805, 3) := by decide +kernel
theorem dX12_says__379 : decode cX12_says_ 379 = .ok (.iload_n 3, 1) := by decide +kernel
theorem dX12_says__380 : decode cX12_says_ 380 = .ok (.invokevirtual 590, 3) := by decide +kernel
theorem dX12_says__383 : decode cX12_says_ 383 = .ok (.ifCond .eq 7, 3) := by decide +kernel
theorem dX12_says__386 : decode cX12_says_ 386 = .ok (.iconst 1, 1) := by decide +kernel
theorem dX12_says__387 : decode cX12_says_ 387 = .ok (.goto 4, 3) := by decide +kernel
theorem dX12_says__390 : decode cX12_says_ 390 = .ok (.iconst 0, 1) := by decide +kernel
theorem dX12_says__391 : decode cX12_says_ 391 = .ok (.istore 6, 2) := by decide +kernel
theorem dX12_says__393 : decode cX12_says_ 393 = .ok (.iinc 7 1, 3) := by decide +kernel
theorem dX12_says__396 : decode cX12_says_ 396 = .ok (.goto (-57), 3) := by decide +kernel
theorem dX12_says__399 : decode cX12_says_ 399 = .ok (.iload 6, 2) := by decide +kernel
theorem dX12_says__401 : decode cX12_says_ 401 = .ok (.ifCond .ne 9, 3) := by decide +kernel
theorem dX12_says__404 : decode cX12_says_ 404 = .ok (.aload_n 0, 1) := by decide +kernel
theorem dX12_says__405 : decode cX12_says_ 405 = .ok (.iload_n 3, 1) := by decide +kernel
theorem dX12_says__406 : decode cX12_says_ 406 = .ok (.iload_n 1, 1) := by decide +kernel
theorem dX12_says__407 : decode cX12_says_ 407 = .ok (.invokevirtual 817, 3) := by decide +kernel
theorem dX12_says__410 : decode cX12_says_ 410 = .ok (.return_, 1) := by decide +kernel
theorem dX12_asksNext_0 : decode cX12_asksNext 0 = .ok (.aload_n 0, 1) := by decide +kernel
theorem dX12_asksNext_1 : decode cX12_asksNext 1 = .ok (.aload_n 0, 1) := by decide +kernel
theorem dX12_asksNext_2 : decode cX12_asksNext 2 = .ok (.getfield 805, 3) := by decide +kernel
theorem dX12_asksNext_5 : decode cX12_asksNext 5 = .ok (.iload 4, 2) := by decide +kernel
theorem dX12_asksNext_7 : decode cX12_asksNext 7 = .ok (.invokevirtual 52, 3) := by decide +kernel
theorem dX12_asksNext_10 : decode cX12_asksNext 10 = .ok (.istore 5, 2) := by decide +kernel
theorem dX12_asksNext_12 : decode cX12_asksNext 12 = .ok (.iload_n 2, 1) := by decide +kernel
theorem dX12_asksNext_13 : decode cX12_asksNext 13 = .ok (.bipush 11, 2) := by decide +kernel
theorem dX12_asksNext_15 : decode cX12_asksNext 15 = .ok (.if_icmp .ge 7, 3) := by decide +kernel
theorem dX12_asksNext_18 : decode cX12_asksNext 18 = .ok (.iconst 1, 1) := by decide +kernel
theorem dX12_asksNext_19 : decode cX12_asksNext 19 = .ok (.goto 4, 3) := by decide +kernel
theorem dX12_asksNext_22 : decode cX12_asksNext 22 = .ok (.iconst 0, 1) := by decide +kernel
theorem dX12_asksNext_23 : decode cX12_asksNext 23 = .ok (.istore 6, 2) := by decide +kernel
theorem dX12_asksNext_25 : decode cX12_asksNext 25 = .ok (.iload 6, 2) := by decide +kernel
theorem dX12_asksNext_27 : decode cX12_asksNext 27 = .ok (.ifCond .ne 16, 3) := by decide +kernel
theorem dX12_asksNext_30 : decode cX12_asksNext 30 = .ok (.aload_n 0, 1) := by decide +kernel
theorem dX12_asksNext_31 : decode cX12_asksNext 31 = .ok (.aload_n 0, 1) := by decide +kernel
theorem dX12_asksNext_32 : decode cX12_asksNext 32 = .ok (.getfield 802, 3) := by decide +kernel
theorem dX12_asksNext_35 : decode cX12_asksNext 35 = .ok (.iload_n 3, 1) := by decide +kernel
theorem dX12_asksNext_36 : decode cX12_asksNext 36 = .ok (.iconst 3, 1) := by decide +kernel
theorem dX12_asksNext_37 : decode cX12_asksNext 37 = .ok (.invokevirtual 36, 3) := by decide +kernel
theorem dX12_asksNext_40 : decode cX12_asksNext 40 = .ok (.goto 34, 3) := by decide +kernel
theorem dX12_asksNext_43 : decode cX12_asksNext 43 = .ok (.iload 5, 2) := by decide +kernel
theorem dX12_asksNext_45 : decode cX12_asksNext 45 = .ok (.iload_n 2, 1) := by decide +kernel
theorem dX12_asksNext_46 : decode cX12_asksNext 46 = .ok (.bipush 9, 2) := by decide +kernel
theorem dX12_asksNext_48 : decode cX12_asksNext 48 = .ok (.if_icmp .ne 7, 3) := by decide +kernel
theorem dX12_asksNext_51 : decode cX12_asksNext 51 = .ok (.iconst 4, 1) := by decide +kernel
theorem dX12_asksNext_52 : decode cX12_asksNext 52 = .ok (.goto 4, 3) := by decide +kernel
theorem dX12_asksNext_55 : decode cX12_asksNext 55 = .ok (.iconst 5, 1) := by decide +kernel
theorem dX12_asksNext_56 : decode cX12_asksNext 56 = .ok (.if_icmp .ne 17, 3) := by decide +kernel
theorem dX12_asksNext_59 : decode cX12_asksNext 59 = .ok (.aload_n 0, 1) := by decide +kernel
theorem dX12_asksNext_60 : decode cX12_asksNext 60 = .ok (.aload_n 0, 1) := by decide +kernel
theorem dX12_asksNext_61 : decode cX12_asksNext 61 = .ok (.getfield 805, 3) := by decide +kernel
theorem dX12_asksNext_64 : decode cX12_asksNext 64 = .ok (.iload 4, 2) := by decide +kernel
theorem dX12_asksNext_66 : decode cX12_asksNext 66 = .ok (.iconst 3, 1) := by decide +kernel
theorem dX12_asksNext_67 : decode cX12_asksNext 67 = .ok (.invokevirtual 36, 3) := by decide +kernel
theorem dX12_asksNext_70 : decode cX12_asksNext 70 = .ok (.goto 4, 3) := by decide +kernel
theorem dX12_asksNext_73 : decode cX12_asksNext 73 = .ok (.iconst 0, 1) := by decide +kernel
theorem dX12_asksNext_74 : decode cX12_asksNext 74 = .ok (.istore 7, 2) := by decide +kernel
theorem dX12_asksNext_76 : decode cX12_asksNext 76 = .ok (.aload_n 0, 1) := by decide +kernel
theorem dX12_asksNext_77 : decode cX12_asksNext 77 = .ok (.getfield 411, 3) := by decide +kernel
theorem dX12_asksNext_80 : decode cX12_asksNext 80 = .ok (.iload_n 1, 1) := by decide +kernel
theorem dX12_asksNext_81 : decode cX12_asksNext 81 = .ok (.iaload, 1) := by decide +kernel
theorem dX12_asksNext_82 : decode cX12_asksNext 82 = .ok (.iload 7, 2) := by decide +kernel
theorem dX12_asksNext_84 : decode cX12_asksNext 84 = .ok (.if_icmp .ge 193, 3) := by decide +kernel
theorem dX12_asksNext_87 : decode cX12_asksNext 87 = .ok (.iload 6, 2) := by decide +kernel
theorem dX12_asksNext_89 : decode cX12_asksNext 89 = .ok (.ifCond .eq 22, 3) := by decide +kernel
theorem dX12_asksNext_92 : decode cX12_asksNext 92 = .ok (.aload_n 0, 1) := by decide +kernel
theorem dX12_asksNext_93 : decode cX12_asksNext 93 = .ok (.aload_n 0, 1) := by decide +kernel
theorem dX12_asksNext_94 : decode cX12_asksNext 94 = .ok (.getfield 805, 3) := by decide +kernel
theorem dX12_asksNext_97 : decode cX12_asksNext 97 = .ok (.iload 4, 2) := by decide +kernel
theorem dX12_asksNext_99 : decode cX12_asksNext 99 = .ok (.aload_n 0, 1) := by decide +kernel
theorem dX12_asksNext_100 : decode cX12_asksNext 100 = .ok (.getfield 411, 3) := by decide +kernel
theorem dX12_asksNext_103 : decode cX12_asksNext 103 = .ok (.iload_n 1, 1) := by decide +kernel
theorem dX12_asksNext_104 : decode cX12_asksNext 104 = .ok (.iaload, 1) := by decide +kernel
theorem dX12_asksNext_105 : decode cX12_asksNext 105 = .ok (.invokevirtual 616, 3) := by decide +kernel
theorem dX12_asksNext_108 : decode cX12_asksNext 108 = .ok (.goto 5, 3) := by decide +kernel
theorem dX12_asksNext_111 : decode cX12_asksNext 111 = .ok (.iload 4, 2) := by decide +kernel
theorem dX12_asksNext_113 : decode cX12_asksNext 113 = .ok (.istore 8, 2) := by decide +kernel
theorem dX12_asksNext_115 : decode cX12_asksNext 115 = .ok (.iload_n 3, 1) := by decide +kernel
theorem dX12_asksNext_116 : decode cX12_asksNext 116 = .ok (.istore 9, 2) := by decide +kernel
theorem dX12_asksNext_118 : decode cX12_asksNext 118 = .ok (.iload_n 2, 1) := by decide +kernel
theorem dX12_asksNext_119 : decode cX12_asksNext 119 = .ok (.bipush 7, 2) := by decide +kernel
theorem dX12_asksNext_121 : decode cX12_asksNext 121 = .ok (.if_icmp .ne 23, 3) := by decide +kernel
theorem dX12_asksNext_124 : decode cX12_asksNext 124 = .ok (.aload_n 0, 1) := by decide +kernel
theorem dX12_asksNext_125 : decode cX12_asksNext 125 = .ok (.aload_n 0, 1) := by decide +kernel
theorem dX12_asksNext_126 : decode cX12_asksNext 126 = .ok (.getfield 802, 3) := by decide +kernel
theorem dX12_asksNext_129 : decode cX12_asksNext 129 = .ok (.iload_n 3, 1) := by decide +kernel
theorem dX12_asksNext_130 : decode cX12_asksNext 130 = .ok (.aload_n 0, 1) := by decide +kernel
theorem dX12_asksNext_131 : decode cX12_asksNext 131 = .ok (.getfield 805, 3) := by decide +kernel
theorem dX12_asksNext_134 : decode cX12_asksNext 134 = .ok (.iload 8, 2) := by decide +kernel
theorem dX12_asksNext_136 : decode cX12_asksNext 136 = .ok (.invokevirtual 732, 3) := by decide +kernel
theorem dX12_asksNext_139 : decode cX12_asksNext 139 = .ok (.istore 9, 2) := by decide +kernel
theorem dX12_asksNext_141 : decode cX12_asksNext 141 = .ok (.goto 90, 3) := by decide +kernel
theorem dX12_asksNext_144 : decode cX12_asksNext 144 = .ok (.iload_n 2, 1) := by decide +kernel
theorem dX12_asksNext_145 : decode cX12_asksNext 145 = .ok (.bipush 8, 2) := by decide +kernel
theorem dX12_asksNext_147 : decode cX12_asksNext 147 = .ok (.if_icmp .ne 62, 3) := by decide +kernel
theorem dX12_asksNext_150 : decode cX12_asksNext 150 = .ok (.aload_n 0, 1) := by decide +kernel
theorem dX12_asksNext_151 : decode cX12_asksNext 151 = .ok (.aload_n 0, 1) := by decide +kernel
theorem dX12_asksNext_152 : decode cX12_asksNext 152 = .ok (.getfield 802, 3) := by decide +kernel
theorem dX12_asksNext_155 : decode cX12_asksNext 155 = .ok (.aload_n 0, 1) := by decide +kernel
theorem dX12_asksNext_156 : decode cX12_asksNext 156 = .ok (.getfield 402, 3) := by decide +kernel
theorem dX12_asksNext_159 : decode cX12_asksNext 159 = .ok (.iload_n 1, 1) := by decide +kernel
theorem dX12_asksNext_160 : decode cX12_asksNext 160 = .ok (.iaload, 1) := by decide +kernel
theorem dX12_asksNext_161 : decode cX12_asksNext 161 = .ok (.aload_n 0, 1) := by decide +kernel
theorem dX12_asksNext_162 : decode cX12_asksNext 162 = .ok (.getfield 382, 3) := by decide +kernel
theorem dX12_asksNext_165 : decode cX12_asksNext 165 = .ok (.bipush 7, 2) := by decide +kernel
theorem dX12_asksNext_167 : decode cX12_asksNext 167 = .ok (.laload, 1) := by decide +kernel
theorem dX12_asksNext_168 : decode cX12_asksNext 168 = .ok (.invokevirtual 681, 3) := by decide +kernel
theorem dX12_asksNext_171 : decode cX12_asksNext 171 = .ok (.istore 10, 2) := by decide +kernel
theorem dX12_asksNext_173 : decode cX12_asksNext 173 = .ok (.iload 10, 2) := by decide +kernel
theorem dX12_asksNext_175 : decode cX12_asksNext 175 = .ok (.iconst (-1), 1) := by decide +kernel
theorem dX12_asksNext_176 : decode cX12_asksNext 176 = .ok (.if_icmp .eq 27, 3) := by decide +kernel
theorem dX12_asksNext_179 : decode cX12_asksNext 179 = .ok (.aload_n 0, 1) := by decide +kernel
theorem dX12_asksNext_180 : decode cX12_asksNext 180 = .ok (.aload_n 0, 1) := by decide +kernel
theorem dX12_asksNext_181 : decode cX12_asksNext 181 = .ok (.getfield 802, 3) := by decide +kernel
theorem dX12_asksNext_184 : decode cX12_asksNext 184 = .ok (.iload 10, 2) := by decide +kernel
theorem dX12_asksNext_186 : decode cX12_asksNext 186 = .ok (.aload_n 0, 1) := by decide +kernel
theorem dX12_asksNext_187 : decode cX12_asksNext 187 = .ok (.getfield 805, 3) := by decide +kernel
theorem dX12_asksNext_190 : decode cX12_asksNext 190 = .ok (.iload 8, 2) := by decide +kernel
theorem dX12_asksNext_192 : decode cX12_asksNext 192 = .ok (.invokevirtual 732, 3) := by decide +kernel
theorem dX12_asksNext_195 : decode cX12_asksNext 195 = .ok (.iconst (-1), 1) := by decide +kernel
theorem dX12_asksNext_196 : decode cX12_asksNext 196 = .ok (.if_icmp .eq 7, 3) := by decide +kernel
theorem dX12_asksNext_199 : decode cX12_asksNext 199 = .ok (.iconst (-1), 1) := by decide +kernel
theorem dX12_asksNext_200 : decode cX12_asksNext 200 = .ok (.goto 4, 3) := by decide +kernel
theorem dX12_asksNext_203 : decode cX12_asksNext 203 = .ok (.iload_n 3, 1) := by decide +kernel
theorem dX12_asksNext_204 : decode cX12_asksNext 204 = .ok (.istore 9, 2) := by decide +kernel
theorem dX12_asksNext_206 : decode cX12_asksNext 206 = .ok (.goto 25, 3) := by decide +kernel
theorem dX12_asksNext_209 : decode cX12_asksNext 209 = .ok (.iload 6, 2) := by decide +kernel
theorem dX12_asksNext_211 : decode cX12_asksNext 211 = .ok (.ifCond .ne 20, 3) := by decide +kernel
theorem dX12_asksNext_214 : decode cX12_asksNext 214 = .ok (.aload_n 0, 1) := by decide +kernel
theorem dX12_asksNext_215 : decode cX12_asksNext 215 = .ok (.aload_n 0, 1) := by decide +kernel
theorem dX12_asksNext_216 : decode cX12_asksNext 216 = .ok (.getfield 802, 3) := by decide +kernel
theorem dX12_asksNext_219 : decode cX12_asksNext 219 = .ok (.iload_n 3, 1) := by decide +kernel
theorem dX12_asksNext_220 : decode cX12_asksNext 220 = .ok (.aload_n 0, 1) := by decide +kernel
theorem dX12_asksNext_221 : decode cX12_asksNext 221 = .ok (.getfield 411, 3) := by decide +kernel
theorem dX12_asksNext_224 : decode cX12_asksNext 224 = .ok (.iload_n 1, 1) := by decide +kernel
theorem dX12_asksNext_225 : decode cX12_asksNext 225 = .ok (.iaload, 1) := by decide +kernel
theorem dX12_asksNext_226 : decode cX12_asksNext 226 = .ok (.invokevirtual 616, 3) := by decide +kernel
theorem dX12_asksNext_229 : decode cX12_asksNext 229 = .ok (.istore 9, 2) := by decide +kernel
theorem dX12_asksNext_231 : decode cX12_asksNext 231 = .ok (.aload_n 0, 1) := by decide +kernel
theorem dX12_asksNext_232 : decode cX12_asksNext 232 = .ok (.getfield 411, 3) := by decide +kernel
theorem dX12_asksNext_235 : decode cX12_asksNext 235 = .ok (.iload_n 1, 1) := by decide +kernel
theorem dX12_asksNext_236 : decode cX12_asksNext 236 = .ok (.dup2, 1) := by decide +kernel
theorem dX12_asksNext_237 : decode cX12_asksNext 237 = .ok (.iaload, 1) := by decide +kernel
theorem dX12_asksNext_238 : decode cX12_asksNext 238 = .ok (.iconst 1, 1) := by decide +kernel
theorem dX12_asksNext_239 : decode cX12_asksNext 239 = .ok (.iadd, 1) := by decide +kernel
theorem dX12_asksNext_240 : decode cX12_asksNext 240 = .ok (.iastore, 1) := by decide +kernel
theorem dX12_asksNext_241 : decode cX12_asksNext 241 = .ok (.iload 9, 2) := by decide +kernel
theorem dX12_asksNext_243 : decode cX12_asksNext 243 = .ok (.iconst (-1), 1) := by decide +kernel
theorem dX12_asksNext_244 : decode cX12_asksNext 244 = .ok (.if_icmp .eq 30, 3) := by decide +kernel
theorem dX12_asksNext_247 : decode cX12_asksNext 247 = .ok (.aload_n 0, 1) := by decide +kernel
theorem dX12_asksNext_248 : decode cX12_asksNext 248 = .ok (.getfield 417, 3) := by decide +kernel
theorem dX12_asksNext_251 : decode cX12_asksNext 251 = .ok (.iload_n 1, 1) := by decide +kernel
theorem dX12_asksNext_252 : decode cX12_asksNext 252 = .ok (.aload_n 0, 1) := by decide +kernel
theorem dX12_asksNext_253 : decode cX12_asksNext 253 = .ok (.getfield 793, 3) := by decide +kernel
theorem dX12_asksNext_256 : decode cX12_asksNext 256 = .ok (.iastore, 1) := by decide +kernel
theorem dX12_asksNext_257 : decode cX12_asksNext 257 = .ok (.aload_n 0, 1) := by decide +kernel
theorem dX12_asksNext_258 : decode cX12_asksNext 258 = .ok (.getfield 423, 3) := by decide +kernel
theorem dX12_asksNext_261 : decode cX12_asksNext 261 = .ok (.iload_n 1, 1) := by decide +kernel
theorem dX12_asksNext_262 : decode cX12_asksNext 262 = .ok (.iconst 1, 1) := by decide +kernel
theorem dX12_asksNext_263 : decode cX12_asksNext 263 = .ok (.bastore, 1) := by decide +kernel
theorem dX12_asksNext_264 : decode cX12_asksNext 264 = .ok (.aload_n 0, 1) := by decide +kernel
theorem dX12_asksNext_265 : decode cX12_asksNext 265 = .ok (.iload 9, 2) := by decide +kernel
theorem dX12_asksNext_267 : decode cX12_asksNext 267 = .ok (.iload 8, 2) := by decide +kernel
theorem dX12_asksNext_269 : decode cX12_asksNext 269 = .ok (.invokevirtual 820, 3) := by decide +kernel
theorem dX12_asksNext_272 : decode cX12_asksNext 272 = .ok (.iconst 1, 1) := by decide +kernel
theorem dX12_asksNext_273 : decode cX12_asksNext 273 = .ok (.ireturn, 1) := by decide +kernel
theorem dX12_asksNext_274 : decode cX12_asksNext 274 = .ok (.goto (-198), 3) := by decide +kernel
theorem dX12_asksNext_277 : decode cX12_asksNext 277 = .ok (.iconst 0, 1) := by decide +kernel
theorem dX12_asksNext_278 : decode cX12_asksNext 278 = .ok (.ireturn, 1) := by decide +kernel
theorem dX12_asksRef_0 : decode cX12_asksRef 0 = .ok (.aload_n 0, 1) := by decide +kernel
theorem dX12_asksRef_1 : decode cX12_asksRef 1 = .ok (.aload_n 0, 1) := by decide +kernel
theorem dX12_asksRef_2 : decode cX12_asksRef 2 = .ok (.getfield 802, 3) := by decide +kernel
theorem dX12_asksRef_5 : decode cX12_asksRef 5 = .ok (.iconst 0, 1) := by decide +kernel
theorem dX12_asksRef_6 : decode cX12_asksRef 6 = .ok (.invokevirtual 52, 3) := by decide +kernel
theorem dX12_asksRef_9 : decode cX12_asksRef 9 = .ok (.iconst 5, 1) := by decide +kernel
theorem dX12_asksRef_10 : decode cX12_asksRef 10 = .ok (.if_icmp .ne 18, 3) := by decide +kernel
theorem dX12_asksRef_13 : decode cX12_asksRef 13 = .ok (.aload_n 0, 1) := by decide +kernel
theorem dX12_asksRef_14 : decode cX12_asksRef 14 = .ok (.aload_n 0, 1) := by decide +kernel
theorem dX12_asksRef_15 : decode cX12_asksRef 15 = .ok (.getfield 802, 3) := by decide +kernel
theorem dX12_asksRef_18 : decode cX12_asksRef 18 = .ok (.iconst 0, 1) := by decide +kernel
theorem dX12_asksRef_19 : decode cX12_asksRef 19 = .ok (.ldc2_w 823, 3) := by decide +kernel
theorem dX12_asksRef_22 : decode cX12_asksRef 22 = .ok (.invokevirtual 681, 3) := by decide +kernel
theorem dX12_asksRef_25 : decode cX12_asksRef 25 = .ok (.goto 4, 3) := by decide +kernel
theorem dX12_asksRef_28 : decode cX12_asksRef 28 = .ok (.iconst (-1), 1) := by decide +kernel
theorem dX12_asksRef_29 : decode cX12_asksRef 29 = .ok (.istore 4, 2) := by decide +kernel
theorem dX12_asksRef_31 : decode cX12_asksRef 31 = .ok (.aload_n 0, 1) := by decide +kernel
theorem dX12_asksRef_32 : decode cX12_asksRef 32 = .ok (.aload_n 0, 1) := by decide +kernel
theorem dX12_asksRef_33 : decode cX12_asksRef 33 = .ok (.getfield 802, 3) := by decide +kernel
theorem dX12_asksRef_36 : decode cX12_asksRef 36 = .ok (.iload_n 2, 1) := by decide +kernel
theorem dX12_asksRef_37 : decode cX12_asksRef 37 = .ok (.invokevirtual 814, 3) := by decide +kernel
theorem dX12_asksRef_40 : decode cX12_asksRef 40 = .ok (.iload 4, 2) := by decide +kernel
theorem dX12_asksRef_42 : decode cX12_asksRef 42 = .ok (.iconst (-1), 1) := by decide +kernel
theorem dX12_asksRef_43 : decode cX12_asksRef 43 = .ok (.if_icmp .eq 17, 3) := by decide +kernel
theorem dX12_asksRef_46 : decode cX12_asksRef 46 = .ok (.aload_n 0, 1) := by decide +kernel
theorem dX12_asksRef_47 : decode cX12_asksRef 47 = .ok (.aload_n 0, 1) := by decide +kernel
theorem dX12_asksRef_48 : decode cX12_asksRef 48 = .ok (.getfield 802, 3) := by decide +kernel
theorem dX12_asksRef_51 : decode cX12_asksRef 51 = .ok (.iload 4, 2) := by decide +kernel
theorem dX12_asksRef_53 : decode cX12_asksRef 53 = .ok (.invokevirtual 52, 3) := by decide +kernel
theorem dX12_asksRef_56 : decode cX12_asksRef 56 = .ok (.iconst 5, 1) := by decide +kernel
theorem dX12_asksRef_57 : decode cX12_asksRef 57 = .ok (.if_icmp .eq 7, 3) := by decide +kernel
theorem dX12_asksRef_60 : decode cX12_asksRef 60 = .ok (.iconst (-1), 1) := by decide +kernel
theorem dX12_asksRef_61 : decode cX12_asksRef 61 = .ok (.goto 13, 3) := by decide +kernel
theorem dX12_asksRef_64 : decode cX12_asksRef 64 = .ok (.aload_n 0, 1) := by decide +kernel
theorem dX12_asksRef_65 : decode cX12_asksRef 65 = .ok (.aload_n 0, 1) := by decide +kernel
theorem dX12_asksRef_66 : decode cX12_asksRef 66 = .ok (.getfield 802, 3) := by decide +kernel
theorem dX12_asksRef_69 : decode cX12_asksRef 69 = .ok (.iload 4, 2) := by decide +kernel
theorem dX12_asksRef_71 : decode cX12_asksRef 71 = .ok (.invokevirtual 78, 3) := by decide +kernel
theorem dX12_asksRef_74 : decode cX12_asksRef 74 = .ok (.istore 5, 2) := by decide +kernel
theorem dX12_asksRef_76 : decode cX12_asksRef 76 = .ok (.iconst 0, 1) := by decide +kernel
theorem dX12_asksRef_77 : decode cX12_asksRef 77 = .ok (.istore 6, 2) := by decide +kernel
theorem dX12_asksRef_79 : decode cX12_asksRef 79 = .ok (.iload 6, 2) := by decide +kernel
theorem dX12_asksRef_81 : decode cX12_asksRef 81 = .ok (.aload_n 0, 1) := by decide +kernel
theorem dX12_asksRef_82 : decode cX12_asksRef 82 = .ok (.getfield 825, 3) := by decide +kernel
theorem dX12_asksRef_85 : decode cX12_asksRef 85 = .ok (.if_icmp .ge 40, 3) := by decide +kernel
theorem dX12_asksRef_88 : decode cX12_asksRef 88 = .ok (.iload 5, 2) := by decide +kernel
theorem dX12_asksRef_90 : decode cX12_asksRef 90 = .ok (.iconst (-1), 1) := by decide +kernel
theorem dX12_asksRef_91 : decode cX12_asksRef 91 = .ok (.if_icmp .eq 28, 3) := by decide +kernel
theorem dX12_asksRef_94 : decode cX12_asksRef 94 = .ok (.aload_n 0, 1) := by decide +kernel
theorem dX12_asksRef_95 : decode cX12_asksRef 95 = .ok (.getfield 426, 3) := by decide +kernel
theorem dX12_asksRef_98 : decode cX12_asksRef 98 = .ok (.iload 6, 2) := by decide +kernel
theorem dX12_asksRef_100 : decode cX12_asksRef 100 = .ok (.iaload, 1) := by decide +kernel
theorem dX12_asksRef_101 : decode cX12_asksRef 101 = .ok (.iload 5, 2) := by decide +kernel
theorem dX12_asksRef_103 : decode cX12_asksRef 103 = .ok (.if_icmp .ne 16, 3) := by decide +kernel
theorem dX12_asksRef_106 : decode cX12_asksRef 106 = .ok (.aload_n 0, 1) := by decide +kernel
theorem dX12_asksRef_107 : decode cX12_asksRef 107 = .ok (.getfield 429, 3) := by decide +kernel
theorem dX12_asksRef_110 : decode cX12_asksRef 110 = .ok (.iload 6, 2) := by decide +kernel
theorem dX12_asksRef_112 : decode cX12_asksRef 112 = .ok (.iaload, 1) := by decide +kernel
theorem dX12_asksRef_113 : decode cX12_asksRef 113 = .ok (.iload_n 3, 1) := by decide +kernel
theorem dX12_asksRef_114 : decode cX12_asksRef 114 = .ok (.if_icmp .ne 5, 3) := by decide +kernel
theorem dX12_asksRef_117 : decode cX12_asksRef 117 = .ok (.iconst 0, 1) := by decide +kernel
theorem dX12_asksRef_118 : decode cX12_asksRef 118 = .ok (.ireturn, 1) := by decide +kernel
theorem dX12_asksRef_119 : decode cX12_asksRef 119 = .ok (.iinc 6 1, 3) := by decide +kernel
theorem dX12_asksRef_122 : decode cX12_asksRef 122 = .ok (.goto (-43), 3) := by decide +kernel
theorem dX12_asksRef_125 : decode cX12_asksRef 125 = .ok (.iload 5, 2) := by decide +kernel
theorem dX12_asksRef_127 : decode cX12_asksRef 127 = .ok (.iconst (-1), 1) := by decide +kernel
theorem dX12_asksRef_128 : decode cX12_asksRef 128 = .ok (.if_icmp .eq 12, 3) := by decide +kernel
theorem dX12_asksRef_131 : decode cX12_asksRef 131 = .ok (.aload_n 0, 1) := by decide +kernel
theorem dX12_asksRef_132 : decode cX12_asksRef 132 = .ok (.getfield 825, 3) := by decide +kernel
theorem dX12_asksRef_135 : decode cX12_asksRef 135 = .ok (.bipush 13, 2) := by decide +kernel
theorem dX12_asksRef_137 : decode cX12_asksRef 137 = .ok (.if_icmp .ne 12, 3) := by decide +kernel
theorem dX12_asksRef_140 : decode cX12_asksRef 140 = .ok (.aload_n 0, 1) := by decide +kernel
theorem dX12_asksRef_141 : decode cX12_asksRef 141 = .ok (.iload_n 3, 1) := by decide +kernel
theorem dX12_asksRef_142 : decode cX12_asksRef 142 = .ok (.bipush 15, 2) := by decide +kernel
theorem dX12_asksRef_144 : decode cX12_asksRef 144 = .ok (.invokevirtual 817, 3) := by decide +kernel
theorem dX12_asksRef_147 : decode cX12_asksRef 147 = .ok (.iconst 0, 1) := by decide +kernel
theorem dX12_asksRef_148 : decode cX12_asksRef 148 = .ok (.ireturn, 1) := by decide +kernel
theorem dX12_asksRef_149 : decode cX12_asksRef 149 = .ok (.aload_n 0, 1) := by decide +kernel
theorem dX12_asksRef_150 : decode cX12_asksRef 150 = .ok (.getfield 426, 3) := by decide +kernel
theorem dX12_asksRef_153 : decode cX12_asksRef 153 = .ok (.aload_n 0, 1) := by decide +kernel
theorem dX12_asksRef_154 : decode cX12_asksRef 154 = .ok (.getfield 825, 3) := by decide +kernel
theorem dX12_asksRef_157 : decode cX12_asksRef 157 = .ok (.iload 5, 2) := by decide +kernel
theorem dX12_asksRef_159 : decode cX12_asksRef 159 = .ok (.iastore, 1) := by decide +kernel
theorem dX12_asksRef_160 : decode cX12_asksRef 160 = .ok (.aload_n 0, 1) := by decide +kernel
theorem dX12_asksRef_161 : decode cX12_asksRef 161 = .ok (.getfield 429, 3) := by decide +kernel
theorem dX12_asksRef_164 : decode cX12_asksRef 164 = .ok (.aload_n 0, 1) := by decide +kernel
theorem dX12_asksRef_165 : decode cX12_asksRef 165 = .ok (.getfield 825, 3) := by decide +kernel
theorem dX12_asksRef_168 : decode cX12_asksRef 168 = .ok (.iload_n 3, 1) := by decide +kernel
theorem dX12_asksRef_169 : decode cX12_asksRef 169 = .ok (.iastore, 1) := by decide +kernel
theorem dX12_asksRef_170 : decode cX12_asksRef 170 = .ok (.aload_n 0, 1) := by decide +kernel
theorem dX12_asksRef_171 : decode cX12_asksRef 171 = .ok (.dup, 1) := by decide +kernel
theorem dX12_asksRef_172 : decode cX12_asksRef 172 = .ok (.getfield 825, 3) := by decide +kernel
theorem dX12_asksRef_175 : decode cX12_asksRef 175 = .ok (.iconst 1, 1) := by decide +kernel
theorem dX12_asksRef_176 : decode cX12_asksRef 176 = .ok (.iadd, 1) := by decide +kernel
theorem dX12_asksRef_177 : decode cX12_asksRef 177 = .ok (.putfield 825, 3) := by decide +kernel
theorem dX12_asksRef_180 : decode cX12_asksRef 180 = .ok (.aload_n 0, 1) := by decide +kernel
theorem dX12_asksRef_181 : decode cX12_asksRef 181 = .ok (.getfield 423, 3) := by decide +kernel
theorem dX12_asksRef_184 : decode cX12_asksRef 184 = .ok (.iload_n 1, 1) := by decide +kernel
theorem dX12_asksRef_185 : decode cX12_asksRef 185 = .ok (.iconst 1, 1) := by decide +kernel
theorem dX12_asksRef_186 : decode cX12_asksRef 186 = .ok (.bastore, 1) := by decide +kernel
theorem dX12_asksRef_187 : decode cX12_asksRef 187 = .ok (.aload_n 0, 1) := by decide +kernel
theorem dX12_asksRef_188 : decode cX12_asksRef 188 = .ok (.iload 5, 2) := by decide +kernel
theorem dX12_asksRef_190 : decode cX12_asksRef 190 = .ok (.iload_n 3, 1) := by decide +kernel
theorem dX12_asksRef_191 : decode cX12_asksRef 191 = .ok (.invokevirtual 820, 3) := by decide +kernel
theorem dX12_asksRef_194 : decode cX12_asksRef 194 = .ok (.iconst 1, 1) := by decide +kernel
theorem dX12_asksRef_195 : decode cX12_asksRef 195 = .ok (.ireturn, 1) := by decide +kernel
theorem dX12_hears_0 : decode cX12_hears 0 = .ok (.aload_n 0, 1) := by decide +kernel
theorem dX12_hears_1 : decode cX12_hears 1 = .ok (.getfield 423, 3) := by decide +kernel
theorem dX12_hears_4 : decode cX12_hears 4 = .ok (.iload_n 1, 1) := by decide +kernel
theorem dX12_hears_5 : decode cX12_hears 5 = .ok (.iconst 0, 1) := by decide +kernel
theorem dX12_hears_6 : decode cX12_hears 6 = .ok (.bastore, 1) := by decide +kernel
theorem dX12_hears_7 : decode cX12_hears 7 = .ok (.aload_n 0, 1) := by decide +kernel
theorem dX12_hears_8 : decode cX12_hears 8 = .ok (.getfield 408, 3) := by decide +kernel
theorem dX12_hears_11 : decode cX12_hears 11 = .ok (.iload_n 1, 1) := by decide +kernel
theorem dX12_hears_12 : decode cX12_hears 12 = .ok (.iaload, 1) := by decide +kernel
theorem dX12_hears_13 : decode cX12_hears 13 = .ok (.istore_n 2, 1) := by decide +kernel
theorem dX12_hears_14 : decode cX12_hears 14 = .ok (.iload_n 2, 1) := by decide +kernel
theorem dX12_hears_15 : decode cX12_hears 15 = .ok (.bipush 12, 2) := by decide +kernel
theorem dX12_hears_17 : decode cX12_hears 17 = .ok (.if_icmp .lt 40, 3) := by decide +kernel
theorem dX12_hears_20 : decode cX12_hears 20 = .ok (.iload_n 2, 1) := by decide +kernel
theorem dX12_hears_21 : decode cX12_hears 21 = .ok (.bipush 14, 2) := by decide +kernel
theorem dX12_hears_23 : decode cX12_hears 23 = .ok (.if_icmp .gt 34, 3) := by decide +kernel
theorem dX12_hears_26 : decode cX12_hears 26 = .ok (.aload_n 0, 1) := by decide +kernel
theorem dX12_hears_27 : decode cX12_hears 27 = .ok (.getfield 420, 3) := by decide +kernel
theorem dX12_hears_30 : decode cX12_hears 30 = .ok (.iload_n 1, 1) := by decide +kernel
theorem dX12_hears_31 : decode cX12_hears 31 = .ok (.dup2, 1) := by decide +kernel
theorem dX12_hears_32 : decode cX12_hears 32 = .ok (.iaload, 1) := by decide +kernel
theorem dX12_hears_33 : decode cX12_hears 33 = .ok (.aload_n 0, 1) := by decide +kernel
theorem dX12_hears_34 : decode cX12_hears 34 = .ok (.getfield 828, 3) := by decide +kernel
theorem dX12_hears_37 : decode cX12_hears 37 = .ok (.ifCond .eq 7, 3) := by decide +kernel
theorem dX12_hears_40 : decode cX12_hears 40 = .ok (.iconst 1, 1) := by decide +kernel
theorem dX12_hears_41 : decode cX12_hears 41 = .ok (.goto 4, 3) := by decide +kernel
theorem dX12_hears_44 : decode cX12_hears 44 = .ok (.iconst 0, 1) := by decide +kernel
theorem dX12_hears_45 : decode cX12_hears 45 = .ok (.iadd, 1) := by decide +kernel
theorem dX12_hears_46 : decode cX12_hears 46 = .ok (.iastore, 1) := by decide +kernel
theorem dX12_hears_47 : decode cX12_hears 47 = .ok (.aload_n 0, 1) := by decide +kernel
theorem dX12_hears_48 : decode cX12_hears 48 = .ok (.aload_n 0, 1) := by decide +kernel
theorem dX12_hears_49 : decode cX12_hears 49 = .ok (.getfield 417, 3) := by decide +kernel
theorem dX12_hears_52 : decode cX12_hears 52 = .ok (.iload_n 1, 1) := by decide +kernel
theorem dX12_hears_53 : decode cX12_hears 53 = .ok (.iaload, 1) := by decide +kernel
theorem dX12_hears_54 : decode cX12_hears 54 = .ok (.putfield 793, 3) := by decide +kernel
theorem dX12_hears_57 : decode cX12_hears 57 = .ok (.iload_n 2, 1) := by decide +kernel
theorem dX12_hears_58 : decode cX12_hears 58 = .ok (.bipush 14, 2) := by decide +kernel
theorem dX12_hears_60 : decode cX12_hears 60 = .ok (.if_icmp .ne 32, 3) := by decide +kernel
theorem dX12_hears_63 : decode cX12_hears 63 = .ok (.aload_n 0, 1) := by decide +kernel
theorem dX12_hears_64 : decode cX12_hears 64 = .ok (.getfield 828, 3) := by decide +kernel
theorem dX12_hears_67 : decode cX12_hears 67 = .ok (.ifCond .eq 15, 3) := by decide +kernel
theorem dX12_hears_70 : decode cX12_hears 70 = .ok (.aload_n 0, 1) := by decide +kernel
theorem dX12_hears_71 : decode cX12_hears 71 = .ok (.aload_n 0, 1) := by decide +kernel
theorem dX12_hears_72 : decode cX12_hears 72 = .ok (.getfield 405, 3) := by decide +kernel
theorem dX12_hears_75 : decode cX12_hears 75 = .ok (.iload_n 1, 1) := by decide +kernel
theorem dX12_hears_76 : decode cX12_hears 76 = .ok (.iaload, 1) := by decide +kernel
theorem dX12_hears_77 : decode cX12_hears 77 = .ok (.bipush 14, 2) := by decide +kernel
theorem dX12_hears_79 : decode cX12_hears 79 = .ok (.invokevirtual 817, 3) := by decide +kernel
theorem dX12_hears_82 : decode cX12_hears 82 = .ok (.aload_n 0, 1) := by decide +kernel
theorem dX12_hears_83 : decode cX12_hears 83 = .ok (.getfield 408, 3) := by decide +kernel
theorem dX12_hears_86 : decode cX12_hears 86 = .ok (.iload_n 1, 1) := by decide +kernel
theorem dX12_hears_87 : decode cX12_hears 87 = .ok (.dup2, 1) := by decide +kernel
theorem dX12_hears_88 : decode cX12_hears 88 = .ok (.iaload, 1) := by decide +kernel
theorem dX12_hears_89 : decode cX12_hears 89 = .ok (.iconst 1, 1) := by decide +kernel
theorem dX12_hears_90 : decode cX12_hears 90 = .ok (.iadd, 1) := by decide +kernel
theorem dX12_hears_91 : decode cX12_hears 91 = .ok (.iastore, 1) := by decide +kernel
theorem dX12_hears_92 : decode cX12_hears 92 = .ok (.iload_n 2, 1) := by decide +kernel
theorem dX12_hears_93 : decode cX12_hears 93 = .ok (.bipush 15, 2) := by decide +kernel
theorem dX12_hears_95 : decode cX12_hears 95 = .ok (.if_icmp .ne 23, 3) := by decide +kernel
theorem dX12_hears_98 : decode cX12_hears 98 = .ok (.aload_n 0, 1) := by decide +kernel
theorem dX12_hears_99 : decode cX12_hears 99 = .ok (.dup, 1) := by decide +kernel
theorem dX12_hears_100 : decode cX12_hears 100 = .ok (.getfield 825, 3) := by decide +kernel
theorem dX12_hears_103 : decode cX12_hears 103 = .ok (.iconst 1, 1) := by decide +kernel
theorem dX12_hears_104 : decode cX12_hears 104 = .ok (.isub, 1) := by decide +kernel
theorem dX12_hears_105 : decode cX12_hears 105 = .ok (.putfield 825, 3) := by decide +kernel
theorem dX12_hears_108 : decode cX12_hears 108 = .ok (.aload_n 0, 1) := by decide +kernel
theorem dX12_hears_109 : decode cX12_hears 109 = .ok (.getfield 408, 3) := by decide +kernel
theorem dX12_hears_112 : decode cX12_hears 112 = .ok (.iload_n 1, 1) := by decide +kernel
theorem dX12_hears_113 : decode cX12_hears 113 = .ok (.dup2, 1) := by decide +kernel
theorem dX12_hears_114 : decode cX12_hears 114 = .ok (.iaload, 1) := by decide +kernel
theorem dX12_hears_115 : decode cX12_hears 115 = .ok (.iconst 1, 1) := by decide +kernel
theorem dX12_hears_116 : decode cX12_hears 116 = .ok (.iadd, 1) := by decide +kernel
theorem dX12_hears_117 : decode cX12_hears 117 = .ok (.iastore, 1) := by decide +kernel
theorem dX12_hears_118 : decode cX12_hears 118 = .ok (.return_, 1) := by decide +kernel
theorem dX12_asksMore_0 : decode cX12_asksMore 0 = .ok (.aload_n 0, 1) := by decide +kernel
theorem dX12_asksMore_1 : decode cX12_asksMore 1 = .ok (.getfield 423, 3) := by decide +kernel
theorem dX12_asksMore_4 : decode cX12_asksMore 4 = .ok (.iload_n 1, 1) := by decide +kernel
theorem dX12_asksMore_5 : decode cX12_asksMore 5 = .ok (.baload, 1) := by decide +kernel
theorem dX12_asksMore_6 : decode cX12_asksMore 6 = .ok (.ifCond .eq 8, 3) := by decide +kernel
theorem dX12_asksMore_9 : decode cX12_asksMore 9 = .ok (.aload_n 0, 1) := by decide +kernel
theorem dX12_asksMore_10 : decode cX12_asksMore 10 = .ok (.iload_n 1, 1) := by decide +kernel
theorem dX12_asksMore_11 : decode cX12_asksMore 11 = .ok (.invokevirtual 831, 3) := by decide +kernel
theorem dX12_asksMore_14 : decode cX12_asksMore 14 = .ok (.aload_n 0, 1) := by decide +kernel
theorem dX12_asksMore_15 : decode cX12_asksMore 15 = .ok (.aload_n 0, 1) := by decide +kernel
theorem dX12_asksMore_16 : decode cX12_asksMore 16 = .ok (.getfield 802, 3) := by decide +kernel
theorem dX12_asksMore_19 : decode cX12_asksMore 19 = .ok (.aload_n 0, 1) := by decide +kernel
theorem dX12_asksMore_20 : decode cX12_asksMore 20 = .ok (.getfield 402, 3) := by decide +kernel
theorem dX12_asksMore_23 : decode cX12_asksMore 23 = .ok (.iload_n 1, 1) := by decide +kernel
theorem dX12_asksMore_24 : decode cX12_asksMore 24 = .ok (.iaload, 1) := by decide +kernel
theorem dX12_asksMore_25 : decode cX12_asksMore 25 = .ok (.invokevirtual 52, 3) := by decide +kernel
theorem dX12_asksMore_28 : decode cX12_asksMore 28 = .ok (.iconst 5, 1) := by decide +kernel
theorem dX12_asksMore_29 : decode cX12_asksMore 29 = .ok (.if_icmp .eq 35, 3) := by decide +kernel
theorem dX12_asksMore_32 : decode cX12_asksMore 32 = .ok (.aload_n 0, 1) := by decide +kernel
theorem dX12_asksMore_33 : decode cX12_asksMore 33 = .ok (.aload_n 0, 1) := by decide +kernel
theorem dX12_asksMore_34 : decode cX12_asksMore 34 = .ok (.getfield 802, 3) := by decide +kernel
theorem dX12_asksMore_37 : decode cX12_asksMore 37 = .ok (.aload_n 0, 1) := by decide +kernel
theorem dX12_asksMore_38 : decode cX12_asksMore 38 = .ok (.getfield 402, 3) := by decide +kernel
theorem dX12_asksMore_41 : decode cX12_asksMore 41 = .ok (.iload_n 1, 1) := by decide +kernel
theorem dX12_asksMore_42 : decode cX12_asksMore 42 = .ok (.iaload, 1) := by decide +kernel
theorem dX12_asksMore_43 : decode cX12_asksMore 43 = .ok (.bipush 19, 2) := by decide +kernel
theorem dX12_asksMore_45 : decode cX12_asksMore 45 = .ok (.invokevirtual 36, 3) := by decide +kernel
theorem dX12_asksMore_48 : decode cX12_asksMore 48 = .ok (.ifCond .ne 14, 3) := by decide +kernel
theorem dX12_asksMore_51 : decode cX12_asksMore 51 = .ok (.aload_n 0, 1) := by decide +kernel
theorem dX12_asksMore_52 : decode cX12_asksMore 52 = .ok (.aload_n 0, 1) := by decide +kernel
theorem dX12_asksMore_53 : decode cX12_asksMore 53 = .ok (.getfield 405, 3) := by decide +kernel
theorem dX12_asksMore_56 : decode cX12_asksMore 56 = .ok (.iload_n 1, 1) := by decide +kernel
theorem dX12_asksMore_57 : decode cX12_asksMore 57 = .ok (.iaload, 1) := by decide +kernel
theorem dX12_asksMore_58 : decode cX12_asksMore 58 = .ok (.iconst 0, 1) := by decide +kernel
theorem dX12_asksMore_59 : decode cX12_asksMore 59 = .ok (.invokevirtual 817, 3) := by decide +kernel
theorem dX12_asksMore_62 : decode cX12_asksMore 62 = .ok (.iconst 0, 1) := by decide +kernel
theorem dX12_asksMore_63 : decode cX12_asksMore 63 = .ok (.ireturn, 1) := by decide +kernel
theorem dX12_asksMore_64 : decode cX12_asksMore 64 = .ok (.aload_n 0, 1) := by decide +kernel
theorem dX12_asksMore_65 : decode cX12_asksMore 65 = .ok (.getfield 408, 3) := by decide +kernel
theorem dX12_asksMore_68 : decode cX12_asksMore 68 = .ok (.iload_n 1, 1) := by decide +kernel
theorem dX12_asksMore_69 : decode cX12_asksMore 69 = .ok (.iaload, 1) := by decide +kernel
theorem dX12_asksMore_70 : decode cX12_asksMore 70 = .ok (.bipush 16, 2) := by decide +kernel
theorem dX12_asksMore_72 : decode cX12_asksMore 72 = .ok (.if_icmp .ge 224, 3) := by decide +kernel
theorem dX12_asksMore_75 : decode cX12_asksMore 75 = .ok (.aload_n 0, 1) := by decide +kernel
theorem dX12_asksMore_76 : decode cX12_asksMore 76 = .ok (.getfield 408, 3) := by decide +kernel
theorem dX12_asksMore_79 : decode cX12_asksMore 79 = .ok (.iload_n 1, 1) := by decide +kernel
theorem dX12_asksMore_80 : decode cX12_asksMore 80 = .ok (.iaload, 1) := by decide +kernel
theorem dX12_asksMore_81 : decode cX12_asksMore 81 = .ok (.istore_n 2, 1) := by decide +kernel
theorem dX12_asksMore_82 : decode cX12_asksMore 82 = .ok (.aload_n 0, 1) := by decide +kernel
theorem dX12_asksMore_83 : decode cX12_asksMore 83 = .ok (.aload_n 0, 1) := by decide +kernel
theorem dX12_asksMore_84 : decode cX12_asksMore 84 = .ok (.getfield 802, 3) := by decide +kernel
theorem dX12_asksMore_87 : decode cX12_asksMore 87 = .ok (.aload_n 0, 1) := by decide +kernel
theorem dX12_asksMore_88 : decode cX12_asksMore 88 = .ok (.getfield 402, 3) := by decide +kernel
theorem dX12_asksMore_91 : decode cX12_asksMore 91 = .ok (.iload_n 1, 1) := by decide +kernel
theorem dX12_asksMore_92 : decode cX12_asksMore 92 = .ok (.iaload, 1) := by decide +kernel
theorem dX12_asksMore_93 : decode cX12_asksMore 93 = .ok (.aload_n 0, 1) := by decide +kernel
theorem dX12_asksMore_94 : decode cX12_asksMore 94 = .ok (.getfield 382, 3) := by decide +kernel
theorem dX12_asksMore_97 : decode cX12_asksMore 97 = .ok (.iload_n 2, 1) := by decide +kernel
theorem dX12_asksMore_98 : decode cX12_asksMore 98 = .ok (.laload, 1) := by decide +kernel
theorem dX12_asksMore_99 : decode cX12_asksMore 99 = .ok (.invokevirtual 681, 3) := by decide +kernel
theorem dX12_asksMore_102 : decode cX12_asksMore 102 = .ok (.istore_n 3, 1) := by decide +kernel
theorem dX12_asksMore_103 : decode cX12_asksMore 103 = .ok (.iload_n 3, 1) := by decide +kernel
theorem dX12_asksMore_104 : decode cX12_asksMore 104 = .ok (.iconst (-1), 1) := by decide +kernel
theorem dX12_asksMore_105 : decode cX12_asksMore 105 = .ok (.if_icmp .eq 30, 3) := by decide +kernel
theorem dX12_asksMore_108 : decode cX12_asksMore 108 = .ok (.iload_n 2, 1) := by decide +kernel
theorem dX12_asksMore_109 : decode cX12_asksMore 109 = .ok (.bipush 7, 2) := by decide +kernel
theorem dX12_asksMore_111 : decode cX12_asksMore 111 = .ok (.if_icmp .lt 9, 3) := by decide +kernel
theorem dX12_asksMore_114 : decode cX12_asksMore 114 = .ok (.iload_n 2, 1) := by decide +kernel
theorem dX12_asksMore_115 : decode cX12_asksMore 115 = .ok (.bipush 10, 2) := by decide +kernel
theorem dX12_asksMore_117 : decode cX12_asksMore 117 = .ok (.if_icmp .ne 18, 3) := by decide +kernel
theorem dX12_asksMore_120 : decode cX12_asksMore 120 = .ok (.aload_n 0, 1) := by decide +kernel
theorem dX12_asksMore_121 : decode cX12_asksMore 121 = .ok (.iload_n 2, 1) := by decide +kernel
theorem dX12_asksMore_122 : decode cX12_asksMore 122 = .ok (.iload_n 3, 1) := by decide +kernel
theorem dX12_asksMore_123 : decode cX12_asksMore 123 = .ok (.aload_n 0, 1) := by decide +kernel
theorem dX12_asksMore_124 : decode cX12_asksMore 124 = .ok (.getfield 405, 3) := by decide +kernel
theorem dX12_asksMore_127 : decode cX12_asksMore 127 = .ok (.iload_n 1, 1) := by decide +kernel
theorem dX12_asksMore_128 : decode cX12_asksMore 128 = .ok (.iaload, 1) := by decide +kernel
theorem dX12_asksMore_129 : decode cX12_asksMore 129 = .ok (.invokevirtual 834, 3) := by decide +kernel
theorem dX12_asksMore_132 : decode cX12_asksMore 132 = .ok (.goto 137, 3) := by decide +kernel
theorem dX12_asksMore_135 : decode cX12_asksMore 135 = .ok (.iload_n 3, 1) := by decide +kernel
theorem dX12_asksMore_136 : decode cX12_asksMore 136 = .ok (.iconst (-1), 1) := by decide +kernel
theorem dX12_asksMore_137 : decode cX12_asksMore 137 = .ok (.if_icmp .eq 39, 3) := by decide +kernel
theorem dX12_asksMore_140 : decode cX12_asksMore 140 = .ok (.iload_n 2, 1) := by decide +kernel
theorem dX12_asksMore_141 : decode cX12_asksMore 141 = .ok (.bipush 14, 2) := by decide +kernel
theorem dX12_asksMore_143 : decode cX12_asksMore 143 = .ok (.if_icmp .ne 33, 3) := by decide +kernel
theorem dX12_asksMore_146 : decode cX12_asksMore 146 = .ok (.aload_n 0, 1) := by decide +kernel
theorem dX12_asksMore_147 : decode cX12_asksMore 147 = .ok (.getfield 417, 3) := by decide +kernel
theorem dX12_asksMore_150 : decode cX12_asksMore 150 = .ok (.iload_n 1, 1) := by decide +kernel
theorem dX12_asksMore_151 : decode cX12_asksMore 151 = .ok (.aload_n 0, 1) := by decide +kernel
theorem dX12_asksMore_152 : decode cX12_asksMore 152 = .ok (.getfield 793, 3) := by decide +kernel
theorem dX12_asksMore_155 : decode cX12_asksMore 155 = .ok (.iastore, 1) := by decide +kernel
theorem dX12_asksMore_156 : decode cX12_asksMore 156 = .ok (.aload_n 0, 1) := by decide +kernel
theorem dX12_asksMore_157 : decode cX12_asksMore 157 = .ok (.getfield 423, 3) := by decide +kernel
theorem dX12_asksMore_160 : decode cX12_asksMore 160 = .ok (.iload_n 1, 1) := by decide +kernel
theorem dX12_asksMore_161 : decode cX12_asksMore 161 = .ok (.iconst 1, 1) := by decide +kernel
theorem dX12_asksMore_162 : decode cX12_asksMore 162 = .ok (.bastore, 1) := by decide +kernel
theorem dX12_asksMore_163 : decode cX12_asksMore 163 = .ok (.aload_n 0, 1) := by decide +kernel
theorem dX12_asksMore_164 : decode cX12_asksMore 164 = .ok (.iload_n 3, 1) := by decide +kernel
theorem dX12_asksMore_165 : decode cX12_asksMore 165 = .ok (.aload_n 0, 1) := by decide +kernel
theorem dX12_asksMore_166 : decode cX12_asksMore 166 = .ok (.getfield 405, 3) := by decide +kernel
theorem dX12_asksMore_169 : decode cX12_asksMore 169 = .ok (.iload_n 1, 1) := by decide +kernel
theorem dX12_asksMore_170 : decode cX12_asksMore 170 = .ok (.iaload, 1) := by decide +kernel
theorem dX12_asksMore_171 : decode cX12_asksMore 171 = .ok (.invokevirtual 820, 3) := by decide +kernel
theorem dX12_asksMore_174 : decode cX12_asksMore 174 = .ok (.iconst 1, 1) := by decide +kernel
theorem dX12_asksMore_175 : decode cX12_asksMore 175 = .ok (.ireturn, 1) := by decide +kernel
theorem dX12_asksMore_176 : decode cX12_asksMore 176 = .ok (.iload_n 3, 1) := by decide +kernel
theorem dX12_asksMore_177 : decode cX12_asksMore 177 = .ok (.iconst (-1), 1) := by decide +kernel
theorem dX12_asksMore_178 : decode cX12_asksMore 178 = .ok (.if_icmp .eq 26, 3) := by decide +kernel
theorem dX12_asksMore_181 : decode cX12_asksMore 181 = .ok (.iload_n 2, 1) := by decide +kernel
theorem dX12_asksMore_182 : decode cX12_asksMore 182 = .ok (.bipush 15, 2) := by decide +kernel
theorem dX12_asksMore_184 : decode cX12_asksMore 184 = .ok (.if_icmp .ne 20, 3) := by decide +kernel
theorem dX12_asksMore_187 : decode cX12_asksMore 187 = .ok (.aload_n 0, 1) := by decide +kernel
theorem dX12_asksMore_188 : decode cX12_asksMore 188 = .ok (.iload_n 1, 1) := by decide +kernel
theorem dX12_asksMore_189 : decode cX12_asksMore 189 = .ok (.iload_n 3, 1) := by decide +kernel
theorem dX12_asksMore_190 : decode cX12_asksMore 190 = .ok (.aload_n 0, 1) := by decide +kernel
theorem dX12_asksMore_191 : decode cX12_asksMore 191 = .ok (.getfield 405, 3) := by decide +kernel
theorem dX12_asksMore_194 : decode cX12_asksMore 194 = .ok (.iload_n 1, 1) := by decide +kernel
theorem dX12_asksMore_195 : decode cX12_asksMore 195 = .ok (.iaload, 1) := by decide +kernel
theorem dX12_asksMore_196 : decode cX12_asksMore 196 = .ok (.invokevirtual 836, 3) := by decide +kernel
theorem dX12_asksMore_199 : decode cX12_asksMore 199 = .ok (.ifCond .eq 70, 3) := by decide +kernel
theorem dX12_asksMore_202 : decode cX12_asksMore 202 = .ok (.iconst 1, 1) := by decide +kernel
theorem dX12_asksMore_203 : decode cX12_asksMore 203 = .ok (.ireturn, 1) := by decide +kernel
theorem dX12_asksMore_204 : decode cX12_asksMore 204 = .ok (.iload_n 3, 1) := by decide +kernel
theorem dX12_asksMore_205 : decode cX12_asksMore 205 = .ok (.iconst (-1), 1) := by decide +kernel
theorem dX12_asksMore_206 : decode cX12_asksMore 206 = .ok (.if_icmp .eq 63, 3) := by decide +kernel
theorem dX12_asksMore_209 : decode cX12_asksMore 209 = .ok (.aload_n 0, 1) := by decide +kernel
theorem dX12_asksMore_210 : decode cX12_asksMore 210 = .ok (.iload_n 1, 1) := by decide +kernel
theorem dX12_asksMore_211 : decode cX12_asksMore 211 = .ok (.iload_n 2, 1) := by decide +kernel
theorem dX12_asksMore_212 : decode cX12_asksMore 212 = .ok (.iload_n 3, 1) := by decide +kernel
theorem dX12_asksMore_213 : decode cX12_asksMore 213 = .ok (.aload_n 0, 1) := by decide +kernel
theorem dX12_asksMore_214 : decode cX12_asksMore 214 = .ok (.getfield 405, 3) := by decide +kernel
theorem dX12_asksMore_217 : decode cX12_asksMore 217 = .ok (.iload_n 1, 1) := by decide +kernel
theorem dX12_asksMore_218 : decode cX12_asksMore 218 = .ok (.iaload, 1) := by decide +kernel
theorem dX12_asksMore_219 : decode cX12_asksMore 219 = .ok (.invokevirtual 839, 3) := by decide +kernel
theorem dX12_asksMore_222 : decode cX12_asksMore 222 = .ok (.ifCond .eq 5, 3) := by decide +kernel
theorem dX12_asksMore_225 : decode cX12_asksMore 225 = .ok (.iconst 1, 1) := by decide +kernel
theorem dX12_asksMore_226 : decode cX12_asksMore 226 = .ok (.ireturn, 1) := by decide +kernel
theorem dX12_asksMore_227 : decode cX12_asksMore 227 = .ok (.iload_n 2, 1) := by decide +kernel
theorem dX12_asksMore_228 : decode cX12_asksMore 228 = .ok (.bipush 12, 2) := by decide +kernel
theorem dX12_asksMore_230 : decode cX12_asksMore 230 = .ok (.if_icmp .ne 12, 3) := by decide +kernel
theorem dX12_asksMore_233 : decode cX12_asksMore 233 = .ok (.aload_n 0, 1) := by decide +kernel
theorem dX12_asksMore_234 : decode cX12_asksMore 234 = .ok (.getfield 420, 3) := by decide +kernel
theorem dX12_asksMore_237 : decode cX12_asksMore 237 = .ok (.iload_n 1, 1) := by decide +kernel
theorem dX12_asksMore_238 : decode cX12_asksMore 238 = .ok (.iaload, 1) := by decide +kernel
theorem dX12_asksMore_239 : decode cX12_asksMore 239 = .ok (.ifCond .eq 19, 3) := by decide +kernel
theorem dX12_asksMore_242 : decode cX12_asksMore 242 = .ok (.iload_n 2, 1) := by decide +kernel
theorem dX12_asksMore_243 : decode cX12_asksMore 243 = .ok (.bipush 13, 2) := by decide +kernel
theorem dX12_asksMore_245 : decode cX12_asksMore 245 = .ok (.if_icmp .ne 24, 3) := by decide +kernel
theorem dX12_asksMore_248 : decode cX12_asksMore 248 = .ok (.aload_n 0, 1) := by decide +kernel
theorem dX12_asksMore_249 : decode cX12_asksMore 249 = .ok (.getfield 420, 3) := by decide +kernel
theorem dX12_asksMore_252 : decode cX12_asksMore 252 = .ok (.iload_n 1, 1) := by decide +kernel
theorem dX12_asksMore_253 : decode cX12_asksMore 253 = .ok (.iaload, 1) := by decide +kernel
theorem dX12_asksMore_254 : decode cX12_asksMore 254 = .ok (.iconst 1, 1) := by decide +kernel
theorem dX12_asksMore_255 : decode cX12_asksMore 255 = .ok (.if_icmp .eq 14, 3) := by decide +kernel
theorem dX12_asksMore_258 : decode cX12_asksMore 258 = .ok (.aload_n 0, 1) := by decide +kernel
theorem dX12_asksMore_259 : decode cX12_asksMore 259 = .ok (.aload_n 0, 1) := by decide +kernel
theorem dX12_asksMore_260 : decode cX12_asksMore 260 = .ok (.getfield 405, 3) := by decide +kernel
theorem dX12_asksMore_263 : decode cX12_asksMore 263 = .ok (.iload_n 1, 1) := by decide +kernel
theorem dX12_asksMore_264 : decode cX12_asksMore 264 = .ok (.iaload, 1) := by decide +kernel
theorem dX12_asksMore_265 : decode cX12_asksMore 265 = .ok (.iload_n 2, 1) := by decide +kernel
theorem dX12_asksMore_266 : decode cX12_asksMore 266 = .ok (.invokevirtual 817, 3) := by decide +kernel
theorem dX12_asksMore_269 : decode cX12_asksMore 269 = .ok (.aload_n 0, 1) := by decide +kernel
theorem dX12_asksMore_270 : decode cX12_asksMore 270 = .ok (.getfield 408, 3) := by decide +kernel
theorem dX12_asksMore_273 : decode cX12_asksMore 273 = .ok (.iload_n 1, 1) := by decide +kernel
theorem dX12_asksMore_274 : decode cX12_asksMore 274 = .ok (.dup2, 1) := by decide +kernel
theorem dX12_asksMore_275 : decode cX12_asksMore 275 = .ok (.iaload, 1) := by decide +kernel
theorem dX12_asksMore_276 : decode cX12_asksMore 276 = .ok (.iconst 1, 1) := by decide +kernel
theorem dX12_asksMore_277 : decode cX12_asksMore 277 = .ok (.iadd, 1) := by decide +kernel
theorem dX12_asksMore_278 : decode cX12_asksMore 278 = .ok (.iastore, 1) := by decide +kernel
theorem dX12_asksMore_279 : decode cX12_asksMore 279 = .ok (.aload_n 0, 1) := by decide +kernel
theorem dX12_asksMore_280 : decode cX12_asksMore 280 = .ok (.getfield 411, 3) := by decide +kernel
theorem dX12_asksMore_283 : decode cX12_asksMore 283 = .ok (.iload_n 1, 1) := by decide +kernel
theorem dX12_asksMore_284 : decode cX12_asksMore 284 = .ok (.iconst 0, 1) := by decide +kernel
theorem dX12_asksMore_285 : decode cX12_asksMore 285 = .ok (.iastore, 1) := by decide +kernel
theorem dX12_asksMore_286 : decode cX12_asksMore 286 = .ok (.aload_n 0, 1) := by decide +kernel
theorem dX12_asksMore_287 : decode cX12_asksMore 287 = .ok (.getfield 420, 3) := by decide +kernel
theorem dX12_asksMore_290 : decode cX12_asksMore 290 = .ok (.iload_n 1, 1) := by decide +kernel
theorem dX12_asksMore_291 : decode cX12_asksMore 291 = .ok (.iconst 0, 1) := by decide +kernel
theorem dX12_asksMore_292 : decode cX12_asksMore 292 = .ok (.iastore, 1) := by decide +kernel
theorem dX12_asksMore_293 : decode cX12_asksMore 293 = .ok (.goto (-229), 3) := by decide +kernel
theorem dX12_asksMore_296 : decode cX12_asksMore 296 = .ok (.iconst 0, 1) := by decide +kernel
theorem dX12_asksMore_297 : decode cX12_asksMore 297 = .ok (.ireturn, 1) := by decide +kernel
theorem dX12_asksWhole_0 : decode cX12_asksWhole 0 = .ok (.aload_n 0, 1) := by decide +kernel
theorem dX12_asksWhole_1 : decode cX12_asksWhole 1 = .ok (.iload_n 1, 1) := by decide +kernel
theorem dX12_asksWhole_2 : decode cX12_asksWhole 2 = .ok (.putfield 802, 3) := by decide +kernel
theorem dX12_asksWhole_5 : decode cX12_asksWhole 5 = .ok (.aload_n 0, 1) := by decide +kernel
theorem dX12_asksWhole_6 : decode cX12_asksWhole 6 = .ok (.iload_n 2, 1) := by decide +kernel
theorem dX12_asksWhole_7 : decode cX12_asksWhole 7 = .ok (.putfield 805, 3) := by decide +kernel
theorem dX12_asksWhole_10 : decode cX12_asksWhole 10 = .ok (.aload_n 0, 1) := by decide +kernel
theorem dX12_asksWhole_11 : decode cX12_asksWhole 11 = .ok (.iconst 0, 1) := by decide +kernel
theorem dX12_asksWhole_12 : decode cX12_asksWhole 12 = .ok (.putfield 796, 3) := by decide +kernel
theorem dX12_asksWhole_15 : decode cX12_asksWhole 15 = .ok (.aload_n 0, 1) := by decide +kernel
theorem dX12_asksWhole_16 : decode cX12_asksWhole 16 = .ok (.iconst 0, 1) := by decide +kernel
theorem dX12_asksWhole_17 : decode cX12_asksWhole 17 = .ok (.putfield 799, 3) := by decide +kernel
theorem dX12_asksWhole_20 : decode cX12_asksWhole 20 = .ok (.aload_n 0, 1) := by decide +kernel
theorem dX12_asksWhole_21 : decode cX12_asksWhole 21 = .ok (.iconst 0, 1) := by decide +kernel
theorem dX12_asksWhole_22 : decode cX12_asksWhole 22 = .ok (.putfield 825, 3) := by decide +kernel
theorem dX12_asksWhole_25 : decode cX12_asksWhole 25 = .ok (.aload_n 0, 1) := by decide +kernel
theorem dX12_asksWhole_26 : decode cX12_asksWhole 26 = .ok (.iconst 0, 1) := by decide +kernel
theorem dX12_asksWhole_27 : decode cX12_asksWhole 27 = .ok (.putfield 793, 3) := by decide +kernel
theorem dX12_asksWhole_30 : decode cX12_asksWhole 30 = .ok (.aload_n 0, 1) := by decide +kernel
theorem dX12_asksWhole_31 : decode cX12_asksWhole 31 = .ok (.iconst 0, 1) := by decide +kernel
theorem dX12_asksWhole_32 : decode cX12_asksWhole 32 = .ok (.iconst 0, 1) := by decide +kernel
theorem dX12_asksWhole_33 : decode cX12_asksWhole 33 = .ok (.invokevirtual 820, 3) := by decide +kernel
theorem dX12_asksWhole_36 : decode cX12_asksWhole 36 = .ok (.aload_n 0, 1) := by decide +kernel
theorem dX12_asksWhole_37 : decode cX12_asksWhole 37 = .ok (.getfield 799, 3) := by decide +kernel
theorem dX12_asksWhole_40 : decode cX12_asksWhole 40 = .ok (.ifCond .le 62, 3) := by decide +kernel
theorem dX12_asksWhole_43 : decode cX12_asksWhole 43 = .ok (.aload_n 0, 1) := by decide +kernel
theorem dX12_asksWhole_44 : decode cX12_asksWhole 44 = .ok (.getfield 796, 3) := by decide +kernel
theorem dX12_asksWhole_47 : decode cX12_asksWhole 47 = .ok (.iload_n 3, 1) := by decide +kernel
theorem dX12_asksWhole_48 : decode cX12_asksWhole 48 = .ok (.if_icmp .gt 54, 3) := by decide +kernel
theorem dX12_asksWhole_51 : decode cX12_asksWhole 51 = .ok (.aload_n 0, 1) := by decide +kernel
theorem dX12_asksWhole_52 : decode cX12_asksWhole 52 = .ok (.aload_n 0, 1) := by decide +kernel
theorem dX12_asksWhole_53 : decode cX12_asksWhole 53 = .ok (.getfield 799, 3) := by decide +kernel
theorem dX12_asksWhole_56 : decode cX12_asksWhole 56 = .ok (.iconst 1, 1) := by decide +kernel
theorem dX12_asksWhole_57 : decode cX12_asksWhole 57 = .ok (.isub, 1) := by decide +kernel
theorem dX12_asksWhole_58 : decode cX12_asksWhole 58 = .ok (.invokevirtual 842, 3) := by decide +kernel
theorem dX12_asksWhole_61 : decode cX12_asksWhole 61 = .ok (.ifCond .ne (-25), 3) := by decide +kernel
theorem dX12_asksWhole_64 : decode cX12_asksWhole 64 = .ok (.aload_n 0, 1) := by decide +kernel
theorem dX12_asksWhole_65 : decode cX12_asksWhole 65 = .ok (.dup, 1) := by decide +kernel
theorem dX12_asksWhole_66 : decode cX12_asksWhole 66 = .ok (.getfield 799, 3) := by decide +kernel
theorem dX12_asksWhole_69 : decode cX12_asksWhole 69 = .ok (.iconst 1, 1) := by decide +kernel
theorem dX12_asksWhole_70 : decode cX12_asksWhole 70 = .ok (.isub, 1) := by decide +kernel
theorem dX12_asksWhole_71 : decode cX12_asksWhole 71 = .ok (.putfield 799, 3) := by decide +kernel
theorem dX12_asksWhole_74 : decode cX12_asksWhole 74 = .ok (.aload_n 0, 1) := by decide +kernel
theorem dX12_asksWhole_75 : decode cX12_asksWhole 75 = .ok (.aload_n 0, 1) := by decide +kernel
theorem dX12_asksWhole_76 : decode cX12_asksWhole 76 = .ok (.getfield 793, 3) := by decide +kernel
theorem dX12_asksWhole_79 : decode cX12_asksWhole 79 = .ok (.aload_n 0, 1) := by decide +kernel
theorem dX12_asksWhole_80 : decode cX12_asksWhole 80 = .ok (.getfield 414, 3) := by decide +kernel
theorem dX12_asksWhole_83 : decode cX12_asksWhole 83 = .ok (.aload_n 0, 1) := by decide +kernel
theorem dX12_asksWhole_84 : decode cX12_asksWhole 84 = .ok (.getfield 799, 3) := by decide +kernel
theorem dX12_asksWhole_87 : decode cX12_asksWhole 87 = .ok (.iaload, 1) := by decide +kernel
theorem dX12_asksWhole_88 : decode cX12_asksWhole 88 = .ok (.if_icmp .ne 7, 3) := by decide +kernel
theorem dX12_asksWhole_91 : decode cX12_asksWhole 91 = .ok (.iconst 1, 1) := by decide +kernel
theorem dX12_asksWhole_92 : decode cX12_asksWhole 92 = .ok (.goto 4, 3) := by decide +kernel
theorem dX12_asksWhole_95 : decode cX12_asksWhole 95 = .ok (.iconst 0, 1) := by decide +kernel
theorem dX12_asksWhole_96 : decode cX12_asksWhole 96 = .ok (.putfield 828, 3) := by decide +kernel
theorem dX12_asksWhole_99 : decode cX12_asksWhole 99 = .ok (.goto (-63), 3) := by decide +kernel
theorem dX12_asksWhole_102 : decode cX12_asksWhole 102 = .ok (.aload_n 0, 1) := by decide +kernel
theorem dX12_asksWhole_103 : decode cX12_asksWhole 103 = .ok (.aload_n 0, 1) := by decide +kernel
theorem dX12_asksWhole_104 : decode cX12_asksWhole 104 = .ok (.getfield 796, 3) := by decide +kernel
theorem dX12_asksWhole_107 : decode cX12_asksWhole 107 = .ok (.iload_n 3, 1) := by decide +kernel
theorem dX12_asksWhole_108 : decode cX12_asksWhole 108 = .ok (.if_icmp .le 7, 3) := by decide +kernel
theorem dX12_asksWhole_111 : decode cX12_asksWhole 111 = .ok (.iconst 1, 1) := by decide +kernel
theorem dX12_asksWhole_112 : decode cX12_asksWhole 112 = .ok (.goto 4, 3) := by decide +kernel
theorem dX12_asksWhole_115 : decode cX12_asksWhole 115 = .ok (.iconst 0, 1) := by decide +kernel
theorem dX12_asksWhole_116 : decode cX12_asksWhole 116 = .ok (.putfield 845, 3) := by decide +kernel
theorem dX12_asksWhole_119 : decode cX12_asksWhole 119 = .ok (.return_, 1) := by decide +kernel
theorem dX12_check_0 : decode cX12_check 0 = .ok (.aload_n 0, 1) := by decide +kernel
theorem dX12_check_1 : decode cX12_check 1 = .ok (.aload_n 0, 1) := by decide +kernel
theorem dX12_check_2 : decode cX12_check 2 = .ok (.iload_n 1, 1) := by decide +kernel
theorem dX12_check_3 : decode cX12_check 3 = .ok (.invokevirtual 22, 3) := by decide +kernel
theorem dX12_check_6 : decode cX12_check 6 = .ok (.ifCond .eq 15, 3) := by decide +kernel
theorem dX12_check_9 : decode cX12_check 9 = .ok (.aload_n 0, 1) := by decide +kernel
theorem dX12_check_10 : decode cX12_check 10 = .ok (.iload_n 2, 1) := by decide +kernel
theorem dX12_check_11 : decode cX12_check 11 = .ok (.invokevirtual 22, 3) := by decide +kernel
theorem dX12_check_14 : decode cX12_check 14 = .ok (.ifCond .eq 7, 3) := by decide +kernel
theorem dX12_check_17 : decode cX12_check 17 = .ok (.iconst 1, 1) := by decide +kernel
theorem dX12_check_18 : decode cX12_check 18 = .ok (.goto 4, 3) := by decide +kernel
theorem dX12_check_21 : decode cX12_check 21 = .ok (.iconst 0, 1) := by decide +kernel
theorem dX12_check_22 : decode cX12_check 22 = .ok (.iconst 1, 1) := by decide +kernel
theorem dX12_check_23 : decode cX12_check 23 = .ok (.invokevirtual 456, 3) := by decide +kernel
theorem dX12_check_26 : decode cX12_check 26 = .ok (.ifCond .eq 5, 3) := by decide +kernel
theorem dX12_check_29 : decode cX12_check 29 = .ok (.iconst 0, 1) := by decide +kernel
theorem dX12_check_30 : decode cX12_check 30 = .ok (.ireturn, 1) := by decide +kernel
theorem dX12_check_31 : decode cX12_check 31 = .ok (.aload_n 0, 1) := by decide +kernel
theorem dX12_check_32 : decode cX12_check 32 = .ok (.bipush 45, 2) := by decide +kernel
theorem dX12_check_34 : decode cX12_check 34 = .ok (.iload_n 1, 1) := by decide +kernel
theorem dX12_check_35 : decode cX12_check 35 = .ok (.ldc_w 848, 3) := by decide +kernel
theorem dX12_check_38 : decode cX12_check 38 = .ok (.invokevirtual 849, 3) := by decide +kernel
theorem dX12_check_41 : decode cX12_check 41 = .ok (.aload_n 0, 1) := by decide +kernel
theorem dX12_check_42 : decode cX12_check 42 = .ok (.aload_n 0, 1) := by decide +kernel
theorem dX12_check_43 : decode cX12_check 43 = .ok (.getfield 793, 3) := by decide +kernel
theorem dX12_check_46 : decode cX12_check 46 = .ok (.ifCond .ne 7, 3) := by decide +kernel
theorem dX12_check_49 : decode cX12_check 49 = .ok (.iconst 1, 1) := by decide +kernel
theorem dX12_check_50 : decode cX12_check 50 = .ok (.goto 4, 3) := by decide +kernel
theorem dX12_check_53 : decode cX12_check 53 = .ok (.iconst 0, 1) := by decide +kernel
theorem dX12_check_54 : decode cX12_check 54 = .ok (.iconst 2, 1) := by decide +kernel
theorem dX12_check_55 : decode cX12_check 55 = .ok (.invokevirtual 456, 3) := by decide +kernel
theorem dX12_check_58 : decode cX12_check 58 = .ok (.ifCond .eq 5, 3) := by decide +kernel
theorem dX12_check_61 : decode cX12_check 61 = .ok (.iconst 0, 1) := by decide +kernel
theorem dX12_check_62 : decode cX12_check 62 = .ok (.ireturn, 1) := by decide +kernel
theorem dX12_check_63 : decode cX12_check 63 = .ok (.aload_n 0, 1) := by decide +kernel
theorem dX12_check_64 : decode cX12_check 64 = .ok (.iload_n 1, 1) := by decide +kernel
theorem dX12_check_65 : decode cX12_check 65 = .ok (.iload_n 2, 1) := by decide +kernel
theorem dX12_check_66 : decode cX12_check 66 = .ok (.sipush 2000, 3) := by decide +kernel
theorem dX12_check_69 : decode cX12_check 69 = .ok (.invokevirtual 849, 3) := by decide +kernel
theorem dX12_check_72 : decode cX12_check 72 = .ok (.aload_n 0, 1) := by decide +kernel
theorem dX12_check_73 : decode cX12_check 73 = .ok (.aload_n 0, 1) := by decide +kernel
theorem dX12_check_74 : decode cX12_check 74 = .ok (.getfield 845, 3) := by decide +kernel
theorem dX12_check_77 : decode cX12_check 77 = .ok (.ifCond .ne 17, 3) := by decide +kernel
theorem dX12_check_80 : decode cX12_check 80 = .ok (.aload_n 0, 1) := by decide +kernel
theorem dX12_check_81 : decode cX12_check 81 = .ok (.getfield 793, 3) := by decide +kernel
theorem dX12_check_84 : decode cX12_check 84 = .ok (.sipush 1000, 3) := by decide +kernel
theorem dX12_check_87 : decode cX12_check 87 = .ok (.if_icmp .gt 7, 3) := by decide +kernel
theorem dX12_check_90 : decode cX12_check 90 = .ok (.iconst 1, 1) := by decide +kernel
theorem dX12_check_91 : decode cX12_check 91 = .ok (.goto 4, 3) := by decide +kernel
theorem dX12_check_94 : decode cX12_check 94 = .ok (.iconst 0, 1) := by decide +kernel
theorem dX12_check_95 : decode cX12_check 95 = .ok (.iconst 2, 1) := by decide +kernel
theorem dX12_check_96 : decode cX12_check 96 = .ok (.invokevirtual 456, 3) := by decide +kernel
theorem dX12_check_99 : decode cX12_check 99 = .ok (.ifCond .eq 5, 3) := by decide +kernel
theorem dX12_check_102 : decode cX12_check 102 = .ok (.iconst 0, 1) := by decide +kernel
theorem dX12_check_103 : decode cX12_check 103 = .ok (.ireturn, 1) := by decide +kernel
theorem dX12_check_104 : decode cX12_check 104 = .ok (.aload_n 0, 1) := by decide +kernel
theorem dX12_check_105 : decode cX12_check 105 = .ok (.aload_n 0, 1) := by decide +kernel
theorem dX12_check_106 : decode cX12_check 106 = .ok (.getfield 793, 3) := by decide +kernel
theorem dX12_check_109 : decode cX12_check 109 = .ok (.putfield 852, 3) := by decide +kernel
theorem dX12_check_112 : decode cX12_check 112 = .ok (.iconst 0, 1) := by decide +kernel
theorem dX12_check_113 : decode cX12_check 113 = .ok (.istore_n 3, 1) := by decide +kernel
theorem dX12_check_114 : decode cX12_check 114 = .ok (.iload_n 3, 1) := by decide +kernel
theorem dX12_check_115 : decode cX12_check 115 = .ok (.aload_n 0, 1) := by decide +kernel
theorem dX12_check_116 : decode cX12_check 116 = .ok (.getfield 793, 3) := by decide +kernel
theorem dX12_check_119 : decode cX12_check 119 = .ok (.if_icmp .ge 21, 3) := by decide +kernel
theorem dX12_check_122 : decode cX12_check 122 = .ok (.aload_n 0, 1) := by decide +kernel
theorem dX12_check_123 : decode cX12_check 123 = .ok (.getfield 436, 3) := by decide +kernel
theorem dX12_check_126 : decode cX12_check 126 = .ok (.iload_n 3, 1) := by decide +kernel
theorem dX12_check_127 : decode cX12_check 127 = .ok (.aload_n 0, 1) := by decide +kernel
theorem dX12_check_128 : decode cX12_check 128 = .ok (.getfield 433, 3) := by decide +kernel
theorem dX12_check_131 : decode cX12_check 131 = .ok (.iload_n 3, 1) := by decide +kernel
theorem dX12_check_132 : decode cX12_check 132 = .ok (.iaload, 1) := by decide +kernel
theorem dX12_check_133 : decode cX12_check 133 = .ok (.iastore, 1) := by decide +kernel
theorem dX12_check_134 : decode cX12_check 134 = .ok (.iinc 3 1, 3) := by decide +kernel
theorem dX12_check_137 : decode cX12_check 137 = .ok (.goto (-23), 3) := by decide +kernel
theorem dX12_check_140 : decode cX12_check 140 = .ok (.aload_n 0, 1) := by decide +kernel
theorem dX12_check_141 : decode cX12_check 141 = .ok (.getfield 852, 3) := by decide +kernel
theorem dX12_check_144 : decode cX12_check 144 = .ok (.ireturn, 1) := by decide +kernel
theorem dX12_complaint_0 : decode cX12_complaint 0 = .ok (.aload_n 0, 1) := by decide +kernel
theorem dX12_complaint_1 : decode cX12_complaint 1 = .ok (.iload_n 1, 1) := by decide +kernel
theorem dX12_complaint_2 : decode cX12_complaint 2 = .ok (.iconst 0, 1) := by decide +kernel
theorem dX12_complaint_3 : decode cX12_complaint 3 = .ok (.aload_n 0, 1) := by decide +kernel
theorem dX12_complaint_4 : decode cX12_complaint 4 = .ok (.getfield 852, 3) := by decide +kernel
theorem dX12_complaint_7 : decode cX12_complaint 7 = .ok (.iconst 1, 1) := by decide +kernel
theorem dX12_complaint_8 : decode cX12_complaint 8 = .ok (.isub, 1) := by decide +kernel
theorem dX12_complaint_9 : decode cX12_complaint 9 = .ok (.invokestatic 18, 3) := by decide +kernel
theorem dX12_complaint_12 : decode cX12_complaint 12 = .ok (.iconst 1, 1) := by decide +kernel
theorem dX12_complaint_13 : decode cX12_complaint 13 = .ok (.invokevirtual 456, 3) := by decide +kernel
theorem dX12_complaint_16 : decode cX12_complaint 16 = .ok (.ifCond .ne 17, 3) := by decide +kernel
theorem dX12_complaint_19 : decode cX12_complaint 19 = .ok (.aload_n 0, 1) := by decide +kernel
theorem dX12_complaint_20 : decode cX12_complaint 20 = .ok (.iload_n 2, 1) := by decide +kernel
theorem dX12_complaint_21 : decode cX12_complaint 21 = .ok (.iconst 0, 1) := by decide +kernel
theorem dX12_complaint_22 : decode cX12_complaint 22 = .ok (.iconst 1, 1) := by decide +kernel
theorem dX12_complaint_23 : decode cX12_complaint 23 = .ok (.invokestatic 18, 3) := by decide +kernel
theorem dX12_complaint_26 : decode cX12_complaint 26 = .ok (.iconst 2, 1) := by decide +kernel
theorem dX12_complaint_27 : decode cX12_complaint 27 = .ok (.invokevirtual 456, 3) := by decide +kernel
theorem dX12_complaint_30 : decode cX12_complaint 30 = .ok (.ifCond .eq 5, 3) := by decide +kernel
theorem dX12_complaint_33 : decode cX12_complaint 33 = .ok (.iconst 0, 1) := by decide +kernel
theorem dX12_complaint_34 : decode cX12_complaint 34 = .ok (.ireturn, 1) := by decide +kernel
theorem dX12_complaint_35 : decode cX12_complaint 35 = .ok (.iload_n 2, 1) := by decide +kernel
theorem dX12_complaint_36 : decode cX12_complaint 36 = .ok (.ifCond .ne 15, 3) := by decide +kernel
theorem dX12_complaint_39 : decode cX12_complaint 39 = .ok (.aload_n 0, 1) := by decide +kernel
theorem dX12_complaint_40 : decode cX12_complaint 40 = .ok (.getfield 436, 3) := by decide +kernel
theorem dX12_complaint_43 : decode cX12_complaint 43 = .ok (.iload_n 1, 1) := by decide +kernel
theorem dX12_complaint_44 : decode cX12_complaint 44 = .ok (.iaload, 1) := by decide +kernel
theorem dX12_complaint_45 : decode cX12_complaint 45 = .ok (.bipush 32, 2) := by decide +kernel
theorem dX12_complaint_47 : decode cX12_complaint 47 = .ok (.idiv, 1) := by decide +kernel
theorem dX12_complaint_48 : decode cX12_complaint 48 = .ok (.goto 12, 3) := by decide +kernel
theorem dX12_complaint_51 : decode cX12_complaint 51 = .ok (.aload_n 0, 1) := by decide +kernel
theorem dX12_complaint_52 : decode cX12_complaint 52 = .ok (.getfield 436, 3) := by decide +kernel
theorem dX12_complaint_55 : decode cX12_complaint 55 = .ok (.iload_n 1, 1) := by decide +kernel
theorem dX12_complaint_56 : decode cX12_complaint 56 = .ok (.iaload, 1) := by decide +kernel
theorem dX12_complaint_57 : decode cX12_complaint 57 = .ok (.bipush 32, 2) := by decide +kernel
theorem dX12_complaint_59 : decode cX12_complaint 59 = .ok (.irem, 1) := by decide +kernel
theorem dX12_complaint_60 : decode cX12_complaint 60 = .ok (.ireturn, 1) := by decide +kernel
theorem dX12_areAll_0 : decode cX12_areAll 0 = .ok (.iconst 1, 1) := by decide +kernel
theorem dX12_areAll_1 : decode cX12_areAll 1 = .ok (.istore_n 3, 1) := by decide +kernel
theorem dX12_areAll_2 : decode cX12_areAll 2 = .ok (.iconst 0, 1) := by decide +kernel
theorem dX12_areAll_3 : decode cX12_areAll 3 = .ok (.istore 4, 2) := by decide +kernel
theorem dX12_areAll_5 : decode cX12_areAll 5 = .ok (.iload 4, 2) := by decide +kernel
theorem dX12_areAll_7 : decode cX12_areAll 7 = .ok (.aload_n 0, 1) := by decide +kernel
theorem dX12_areAll_8 : decode cX12_areAll 8 = .ok (.iload_n 1, 1) := by decide +kernel
theorem dX12_areAll_9 : decode cX12_areAll 9 = .ok (.iconst 0, 1) := by decide +kernel
theorem dX12_areAll_10 : decode cX12_areAll 10 = .ok (.iconst 3, 1) := by decide +kernel
theorem dX12_areAll_11 : decode cX12_areAll 11 = .ok (.invokevirtual 36, 3) := by decide +kernel
theorem dX12_areAll_14 : decode cX12_areAll 14 = .ok (.if_icmp .ge 36, 3) := by decide +kernel
theorem dX12_areAll_17 : decode cX12_areAll 17 = .ok (.iload_n 3, 1) := by decide +kernel
theorem dX12_areAll_18 : decode cX12_areAll 18 = .ok (.ifCond .eq 24, 3) := by decide +kernel
theorem dX12_areAll_21 : decode cX12_areAll 21 = .ok (.aload_n 0, 1) := by decide +kernel
theorem dX12_areAll_22 : decode cX12_areAll 22 = .ok (.iload_n 1, 1) := by decide +kernel
theorem dX12_areAll_23 : decode cX12_areAll 23 = .ok (.aload_n 0, 1) := by decide +kernel
theorem dX12_areAll_24 : decode cX12_areAll 24 = .ok (.iload_n 1, 1) := by decide +kernel
theorem dX12_areAll_25 : decode cX12_areAll 25 = .ok (.iconst 0, 1) := by decide +kernel
theorem dX12_areAll_26 : decode cX12_areAll 26 = .ok (.iload 4, 2) := by decide +kernel
theorem dX12_areAll_28 : decode cX12_areAll 28 = .ok (.invokevirtual 616, 3) := by decide +kernel
theorem dX12_areAll_31 : decode cX12_areAll 31 = .ok (.invokevirtual 52, 3) := by decide +kernel
theorem dX12_areAll_34 : decode cX12_areAll 34 = .ok (.iload_n 2, 1) := by decide +kernel
theorem dX12_areAll_35 : decode cX12_areAll 35 = .ok (.if_icmp .ne 7, 3) := by decide +kernel
theorem dX12_areAll_38 : decode cX12_areAll 38 = .ok (.iconst 1, 1) := by decide +kernel
theorem dX12_areAll_39 : decode cX12_areAll 39 = .ok (.goto 4, 3) := by decide +kernel
theorem dX12_areAll_42 : decode cX12_areAll 42 = .ok (.iconst 0, 1) := by decide +kernel
theorem dX12_areAll_43 : decode cX12_areAll 43 = .ok (.istore_n 3, 1) := by decide +kernel
theorem dX12_areAll_44 : decode cX12_areAll 44 = .ok (.iinc 4 1, 3) := by decide +kernel
theorem dX12_areAll_47 : decode cX12_areAll 47 = .ok (.goto (-42), 3) := by decide +kernel
theorem dX12_areAll_50 : decode cX12_areAll 50 = .ok (.iload_n 3, 1) := by decide +kernel
theorem dX12_areAll_51 : decode cX12_areAll 51 = .ok (.ireturn, 1) := by decide +kernel
theorem dX12_isNewKey_0 : decode cX12_isNewKey 0 = .ok (.iconst 0, 1) := by decide +kernel
theorem dX12_isNewKey_1 : decode cX12_isNewKey 1 = .ok (.istore 4, 2) := by decide +kernel
theorem dX12_isNewKey_3 : decode cX12_isNewKey 3 = .ok (.iload 4, 2) := by decide +kernel
theorem dX12_isNewKey_5 : decode cX12_isNewKey 5 = .ok (.iload_n 2, 1) := by decide +kernel
theorem dX12_isNewKey_6 : decode cX12_isNewKey 6 = .ok (.if_icmp .ge 30, 3) := by decide +kernel
theorem dX12_isNewKey_9 : decode cX12_isNewKey 9 = .ok (.aload_n 0, 1) := by decide +kernel
theorem dX12_isNewKey_10 : decode cX12_isNewKey 10 = .ok (.iload_n 1, 1) := by decide +kernel
theorem dX12_isNewKey_11 : decode cX12_isNewKey 11 = .ok (.aload_n 0, 1) := by decide +kernel
theorem dX12_isNewKey_12 : decode cX12_isNewKey 12 = .ok (.iload_n 1, 1) := by decide +kernel
theorem dX12_isNewKey_13 : decode cX12_isNewKey 13 = .ok (.iconst 0, 1) := by decide +kernel
theorem dX12_isNewKey_14 : decode cX12_isNewKey 14 = .ok (.iload 4, 2) := by decide +kernel
theorem dX12_isNewKey_16 : decode cX12_isNewKey 16 = .ok (.invokevirtual 616, 3) := by decide +kernel
theorem dX12_isNewKey_19 : decode cX12_isNewKey 19 = .ok (.iload_n 1, 1) := by decide +kernel
theorem dX12_isNewKey_20 : decode cX12_isNewKey 20 = .ok (.iload_n 3, 1) := by decide +kernel
theorem dX12_isNewKey_21 : decode cX12_isNewKey 21 = .ok (.invokevirtual 732, 3) := by decide +kernel
theorem dX12_isNewKey_24 : decode cX12_isNewKey 24 = .ok (.iconst (-1), 1) := by decide +kernel
theorem dX12_isNewKey_25 : decode cX12_isNewKey 25 = .ok (.if_icmp .eq 5, 3) := by decide +kernel
theorem dX12_isNewKey_28 : decode cX12_isNewKey 28 = .ok (.iconst 0, 1) := by decide +kernel
theorem dX12_isNewKey_29 : decode cX12_isNewKey 29 = .ok (.ireturn, 1) := by decide +kernel
theorem dX12_isNewKey_30 : decode cX12_isNewKey 30 = .ok (.iinc 4 1, 3) := by decide +kernel
theorem dX12_isNewKey_33 : decode cX12_isNewKey 33 = .ok (.goto (-30), 3) := by decide +kernel
theorem dX12_isNewKey_36 : decode cX12_isNewKey 36 = .ok (.iconst 1, 1) := by decide +kernel
theorem dX12_isNewKey_37 : decode cX12_isNewKey 37 = .ok (.ireturn, 1) := by decide +kernel
theorem dX12_columns_0 : decode cX12_columns 0 = .ok (.aload_n 0, 1) := by decide +kernel
theorem dX12_columns_1 : decode cX12_columns 1 = .ok (.aload_n 0, 1) := by decide +kernel
theorem dX12_columns_2 : decode cX12_columns 2 = .ok (.iload_n 1, 1) := by decide +kernel
theorem dX12_columns_3 : decode cX12_columns 3 = .ok (.invokevirtual 22, 3) := by decide +kernel
theorem dX12_columns_6 : decode cX12_columns 6 = .ok (.iconst 1, 1) := by decide +kernel
theorem dX12_columns_7 : decode cX12_columns 7 = .ok (.invokevirtual 456, 3) := by decide +kernel
theorem dX12_columns_10 : decode cX12_columns 10 = .ok (.ifCond .ne 35, 3) := by decide +kernel
theorem dX12_columns_13 : decode cX12_columns 13 = .ok (.aload_n 0, 1) := by decide +kernel
theorem dX12_columns_14 : decode cX12_columns 14 = .ok (.aload_n 0, 1) := by decide +kernel
theorem dX12_columns_15 : decode cX12_columns 15 = .ok (.iload_n 1, 1) := by decide +kernel
theorem dX12_columns_16 : decode cX12_columns 16 = .ok (.iconst 0, 1) := by decide +kernel
theorem dX12_columns_17 : decode cX12_columns 17 = .ok (.invokevirtual 52, 3) := by decide +kernel
theorem dX12_columns_20 : decode cX12_columns 20 = .ok (.iconst 4, 1) := by decide +kernel
theorem dX12_columns_21 : decode cX12_columns 21 = .ok (.if_icmp .ne 16, 3) := by decide +kernel
theorem dX12_columns_24 : decode cX12_columns 24 = .ok (.aload_n 0, 1) := by decide +kernel
theorem dX12_columns_25 : decode cX12_columns 25 = .ok (.iload_n 1, 1) := by decide +kernel
theorem dX12_columns_26 : decode cX12_columns 26 = .ok (.iconst 5, 1) := by decide +kernel
theorem dX12_columns_27 : decode cX12_columns 27 = .ok (.invokevirtual 855, 3) := by decide +kernel
theorem dX12_columns_30 : decode cX12_columns 30 = .ok (.ifCond .eq 7, 3) := by decide +kernel
theorem dX12_columns_33 : decode cX12_columns 33 = .ok (.iconst 1, 1) := by decide +kernel
theorem dX12_columns_34 : decode cX12_columns 34 = .ok (.goto 4, 3) := by decide +kernel
theorem dX12_columns_37 : decode cX12_columns 37 = .ok (.iconst 0, 1) := by decide +kernel
theorem dX12_columns_38 : decode cX12_columns 38 = .ok (.iconst 2, 1) := by decide +kernel
theorem dX12_columns_39 : decode cX12_columns 39 = .ok (.invokevirtual 456, 3) := by decide +kernel
theorem dX12_columns_42 : decode cX12_columns 42 = .ok (.ifCond .eq 5, 3) := by decide +kernel
theorem dX12_columns_45 : decode cX12_columns 45 = .ok (.iconst 0, 1) := by decide +kernel
theorem dX12_columns_46 : decode cX12_columns 46 = .ok (.ireturn, 1) := by decide +kernel
theorem dX12_columns_47 : decode cX12_columns 47 = .ok (.aload_n 0, 1) := by decide +kernel
theorem dX12_columns_48 : decode cX12_columns 48 = .ok (.bipush 40, 2) := by decide +kernel
theorem dX12_columns_50 : decode cX12_columns 50 = .ok (.invokevirtual 517, 3) := by decide +kernel
theorem dX12_columns_53 : decode cX12_columns 53 = .ok (.aload_n 0, 1) := by decide +kernel
theorem dX12_columns_54 : decode cX12_columns 54 = .ok (.bipush 40, 2) := by decide +kernel
theorem dX12_columns_56 : decode cX12_columns 56 = .ok (.iconst 5, 1) := by decide +kernel
theorem dX12_columns_57 : decode cX12_columns 57 = .ok (.invokevirtual 33, 3) := by decide +kernel
theorem dX12_columns_60 : decode cX12_columns 60 = .ok (.istore_n 2, 1) := by decide +kernel
theorem dX12_columns_61 : decode cX12_columns 61 = .ok (.aload_n 0, 1) := by decide +kernel
theorem dX12_columns_62 : decode cX12_columns 62 = .ok (.iload_n 1, 1) := by decide +kernel
theorem dX12_columns_63 : decode cX12_columns 63 = .ok (.iconst 0, 1) := by decide +kernel
theorem dX12_columns_64 : decode cX12_columns 64 = .ok (.iconst 3, 1) := by decide +kernel
theorem dX12_columns_65 : decode cX12_columns 65 = .ok (.invokevirtual 36, 3) := by decide +kernel
theorem dX12_columns_68 : decode cX12_columns 68 = .ok (.istore_n 3, 1) := by decide +kernel
theorem dX12_columns_69 : decode cX12_columns 69 = .ok (.iconst 0, 1) := by decide +kernel
theorem dX12_columns_70 : decode cX12_columns 70 = .ok (.istore 4, 2) := by decide +kernel
theorem dX12_columns_72 : decode cX12_columns 72 = .ok (.iload 4, 2) := by decide +kernel
theorem dX12_columns_74 : decode cX12_columns 74 = .ok (.iload_n 3, 1) := by decide +kernel
theorem dX12_columns_75 : decode cX12_columns 75 = .ok (.if_icmp .ge 181, 3) := by decide +kernel
theorem dX12_columns_78 : decode cX12_columns 78 = .ok (.aload_n 0, 1) := by decide +kernel
theorem dX12_columns_79 : decode cX12_columns 79 = .ok (.iload_n 1, 1) := by decide +kernel
theorem dX12_columns_80 : decode cX12_columns 80 = .ok (.iconst 0, 1) := by decide +kernel
theorem dX12_columns_81 : decode cX12_columns 81 = .ok (.iload 4, 2) := by decide +kernel
theorem dX12_columns_83 : decode cX12_columns 83 = .ok (.invokevirtual 616, 3) := by decide +kernel
theorem dX12_columns_86 : decode cX12_columns 86 = .ok (.istore 5, 2) := by decide +kernel
theorem dX12_columns_88 : decode cX12_columns 88 = .ok (.iconst 0, 1) := by decide +kernel
theorem dX12_columns_89 : decode cX12_columns 89 = .ok (.istore 6, 2) := by decide +kernel
theorem dX12_columns_91 : decode cX12_columns 91 = .ok (.iload 6, 2) := by decide +kernel
theorem dX12_columns_93 : decode cX12_columns 93 = .ok (.aload_n 0, 1) := by decide +kernel
theorem dX12_columns_94 : decode cX12_columns 94 = .ok (.iload_n 1, 1) := by decide +kernel
theorem dX12_columns_95 : decode cX12_columns 95 = .ok (.iload 5, 2) := by decide +kernel
theorem dX12_columns_97 : decode cX12_columns 97 = .ok (.iconst 3, 1) := by decide +kernel
theorem dX12_columns_98 : decode cX12_columns 98 = .ok (.invokevirtual 36, 3) := by decide +kernel
theorem dX12_columns_101 : decode cX12_columns 101 = .ok (.if_icmp .ge 149, 3) := by decide +kernel
theorem dX12_columns_104 : decode cX12_columns 104 = .ok (.aload_n 0, 1) := by decide +kernel
theorem dX12_columns_105 : decode cX12_columns 105 = .ok (.iload_n 1, 1) := by decide +kernel
theorem dX12_columns_106 : decode cX12_columns 106 = .ok (.iload 5, 2) := by decide +kernel
theorem dX12_columns_108 : decode cX12_columns 108 = .ok (.iload 6, 2) := by decide +kernel
theorem dX12_columns_110 : decode cX12_columns 110 = .ok (.invokevirtual 616, 3) := by decide +kernel
theorem dX12_columns_113 : decode cX12_columns 113 = .ok (.istore 7, 2) := by decide +kernel
theorem dX12_columns_115 : decode cX12_columns 115 = .ok (.aload_n 0, 1) := by decide +kernel
theorem dX12_columns_116 : decode cX12_columns 116 = .ok (.iload_n 1, 1) := by decide +kernel
theorem dX12_columns_117 : decode cX12_columns 117 = .ok (.iload 4, 2) := by decide +kernel
theorem dX12_columns_119 : decode cX12_columns 119 = .ok (.iload 7, 2) := by decide +kernel
theorem dX12_columns_121 : decode cX12_columns 121 = .ok (.invokevirtual 858, 3) := by decide +kernel
theorem dX12_columns_124 : decode cX12_columns 124 = .ok (.ifCond .eq 120, 3) := by decide +kernel
theorem dX12_columns_127 : decode cX12_columns 127 = .ok (.aload_n 0, 1) := by decide +kernel
theorem dX12_columns_128 : decode cX12_columns 128 = .ok (.bipush 40, 2) := by decide +kernel
theorem dX12_columns_130 : decode cX12_columns 130 = .ok (.iconst 4, 1) := by decide +kernel
theorem dX12_columns_131 : decode cX12_columns 131 = .ok (.invokevirtual 33, 3) := by decide +kernel
theorem dX12_columns_134 : decode cX12_columns 134 = .ok (.istore 8, 2) := by decide +kernel
theorem dX12_columns_136 : decode cX12_columns 136 = .ok (.aload_n 0, 1) := by decide +kernel
theorem dX12_columns_137 : decode cX12_columns 137 = .ok (.iload_n 1, 1) := by decide +kernel
theorem dX12_columns_138 : decode cX12_columns 138 = .ok (.iload 7, 2) := by decide +kernel
theorem dX12_columns_140 : decode cX12_columns 140 = .ok (.invokevirtual 653, 3) := by decide +kernel
theorem dX12_columns_143 : decode cX12_columns 143 = .ok (.aload_n 0, 1) := by decide +kernel
theorem dX12_columns_144 : decode cX12_columns 144 = .ok (.bipush 40, 2) := by decide +kernel
theorem dX12_columns_146 : decode cX12_columns 146 = .ok (.iload 8, 2) := by decide +kernel
theorem dX12_columns_148 : decode cX12_columns 148 = .ok (.invokevirtual 650, 3) := by decide +kernel
theorem dX12_columns_151 : decode cX12_columns 151 = .ok (.aload_n 0, 1) := by decide +kernel
theorem dX12_columns_152 : decode cX12_columns 152 = .ok (.getfield 7, 3) := by decide +kernel
theorem dX12_columns_155 : decode cX12_columns 155 = .ok (.bipush 40, 2) := by decide +kernel
theorem dX12_columns_157 : decode cX12_columns 157 = .ok (.iload 8, 2) := by decide +kernel
theorem dX12_columns_159 : decode cX12_columns 159 = .ok (.invokestatic 11, 3) := by decide +kernel
theorem dX12_columns_162 : decode cX12_columns 162 = .ok (.iconst 3, 1) := by decide +kernel
theorem dX12_columns_163 : decode cX12_columns 163 = .ok (.iadd, 1) := by decide +kernel
theorem dX12_columns_164 : decode cX12_columns 164 = .ok (.iload_n 3, 1) := by decide +kernel
theorem dX12_columns_165 : decode cX12_columns 165 = .ok (.iastore, 1) := by decide +kernel
theorem dX12_columns_166 : decode cX12_columns 166 = .ok (.aload_n 0, 1) := by decide +kernel
theorem dX12_columns_167 : decode cX12_columns 167 = .ok (.getfield 7, 3) := by decide +kernel
theorem dX12_columns_170 : decode cX12_columns 170 = .ok (.bipush 40, 2) := by decide +kernel
theorem dX12_columns_172 : decode cX12_columns 172 = .ok (.iload_n 2, 1) := by decide +kernel
theorem dX12_columns_173 : decode cX12_columns 173 = .ok (.invokestatic 11, 3) := by decide +kernel
theorem dX12_columns_176 : decode cX12_columns 176 = .ok (.iconst 3, 1) := by decide +kernel
theorem dX12_columns_177 : decode cX12_columns 177 = .ok (.iadd, 1) := by decide +kernel
theorem dX12_columns_178 : decode cX12_columns 178 = .ok (.dup2, 1) := by decide +kernel
theorem dX12_columns_179 : decode cX12_columns 179 = .ok (.iaload, 1) := by decide +kernel
theorem dX12_columns_180 : decode cX12_columns 180 = .ok (.iconst 1, 1) := by decide +kernel
theorem dX12_columns_181 : decode cX12_columns 181 = .ok (.iadd, 1) := by decide +kernel
theorem dX12_columns_182 : decode cX12_columns 182 = .ok (.iastore, 1) := by decide +kernel
theorem dX12_columns_183 : decode cX12_columns 183 = .ok (.iconst 0, 1) := by decide +kernel
theorem dX12_columns_184 : decode cX12_columns 184 = .ok (.istore 9, 2) := by decide +kernel
theorem dX12_columns_186 : decode cX12_columns 186 = .ok (.iload 9, 2) := by decide +kernel
theorem dX12_columns_188 : decode cX12_columns 188 = .ok (.iload_n 3, 1) := by decide +kernel
theorem dX12_columns_189 : decode cX12_columns 189 = .ok (.if_icmp .ge 55, 3) := by decide +kernel
theorem dX12_columns_192 : decode cX12_columns 192 = .ok (.aload_n 0, 1) := by decide +kernel
theorem dX12_columns_193 : decode cX12_columns 193 = .ok (.iload_n 1, 1) := by decide +kernel
theorem dX12_columns_194 : decode cX12_columns 194 = .ok (.aload_n 0, 1) := by decide +kernel
theorem dX12_columns_195 : decode cX12_columns 195 = .ok (.iload_n 1, 1) := by decide +kernel
theorem dX12_columns_196 : decode cX12_columns 196 = .ok (.iconst 0, 1) := by decide +kernel
theorem dX12_columns_197 : decode cX12_columns 197 = .ok (.iload 9, 2) := by decide +kernel
theorem dX12_columns_199 : decode cX12_columns 199 = .ok (.invokevirtual 616, 3) := by decide +kernel
theorem dX12_columns_202 : decode cX12_columns 202 = .ok (.iload_n 1, 1) := by decide +kernel
theorem dX12_columns_203 : decode cX12_columns 203 = .ok (.iload 7, 2) := by decide +kernel
theorem dX12_columns_205 : decode cX12_columns 205 = .ok (.invokevirtual 732, 3) := by decide +kernel
theorem dX12_columns_208 : decode cX12_columns 208 = .ok (.istore 10, 2) := by decide +kernel
theorem dX12_columns_210 : decode cX12_columns 210 = .ok (.iload 10, 2) := by decide +kernel
theorem dX12_columns_212 : decode cX12_columns 212 = .ok (.iconst (-1), 1) := by decide +kernel
theorem dX12_columns_213 : decode cX12_columns 213 = .ok (.if_icmp .ne 15, 3) := by decide +kernel
theorem dX12_columns_216 : decode cX12_columns 216 = .ok (.aload_n 0, 1) := by decide +kernel
theorem dX12_columns_217 : decode cX12_columns 217 = .ok (.bipush 40, 2) := by decide +kernel
theorem dX12_columns_219 : decode cX12_columns 219 = .ok (.iconst 0, 1) := by decide +kernel
theorem dX12_columns_220 : decode cX12_columns 220 = .ok (.invokevirtual 33, 3) := by decide +kernel
theorem dX12_columns_223 : decode cX12_columns 223 = .ok (.istore 11, 2) := by decide +kernel
theorem dX12_columns_225 : decode cX12_columns 225 = .ok (.goto 13, 3) := by decide +kernel
theorem dX12_columns_228 : decode cX12_columns 228 = .ok (.aload_n 0, 1) := by decide +kernel
theorem dX12_columns_229 : decode cX12_columns 229 = .ok (.bipush 40, 2) := by decide +kernel
theorem dX12_columns_231 : decode cX12_columns 231 = .ok (.iload_n 1, 1) := by decide +kernel
theorem dX12_columns_232 : decode cX12_columns 232 = .ok (.iload 10, 2) := by decide +kernel
theorem dX12_columns_234 : decode cX12_columns 234 = .ok (.iconst 0, 1) := by decide +kernel
theorem dX12_columns_235 : decode cX12_columns 235 = .ok (.invokevirtual 656, 3) := by decide +kernel
theorem dX12_columns_238 : decode cX12_columns 238 = .ok (.iinc 9 1, 3) := by decide +kernel
theorem dX12_columns_241 : decode cX12_columns 241 = .ok (.goto (-55), 3) := by decide +kernel
theorem dX12_columns_244 : decode cX12_columns 244 = .ok (.iinc 6 1, 3) := by decide +kernel
theorem dX12_columns_247 : decode cX12_columns 247 = .ok (.goto (-156), 3) := by decide +kernel
theorem dX12_columns_250 : decode cX12_columns 250 = .ok (.iinc 4 1, 3) := by decide +kernel
theorem dX12_columns_253 : decode cX12_columns 253 = .ok (.goto (-181), 3) := by decide +kernel
theorem dX12_columns_256 : decode cX12_columns 256 = .ok (.aload_n 0, 1) := by decide +kernel
theorem dX12_columns_257 : decode cX12_columns 257 = .ok (.aload_n 0, 1) := by decide +kernel
theorem dX12_columns_258 : decode cX12_columns 258 = .ok (.bipush 40, 2) := by decide +kernel
theorem dX12_columns_260 : decode cX12_columns 260 = .ok (.invokevirtual 601, 3) := by decide +kernel
theorem dX12_columns_263 : decode cX12_columns 263 = .ok (.ifCond .eq 16, 3) := by decide +kernel
theorem dX12_columns_266 : decode cX12_columns 266 = .ok (.aload_n 0, 1) := by decide +kernel
theorem dX12_columns_267 : decode cX12_columns 267 = .ok (.getfield 15, 3) := by decide +kernel
theorem dX12_columns_270 : decode cX12_columns 270 = .ok (.bipush 40, 2) := by decide +kernel
theorem dX12_columns_272 : decode cX12_columns 272 = .ok (.if_icmp .ge 7, 3) := by decide +kernel
theorem dX12_columns_275 : decode cX12_columns 275 = .ok (.iconst 1, 1) := by decide +kernel
theorem dX12_columns_276 : decode cX12_columns 276 = .ok (.goto 4, 3) := by decide +kernel
theorem dX12_columns_279 : decode cX12_columns 279 = .ok (.iconst 0, 1) := by decide +kernel
theorem dX12_columns_280 : decode cX12_columns 280 = .ok (.iconst 2, 1) := by decide +kernel
theorem dX12_columns_281 : decode cX12_columns 281 = .ok (.invokevirtual 456, 3) := by decide +kernel
theorem dX12_columns_284 : decode cX12_columns 284 = .ok (.ifCond .eq 7, 3) := by decide +kernel
theorem dX12_columns_287 : decode cX12_columns 287 = .ok (.iconst 0, 1) := by decide +kernel
theorem dX12_columns_288 : decode cX12_columns 288 = .ok (.goto 9, 3) := by decide +kernel
theorem dX12_columns_291 : decode cX12_columns 291 = .ok (.aload_n 0, 1) := by decide +kernel
theorem dX12_columns_292 : decode cX12_columns 292 = .ok (.bipush 40, 2) := by decide +kernel
theorem dX12_columns_294 : decode cX12_columns 294 = .ok (.invokevirtual 536, 3) := by decide +kernel
theorem dX12_columns_297 : decode cX12_columns 297 = .ok (.ireturn, 1) := by decide +kernel
theorem dX12_rows_0 : decode cX12_rows 0 = .ok (.aload_n 0, 1) := by decide +kernel
theorem dX12_rows_1 : decode cX12_rows 1 = .ok (.aload_n 0, 1) := by decide +kernel
theorem dX12_rows_2 : decode cX12_rows 2 = .ok (.iload_n 1, 1) := by decide +kernel
theorem dX12_rows_3 : decode cX12_rows 3 = .ok (.invokevirtual 22, 3) := by decide +kernel
theorem dX12_rows_6 : decode cX12_rows 6 = .ok (.iconst 1, 1) := by decide +kernel
theorem dX12_rows_7 : decode cX12_rows 7 = .ok (.invokevirtual 456, 3) := by decide +kernel
theorem dX12_rows_10 : decode cX12_rows 10 = .ok (.ifCond .eq 5, 3) := by decide +kernel
theorem dX12_rows_13 : decode cX12_rows 13 = .ok (.iconst 0, 1) := by decide +kernel
theorem dX12_rows_14 : decode cX12_rows 14 = .ok (.ireturn, 1) := by decide +kernel
theorem dX12_rows_15 : decode cX12_rows 15 = .ok (.aload_n 0, 1) := by decide +kernel
theorem dX12_rows_16 : decode cX12_rows 16 = .ok (.iload_n 1, 1) := by decide +kernel
theorem dX12_rows_17 : decode cX12_rows 17 = .ok (.iconst 0, 1) := by decide +kernel
theorem dX12_rows_18 : decode cX12_rows 18 = .ok (.iconst 3, 1) := by decide +kernel
theorem dX12_rows_19 : decode cX12_rows 19 = .ok (.invokevirtual 36, 3) := by decide +kernel
theorem dX12_rows_22 : decode cX12_rows 22 = .ok (.istore_n 2, 1) := by decide +kernel
theorem dX12_rows_23 : decode cX12_rows 23 = .ok (.aload_n 0, 1) := by decide +kernel
theorem dX12_rows_24 : decode cX12_rows 24 = .ok (.iload_n 1, 1) := by decide +kernel
theorem dX12_rows_25 : decode cX12_rows 25 = .ok (.iconst 0, 1) := by decide +kernel
theorem dX12_rows_26 : decode cX12_rows 26 = .ok (.invokevirtual 52, 3) := by decide +kernel
theorem dX12_rows_29 : decode cX12_rows 29 = .ok (.iconst 5, 1) := by decide +kernel
theorem dX12_rows_30 : decode cX12_rows 30 = .ok (.if_icmp .ne 20, 3) := by decide +kernel
theorem dX12_rows_33 : decode cX12_rows 33 = .ok (.iload_n 2, 1) := by decide +kernel
theorem dX12_rows_34 : decode cX12_rows 34 = .ok (.ifCond .le 16, 3) := by decide +kernel
theorem dX12_rows_37 : decode cX12_rows 37 = .ok (.aload_n 0, 1) := by decide +kernel
theorem dX12_rows_38 : decode cX12_rows 38 = .ok (.iload_n 1, 1) := by decide +kernel
theorem dX12_rows_39 : decode cX12_rows 39 = .ok (.iconst 4, 1) := by decide +kernel
theorem dX12_rows_40 : decode cX12_rows 40 = .ok (.invokevirtual 855, 3) := by decide +kernel
theorem dX12_rows_43 : decode cX12_rows 43 = .ok (.ifCond .eq 7, 3) := by decide +kernel
theorem dX12_rows_46 : decode cX12_rows 46 = .ok (.iconst 1, 1) := by decide +kernel
theorem dX12_rows_47 : decode cX12_rows 47 = .ok (.goto 4, 3) := by decide +kernel
theorem dX12_rows_50 : decode cX12_rows 50 = .ok (.iconst 0, 1) := by decide +kernel
theorem dX12_rows_51 : decode cX12_rows 51 = .ok (.istore_n 3, 1) := by decide +kernel
theorem dX12_rows_52 : decode cX12_rows 52 = .ok (.iconst 1, 1) := by decide +kernel
theorem dX12_rows_53 : decode cX12_rows 53 = .ok (.istore 4, 2) := by decide +kernel
theorem dX12_rows_55 : decode cX12_rows 55 = .ok (.iload 4, 2) := by decide +kernel
theorem dX12_rows_57 : decode cX12_rows 57 = .ok (.iload_n 2, 1) := by decide +kernel
theorem dX12_rows_58 : decode cX12_rows 58 = .ok (.if_icmp .ge 43, 3) := by decide +kernel
theorem dX12_rows_61 : decode cX12_rows 61 = .ok (.iload_n 3, 1) := by decide +kernel
theorem dX12_rows_62 : decode cX12_rows 62 = .ok (.ifCond .eq 39, 3) := by decide +kernel
theorem dX12_rows_65 : decode cX12_rows 65 = .ok (.aload_n 0, 1) := by decide +kernel
theorem dX12_rows_66 : decode cX12_rows 66 = .ok (.iload_n 1, 1) := by decide +kernel
theorem dX12_rows_67 : decode cX12_rows 67 = .ok (.aload_n 0, 1) := by decide +kernel
theorem dX12_rows_68 : decode cX12_rows 68 = .ok (.iload_n 1, 1) := by decide +kernel
theorem dX12_rows_69 : decode cX12_rows 69 = .ok (.iconst 0, 1) := by decide +kernel
theorem dX12_rows_70 : decode cX12_rows 70 = .ok (.iload 4, 2) := by decide +kernel
theorem dX12_rows_72 : decode cX12_rows 72 = .ok (.invokevirtual 616, 3) := by decide +kernel
theorem dX12_rows_75 : decode cX12_rows 75 = .ok (.iconst 3, 1) := by decide +kernel
theorem dX12_rows_76 : decode cX12_rows 76 = .ok (.invokevirtual 36, 3) := by decide +kernel
theorem dX12_rows_79 : decode cX12_rows 79 = .ok (.aload_n 0, 1) := by decide +kernel
theorem dX12_rows_80 : decode cX12_rows 80 = .ok (.iload_n 1, 1) := by decide +kernel
theorem dX12_rows_81 : decode cX12_rows 81 = .ok (.iconst 1, 1) := by decide +kernel
theorem dX12_rows_82 : decode cX12_rows 82 = .ok (.iconst 3, 1) := by decide +kernel
theorem dX12_rows_83 : decode cX12_rows 83 = .ok (.invokevirtual 36, 3) := by decide +kernel
theorem dX12_rows_86 : decode cX12_rows 86 = .ok (.if_icmp .ne 7, 3) := by decide +kernel
theorem dX12_rows_89 : decode cX12_rows 89 = .ok (.iconst 1, 1) := by decide +kernel
theorem dX12_rows_90 : decode cX12_rows 90 = .ok (.goto 4, 3) := by decide +kernel
theorem dX12_rows_93 : decode cX12_rows 93 = .ok (.iconst 0, 1) := by decide +kernel
theorem dX12_rows_94 : decode cX12_rows 94 = .ok (.istore_n 3, 1) := by decide +kernel
theorem dX12_rows_95 : decode cX12_rows 95 = .ok (.iinc 4 1, 3) := by decide +kernel
theorem dX12_rows_98 : decode cX12_rows 98 = .ok (.goto (-43), 3) := by decide +kernel
theorem dX12_rows_101 : decode cX12_rows 101 = .ok (.aload_n 0, 1) := by decide +kernel
theorem dX12_rows_102 : decode cX12_rows 102 = .ok (.iload_n 3, 1) := by decide +kernel
theorem dX12_rows_103 : decode cX12_rows 103 = .ok (.iconst 2, 1) := by decide +kernel
theorem dX12_rows_104 : decode cX12_rows 104 = .ok (.invokevirtual 456, 3) := by decide +kernel
theorem dX12_rows_107 : decode cX12_rows 107 = .ok (.ifCond .eq 5, 3) := by decide +kernel
theorem dX12_rows_110 : decode cX12_rows 110 = .ok (.iconst 0, 1) := by decide +kernel
theorem dX12_rows_111 : decode cX12_rows 111 = .ok (.ireturn, 1) := by decide +kernel
theorem dX12_rows_112 : decode cX12_rows 112 = .ok (.aload_n 0, 1) := by decide +kernel
theorem dX12_rows_113 : decode cX12_rows 113 = .ok (.bipush 40, 2) := by decide +kernel
theorem dX12_rows_115 : decode cX12_rows 115 = .ok (.invokevirtual 517, 3) := by decide +kernel
theorem dX12_rows_118 : decode cX12_rows 118 = .ok (.aload_n 0, 1) := by decide +kernel
theorem dX12_rows_119 : decode cX12_rows 119 = .ok (.bipush 40, 2) := by decide +kernel
theorem dX12_rows_121 : decode cX12_rows 121 = .ok (.iconst 4, 1) := by decide +kernel
theorem dX12_rows_122 : decode cX12_rows 122 = .ok (.invokevirtual 33, 3) := by decide +kernel
theorem dX12_rows_125 : decode cX12_rows 125 = .ok (.istore 4, 2) := by decide +kernel
theorem dX12_rows_127 : decode cX12_rows 127 = .ok (.aload_n 0, 1) := by decide +kernel
theorem dX12_rows_128 : decode cX12_rows 128 = .ok (.iload_n 1, 1) := by decide +kernel
theorem dX12_rows_129 : decode cX12_rows 129 = .ok (.iconst 1, 1) := by decide +kernel
theorem dX12_rows_130 : decode cX12_rows 130 = .ok (.iconst 3, 1) := by decide +kernel
theorem dX12_rows_131 : decode cX12_rows 131 = .ok (.invokevirtual 36, 3) := by decide +kernel
theorem dX12_rows_134 : decode cX12_rows 134 = .ok (.istore 5, 2) := by decide +kernel
theorem dX12_rows_136 : decode cX12_rows 136 = .ok (.aload_n 0, 1) := by decide +kernel
theorem dX12_rows_137 : decode cX12_rows 137 = .ok (.getfield 7, 3) := by decide +kernel
theorem dX12_rows_140 : decode cX12_rows 140 = .ok (.bipush 40, 2) := by decide +kernel
theorem dX12_rows_142 : decode cX12_rows 142 = .ok (.iload 4, 2) := by decide +kernel
theorem dX12_rows_144 : decode cX12_rows 144 = .ok (.invokestatic 11, 3) := by decide +kernel
theorem dX12_rows_147 : decode cX12_rows 147 = .ok (.iconst 3, 1) := by decide +kernel
theorem dX12_rows_148 : decode cX12_rows 148 = .ok (.iadd, 1) := by decide +kernel
theorem dX12_rows_149 : decode cX12_rows 149 = .ok (.iload 5, 2) := by decide +kernel
theorem dX12_rows_151 : decode cX12_rows 151 = .ok (.iastore, 1) := by decide +kernel
theorem dX12_rows_152 : decode cX12_rows 152 = .ok (.iconst 0, 1) := by decide +kernel
theorem dX12_rows_153 : decode cX12_rows 153 = .ok (.istore 6, 2) := by decide +kernel
theorem dX12_rows_155 : decode cX12_rows 155 = .ok (.iload 6, 2) := by decide +kernel
theorem dX12_rows_157 : decode cX12_rows 157 = .ok (.iload 5, 2) := by decide +kernel
theorem dX12_rows_159 : decode cX12_rows 159 = .ok (.if_icmp .ge 82, 3) := by decide +kernel
theorem dX12_rows_162 : decode cX12_rows 162 = .ok (.aload_n 0, 1) := by decide +kernel
theorem dX12_rows_163 : decode cX12_rows 163 = .ok (.bipush 40, 2) := by decide +kernel
theorem dX12_rows_165 : decode cX12_rows 165 = .ok (.iconst 5, 1) := by decide +kernel
theorem dX12_rows_166 : decode cX12_rows 166 = .ok (.invokevirtual 33, 3) := by decide +kernel
theorem dX12_rows_169 : decode cX12_rows 169 = .ok (.istore 7, 2) := by decide +kernel
theorem dX12_rows_171 : decode cX12_rows 171 = .ok (.aload_n 0, 1) := by decide +kernel
theorem dX12_rows_172 : decode cX12_rows 172 = .ok (.getfield 7, 3) := by decide +kernel
theorem dX12_rows_175 : decode cX12_rows 175 = .ok (.bipush 40, 2) := by decide +kernel
theorem dX12_rows_177 : decode cX12_rows 177 = .ok (.iload 7, 2) := by decide +kernel
theorem dX12_rows_179 : decode cX12_rows 179 = .ok (.invokestatic 11, 3) := by decide +kernel
theorem dX12_rows_182 : decode cX12_rows 182 = .ok (.iconst 3, 1) := by decide +kernel
theorem dX12_rows_183 : decode cX12_rows 183 = .ok (.iadd, 1) := by decide +kernel
theorem dX12_rows_184 : decode cX12_rows 184 = .ok (.iload_n 2, 1) := by decide +kernel
theorem dX12_rows_185 : decode cX12_rows 185 = .ok (.iastore, 1) := by decide +kernel
theorem dX12_rows_186 : decode cX12_rows 186 = .ok (.iconst 0, 1) := by decide +kernel
theorem dX12_rows_187 : decode cX12_rows 187 = .ok (.istore 8, 2) := by decide +kernel
theorem dX12_rows_189 : decode cX12_rows 189 = .ok (.iload 8, 2) := by decide +kernel
theorem dX12_rows_191 : decode cX12_rows 191 = .ok (.iload_n 2, 1) := by decide +kernel
theorem dX12_rows_192 : decode cX12_rows 192 = .ok (.if_icmp .ge 43, 3) := by decide +kernel
theorem dX12_rows_195 : decode cX12_rows 195 = .ok (.aload_n 0, 1) := by decide +kernel
theorem dX12_rows_196 : decode cX12_rows 196 = .ok (.iload_n 1, 1) := by decide +kernel
theorem dX12_rows_197 : decode cX12_rows 197 = .ok (.iconst 0, 1) := by decide +kernel
theorem dX12_rows_198 : decode cX12_rows 198 = .ok (.iload 8, 2) := by decide +kernel
theorem dX12_rows_200 : decode cX12_rows 200 = .ok (.invokevirtual 616, 3) := by decide +kernel
theorem dX12_rows_203 : decode cX12_rows 203 = .ok (.istore 9, 2) := by decide +kernel
theorem dX12_rows_205 : decode cX12_rows 205 = .ok (.aload_n 0, 1) := by decide +kernel
theorem dX12_rows_206 : decode cX12_rows 206 = .ok (.iload_n 1, 1) := by decide +kernel
theorem dX12_rows_207 : decode cX12_rows 207 = .ok (.iload 9, 2) := by decide +kernel
theorem dX12_rows_209 : decode cX12_rows 209 = .ok (.invokevirtual 653, 3) := by decide +kernel
theorem dX12_rows_212 : decode cX12_rows 212 = .ok (.aload_n 0, 1) := by decide +kernel
theorem dX12_rows_213 : decode cX12_rows 213 = .ok (.bipush 40, 2) := by decide +kernel
theorem dX12_rows_215 : decode cX12_rows 215 = .ok (.iload_n 1, 1) := by decide +kernel
theorem dX12_rows_216 : decode cX12_rows 216 = .ok (.aload_n 0, 1) := by decide +kernel
theorem dX12_rows_217 : decode cX12_rows 217 = .ok (.iload_n 1, 1) := by decide +kernel
theorem dX12_rows_218 : decode cX12_rows 218 = .ok (.iload 9, 2) := by decide +kernel
theorem dX12_rows_220 : decode cX12_rows 220 = .ok (.iload 6, 2) := by decide +kernel
theorem dX12_rows_222 : decode cX12_rows 222 = .ok (.invokevirtual 616, 3) := by decide +kernel
theorem dX12_rows_225 : decode cX12_rows 225 = .ok (.iconst 1, 1) := by decide +kernel
theorem dX12_rows_226 : decode cX12_rows 226 = .ok (.invokevirtual 656, 3) := by decide +kernel
theorem dX12_rows_229 : decode cX12_rows 229 = .ok (.iinc 8 1, 3) := by decide +kernel
theorem dX12_rows_232 : decode cX12_rows 232 = .ok (.goto (-43), 3) := by decide +kernel
theorem dX12_rows_235 : decode cX12_rows 235 = .ok (.iinc 6 1, 3) := by decide +kernel
theorem dX12_rows_238 : decode cX12_rows 238 = .ok (.goto (-83), 3) := by decide +kernel
theorem dX12_rows_241 : decode cX12_rows 241 = .ok (.aload_n 0, 1) := by decide +kernel
theorem dX12_rows_242 : decode cX12_rows 242 = .ok (.aload_n 0, 1) := by decide +kernel
theorem dX12_rows_243 : decode cX12_rows 243 = .ok (.bipush 40, 2) := by decide +kernel
theorem dX12_rows_245 : decode cX12_rows 245 = .ok (.invokevirtual 601, 3) := by decide +kernel
theorem dX12_rows_248 : decode cX12_rows 248 = .ok (.ifCond .eq 16, 3) := by decide +kernel
theorem dX12_rows_251 : decode cX12_rows 251 = .ok (.aload_n 0, 1) := by decide +kernel
theorem dX12_rows_252 : decode cX12_rows 252 = .ok (.getfield 15, 3) := by decide +kernel
theorem dX12_rows_255 : decode cX12_rows 255 = .ok (.bipush 40, 2) := by decide +kernel
theorem dX12_rows_257 : decode cX12_rows 257 = .ok (.if_icmp .ge 7, 3) := by decide +kernel
theorem dX12_rows_260 : decode cX12_rows 260 = .ok (.iconst 1, 1) := by decide +kernel
theorem dX12_rows_261 : decode cX12_rows 261 = .ok (.goto 4, 3) := by decide +kernel
theorem dX12_rows_264 : decode cX12_rows 264 = .ok (.iconst 0, 1) := by decide +kernel
theorem dX12_rows_265 : decode cX12_rows 265 = .ok (.iconst 2, 1) := by decide +kernel
theorem dX12_rows_266 : decode cX12_rows 266 = .ok (.invokevirtual 456, 3) := by decide +kernel
theorem dX12_rows_269 : decode cX12_rows 269 = .ok (.ifCond .eq 7, 3) := by decide +kernel
theorem dX12_rows_272 : decode cX12_rows 272 = .ok (.iconst 0, 1) := by decide +kernel
theorem dX12_rows_273 : decode cX12_rows 273 = .ok (.goto 9, 3) := by decide +kernel
theorem dX12_rows_276 : decode cX12_rows 276 = .ok (.aload_n 0, 1) := by decide +kernel
theorem dX12_rows_277 : decode cX12_rows 277 = .ok (.bipush 40, 2) := by decide +kernel
theorem dX12_rows_279 : decode cX12_rows 279 = .ok (.invokevirtual 536, 3) := by decide +kernel
theorem dX12_rows_282 : decode cX12_rows 282 = .ok (.ireturn, 1) := by decide +kernel
theorem dX12_draw_0 : decode cX12_draw 0 = .ok (.aload_n 0, 1) := by decide +kernel
theorem dX12_draw_1 : decode cX12_draw 1 = .ok (.sipush 25173, 3) := by decide +kernel
theorem dX12_draw_4 : decode cX12_draw 4 = .ok (.aload_n 0, 1) := by decide +kernel
theorem dX12_draw_5 : decode cX12_draw 5 = .ok (.getfield 861, 3) := by decide +kernel
theorem dX12_draw_8 : decode cX12_draw 8 = .ok (.imul, 1) := by decide +kernel
theorem dX12_draw_9 : decode cX12_draw 9 = .ok (.sipush 13849, 3) := by decide +kernel
theorem dX12_draw_12 : decode cX12_draw 12 = .ok (.iadd, 1) := by decide +kernel
theorem dX12_draw_13 : decode cX12_draw 13 = .ok (.ldc_w 864, 3) := by decide +kernel
theorem dX12_draw_16 : decode cX12_draw 16 = .ok (.irem, 1) := by decide +kernel
theorem dX12_draw_17 : decode cX12_draw 17 = .ok (.putfield 861, 3) := by decide +kernel
theorem dX12_draw_20 : decode cX12_draw 20 = .ok (.aload_n 0, 1) := by decide +kernel
theorem dX12_draw_21 : decode cX12_draw 21 = .ok (.getfield 861, 3) := by decide +kernel
theorem dX12_draw_24 : decode cX12_draw 24 = .ok (.bipush 16, 2) := by decide +kernel
theorem dX12_draw_26 : decode cX12_draw 26 = .ok (.idiv, 1) := by decide +kernel
theorem dX12_draw_27 : decode cX12_draw 27 = .ok (.iload_n 1, 1) := by decide +kernel
theorem dX12_draw_28 : decode cX12_draw 28 = .ok (.irem, 1) := by decide +kernel
theorem dX12_draw_29 : decode cX12_draw 29 = .ok (.ireturn, 1) := by decide +kernel
theorem dX12_drawsOne_0 : decode cX12_drawsOne 0 = .ok (.iload_n 3, 1) := by decide +kernel
theorem dX12_drawsOne_1 : decode cX12_drawsOne 1 = .ok (.ifCond .eq 14, 3) := by decide +kernel
theorem dX12_drawsOne_4 : decode cX12_drawsOne 4 = .ok (.bipush 97, 2) := by decide +kernel
theorem dX12_drawsOne_6 : decode cX12_drawsOne 6 = .ok (.aload_n 0, 1) := by decide +kernel
theorem dX12_drawsOne_7 : decode cX12_drawsOne 7 = .ok (.iconst 5, 1) := by decide +kernel
theorem dX12_drawsOne_8 : decode cX12_drawsOne 8 = .ok (.invokevirtual 865, 3) := by decide +kernel
theorem dX12_drawsOne_11 : decode cX12_drawsOne 11 = .ok (.iadd, 1) := by decide +kernel
theorem dX12_drawsOne_12 : decode cX12_drawsOne 12 = .ok (.goto 4, 3) := by decide +kernel
theorem dX12_drawsOne_15 : decode cX12_drawsOne 15 = .ok (.iconst 0, 1) := by decide +kernel
theorem dX12_drawsOne_16 : decode cX12_drawsOne 16 = .ok (.istore 4, 2) := by decide +kernel
theorem dX12_drawsOne_18 : decode cX12_drawsOne 18 = .ok (.iload_n 1, 1) := by decide +kernel
theorem dX12_drawsOne_19 : decode cX12_drawsOne 19 = .ok (.ifCond .ne 13, 3) := by decide +kernel
theorem dX12_drawsOne_22 : decode cX12_drawsOne 22 = .ok (.iconst 4, 1) := by decide +kernel
theorem dX12_drawsOne_23 : decode cX12_drawsOne 23 = .ok (.aload_n 0, 1) := by decide +kernel
theorem dX12_drawsOne_24 : decode cX12_drawsOne 24 = .ok (.iconst 4, 1) := by decide +kernel
theorem dX12_drawsOne_25 : decode cX12_drawsOne 25 = .ok (.invokevirtual 865, 3) := by decide +kernel
theorem dX12_drawsOne_28 : decode cX12_drawsOne 28 = .ok (.iadd, 1) := by decide +kernel
theorem dX12_drawsOne_29 : decode cX12_drawsOne 29 = .ok (.goto 22, 3) := by decide +kernel
theorem dX12_drawsOne_32 : decode cX12_drawsOne 32 = .ok (.iload_n 1, 1) := by decide +kernel
theorem dX12_drawsOne_33 : decode cX12_drawsOne 33 = .ok (.iconst 3, 1) := by decide +kernel
theorem dX12_drawsOne_34 : decode cX12_drawsOne 34 = .ok (.if_icmp .ne 11, 3) := by decide +kernel
theorem dX12_drawsOne_37 : decode cX12_drawsOne 37 = .ok (.aload_n 0, 1) := by decide +kernel
theorem dX12_drawsOne_38 : decode cX12_drawsOne 38 = .ok (.iconst 4, 1) := by decide +kernel
theorem dX12_drawsOne_39 : decode cX12_drawsOne 39 = .ok (.invokevirtual 865, 3) := by decide +kernel
theorem dX12_drawsOne_42 : decode cX12_drawsOne 42 = .ok (.goto 9, 3) := by decide +kernel
theorem dX12_drawsOne_45 : decode cX12_drawsOne 45 = .ok (.aload_n 0, 1) := by decide +kernel
theorem dX12_drawsOne_46 : decode cX12_drawsOne 46 = .ok (.bipush 8, 2) := by decide +kernel
theorem dX12_drawsOne_48 : decode cX12_drawsOne 48 = .ok (.invokevirtual 865, 3) := by decide +kernel
theorem dX12_drawsOne_51 : decode cX12_drawsOne 51 = .ok (.istore 5, 2) := by decide +kernel
theorem dX12_drawsOne_53 : decode cX12_drawsOne 53 = .ok (.aload_n 0, 1) := by decide +kernel
theorem dX12_drawsOne_54 : decode cX12_drawsOne 54 = .ok (.bipush 40, 2) := by decide +kernel
theorem dX12_drawsOne_56 : decode cX12_drawsOne 56 = .ok (.iload 5, 2) := by decide +kernel
theorem dX12_drawsOne_58 : decode cX12_drawsOne 58 = .ok (.iconst 4, 1) := by decide +kernel
theorem dX12_drawsOne_59 : decode cX12_drawsOne 59 = .ok (.if_icmp .ge 8, 3) := by decide +kernel
theorem dX12_drawsOne_62 : decode cX12_drawsOne 62 = .ok (.iload 5, 2) := by decide +kernel
theorem dX12_drawsOne_64 : decode cX12_drawsOne 64 = .ok (.goto 15, 3) := by decide +kernel
theorem dX12_drawsOne_67 : decode cX12_drawsOne 67 = .ok (.iload 5, 2) := by decide +kernel
theorem dX12_drawsOne_69 : decode cX12_drawsOne 69 = .ok (.bipush 6, 2) := by decide +kernel
theorem dX12_drawsOne_71 : decode cX12_drawsOne 71 = .ok (.if_icmp .ge 7, 3) := by decide +kernel
theorem dX12_drawsOne_74 : decode cX12_drawsOne 74 = .ok (.iconst 4, 1) := by decide +kernel
theorem dX12_drawsOne_75 : decode cX12_drawsOne 75 = .ok (.goto 4, 3) := by decide +kernel
theorem dX12_drawsOne_78 : decode cX12_drawsOne 78 = .ok (.iconst 5, 1) := by decide +kernel
theorem dX12_drawsOne_79 : decode cX12_drawsOne 79 = .ok (.invokevirtual 33, 3) := by decide +kernel
theorem dX12_drawsOne_82 : decode cX12_drawsOne 82 = .ok (.istore 6, 2) := by decide +kernel
theorem dX12_drawsOne_84 : decode cX12_drawsOne 84 = .ok (.iload_n 3, 1) := by decide +kernel
theorem dX12_drawsOne_85 : decode cX12_drawsOne 85 = .ok (.ifCond .eq 24, 3) := by decide +kernel
theorem dX12_drawsOne_88 : decode cX12_drawsOne 88 = .ok (.aload_n 0, 1) := by decide +kernel
theorem dX12_drawsOne_89 : decode cX12_drawsOne 89 = .ok (.getfield 69, 3) := by decide +kernel
theorem dX12_drawsOne_92 : decode cX12_drawsOne 92 = .ok (.iconst 0, 1) := by decide +kernel
theorem dX12_drawsOne_93 : decode cX12_drawsOne 93 = .ok (.iload 4, 2) := by decide +kernel
theorem dX12_drawsOne_95 : decode cX12_drawsOne 95 = .ok (.iastore, 1) := by decide +kernel
theorem dX12_drawsOne_96 : decode cX12_drawsOne 96 = .ok (.aload_n 0, 1) := by decide +kernel
theorem dX12_drawsOne_97 : decode cX12_drawsOne 97 = .ok (.iconst 1, 1) := by decide +kernel
theorem dX12_drawsOne_98 : decode cX12_drawsOne 98 = .ok (.putfield 66, 3) := by decide +kernel
theorem dX12_drawsOne_101 : decode cX12_drawsOne 101 = .ok (.aload_n 0, 1) := by decide +kernel
theorem dX12_drawsOne_102 : decode cX12_drawsOne 102 = .ok (.bipush 40, 2) := by decide +kernel
theorem dX12_drawsOne_104 : decode cX12_drawsOne 104 = .ok (.iload 6, 2) := by decide +kernel
theorem dX12_drawsOne_106 : decode cX12_drawsOne 106 = .ok (.invokevirtual 650, 3) := by decide +kernel
theorem dX12_drawsOne_109 : decode cX12_drawsOne 109 = .ok (.iload 5, 2) := by decide +kernel
theorem dX12_drawsOne_111 : decode cX12_drawsOne 111 = .ok (.iconst 1, 1) := by decide +kernel
theorem dX12_drawsOne_112 : decode cX12_drawsOne 112 = .ok (.if_icmp .ne 26, 3) := by decide +kernel
theorem dX12_drawsOne_115 : decode cX12_drawsOne 115 = .ok (.aload_n 0, 1) := by decide +kernel
theorem dX12_drawsOne_116 : decode cX12_drawsOne 116 = .ok (.getfield 7, 3) := by decide +kernel
theorem dX12_drawsOne_119 : decode cX12_drawsOne 119 = .ok (.bipush 40, 2) := by decide +kernel
theorem dX12_drawsOne_121 : decode cX12_drawsOne 121 = .ok (.iload 6, 2) := by decide +kernel
theorem dX12_drawsOne_123 : decode cX12_drawsOne 123 = .ok (.invokestatic 11, 3) := by decide +kernel
theorem dX12_drawsOne_126 : decode cX12_drawsOne 126 = .ok (.bipush 19, 2) := by decide +kernel
theorem dX12_drawsOne_128 : decode cX12_drawsOne 128 = .ok (.iadd, 1) := by decide +kernel
theorem dX12_drawsOne_129 : decode cX12_drawsOne 129 = .ok (.aload_n 0, 1) := by decide +kernel
theorem dX12_drawsOne_130 : decode cX12_drawsOne 130 = .ok (.iconst 2, 1) := by decide +kernel
theorem dX12_drawsOne_131 : decode cX12_drawsOne 131 = .ok (.invokevirtual 865, 3) := by decide +kernel
theorem dX12_drawsOne_134 : decode cX12_drawsOne 134 = .ok (.iastore, 1) := by decide +kernel
theorem dX12_drawsOne_135 : decode cX12_drawsOne 135 = .ok (.goto 171, 3) := by decide +kernel
theorem dX12_drawsOne_138 : decode cX12_drawsOne 138 = .ok (.iload 5, 2) := by decide +kernel
theorem dX12_drawsOne_140 : decode cX12_drawsOne 140 = .ok (.iconst 2, 1) := by decide +kernel
theorem dX12_drawsOne_141 : decode cX12_drawsOne 141 = .ok (.if_icmp .ne 72, 3) := by decide +kernel
theorem dX12_drawsOne_144 : decode cX12_drawsOne 144 = .ok (.aload_n 0, 1) := by decide +kernel
theorem dX12_drawsOne_145 : decode cX12_drawsOne 145 = .ok (.sipush 1000, 3) := by decide +kernel
theorem dX12_drawsOne_148 : decode cX12_drawsOne 148 = .ok (.invokevirtual 865, 3) := by decide +kernel
theorem dX12_drawsOne_151 : decode cX12_drawsOne 151 = .ok (.istore 7, 2) := by decide +kernel
theorem dX12_drawsOne_153 : decode cX12_drawsOne 153 = .ok (.aload_n 0, 1) := by decide +kernel
theorem dX12_drawsOne_154 : decode cX12_drawsOne 154 = .ok (.iconst 5, 1) := by decide +kernel
theorem dX12_drawsOne_155 : decode cX12_drawsOne 155 = .ok (.invokevirtual 865, 3) := by decide +kernel
theorem dX12_drawsOne_158 : decode cX12_drawsOne 158 = .ok (.iconst 2, 1) := by decide +kernel
theorem dX12_drawsOne_159 : decode cX12_drawsOne 159 = .ok (.isub, 1) := by decide +kernel
theorem dX12_drawsOne_160 : decode cX12_drawsOne 160 = .ok (.istore 8, 2) := by decide +kernel
theorem dX12_drawsOne_162 : decode cX12_drawsOne 162 = .ok (.aload_n 0, 1) := by decide +kernel
theorem dX12_drawsOne_163 : decode cX12_drawsOne 163 = .ok (.getfield 250, 3) := by decide +kernel
theorem dX12_drawsOne_166 : decode cX12_drawsOne 166 = .ok (.iconst 0, 1) := by decide +kernel
theorem dX12_drawsOne_167 : decode cX12_drawsOne 167 = .ok (.iload 7, 2) := by decide +kernel
theorem dX12_drawsOne_169 : decode cX12_drawsOne 169 = .ok (.bipush 100, 2) := by decide +kernel
theorem dX12_drawsOne_171 : decode cX12_drawsOne 171 = .ok (.idiv, 1) := by decide +kernel
theorem dX12_drawsOne_172 : decode cX12_drawsOne 172 = .ok (.iastore, 1) := by decide +kernel
theorem dX12_drawsOne_173 : decode cX12_drawsOne 173 = .ok (.aload_n 0, 1) := by decide +kernel
theorem dX12_drawsOne_174 : decode cX12_drawsOne 174 = .ok (.getfield 250, 3) := by decide +kernel
theorem dX12_drawsOne_177 : decode cX12_drawsOne 177 = .ok (.iconst 1, 1) := by decide +kernel
theorem dX12_drawsOne_178 : decode cX12_drawsOne 178 = .ok (.iload 7, 2) := by decide +kernel
theorem dX12_drawsOne_180 : decode cX12_drawsOne 180 = .ok (.bipush 10, 2) := by decide +kernel
theorem dX12_drawsOne_182 : decode cX12_drawsOne 182 = .ok (.idiv, 1) := by decide +kernel
theorem dX12_drawsOne_183 : decode cX12_drawsOne 183 = .ok (.bipush 10, 2) := by decide +kernel
theorem dX12_drawsOne_185 : decode cX12_drawsOne 185 = .ok (.irem, 1) := by decide +kernel
theorem dX12_drawsOne_186 : decode cX12_drawsOne 186 = .ok (.iastore, 1) := by decide +kernel
theorem dX12_drawsOne_187 : decode cX12_drawsOne 187 = .ok (.aload_n 0, 1) := by decide +kernel
theorem dX12_drawsOne_188 : decode cX12_drawsOne 188 = .ok (.getfield 250, 3) := by decide +kernel
theorem dX12_drawsOne_191 : decode cX12_drawsOne 191 = .ok (.iconst 2, 1) := by decide +kernel
theorem dX12_drawsOne_192 : decode cX12_drawsOne 192 = .ok (.iload 7, 2) := by decide +kernel
theorem dX12_drawsOne_194 : decode cX12_drawsOne 194 = .ok (.bipush 10, 2) := by decide +kernel
theorem dX12_drawsOne_196 : decode cX12_drawsOne 196 = .ok (.irem, 1) := by decide +kernel
theorem dX12_drawsOne_197 : decode cX12_drawsOne 197 = .ok (.iastore, 1) := by decide +kernel
theorem dX12_drawsOne_198 : decode cX12_drawsOne 198 = .ok (.aload_n 0, 1) := by decide +kernel
theorem dX12_drawsOne_199 : decode cX12_drawsOne 199 = .ok (.iload 6, 2) := by decide +kernel
theorem dX12_drawsOne_201 : decode cX12_drawsOne 201 = .ok (.iconst 0, 1) := by decide +kernel
theorem dX12_drawsOne_202 : decode cX12_drawsOne 202 = .ok (.iconst 3, 1) := by decide +kernel
theorem dX12_drawsOne_203 : decode cX12_drawsOne 203 = .ok (.iload 8, 2) := by decide +kernel
theorem dX12_drawsOne_205 : decode cX12_drawsOne 205 = .ok (.invokevirtual 485, 3) := by decide +kernel
theorem dX12_drawsOne_208 : decode cX12_drawsOne 208 = .ok (.istore 9, 2) := by decide +kernel
theorem dX12_drawsOne_210 : decode cX12_drawsOne 210 = .ok (.goto 96, 3) := by decide +kernel
theorem dX12_drawsOne_213 : decode cX12_drawsOne 213 = .ok (.iload 5, 2) := by decide +kernel
theorem dX12_drawsOne_215 : decode cX12_drawsOne 215 = .ok (.iconst 3, 1) := by decide +kernel
theorem dX12_drawsOne_216 : decode cX12_drawsOne 216 = .ok (.if_icmp .ne 56, 3) := by decide +kernel
theorem dX12_drawsOne_219 : decode cX12_drawsOne 219 = .ok (.aload_n 0, 1) := by decide +kernel
theorem dX12_drawsOne_220 : decode cX12_drawsOne 220 = .ok (.aload_n 0, 1) := by decide +kernel
theorem dX12_drawsOne_221 : decode cX12_drawsOne 221 = .ok (.iconst 4, 1) := by decide +kernel
theorem dX12_drawsOne_222 : decode cX12_drawsOne 222 = .ok (.invokevirtual 865, 3) := by decide +kernel
theorem dX12_drawsOne_225 : decode cX12_drawsOne 225 = .ok (.putfield 66, 3) := by decide +kernel
theorem dX12_drawsOne_228 : decode cX12_drawsOne 228 = .ok (.iconst 0, 1) := by decide +kernel
theorem dX12_drawsOne_229 : decode cX12_drawsOne 229 = .ok (.istore 7, 2) := by decide +kernel
theorem dX12_drawsOne_231 : decode cX12_drawsOne 231 = .ok (.iload 7, 2) := by decide +kernel
theorem dX12_drawsOne_233 : decode cX12_drawsOne 233 = .ok (.aload_n 0, 1) := by decide +kernel
theorem dX12_drawsOne_234 : decode cX12_drawsOne 234 = .ok (.getfield 66, 3) := by decide +kernel
theorem dX12_drawsOne_237 : decode cX12_drawsOne 237 = .ok (.if_icmp .ge 24, 3) := by decide +kernel
theorem dX12_drawsOne_240 : decode cX12_drawsOne 240 = .ok (.aload_n 0, 1) := by decide +kernel
theorem dX12_drawsOne_241 : decode cX12_drawsOne 241 = .ok (.getfield 69, 3) := by decide +kernel
theorem dX12_drawsOne_244 : decode cX12_drawsOne 244 = .ok (.iload 7, 2) := by decide +kernel
theorem dX12_drawsOne_246 : decode cX12_drawsOne 246 = .ok (.bipush 97, 2) := by decide +kernel
theorem dX12_drawsOne_248 : decode cX12_drawsOne 248 = .ok (.aload_n 0, 1) := by decide +kernel
theorem dX12_drawsOne_249 : decode cX12_drawsOne 249 = .ok (.iconst 3, 1) := by decide +kernel
theorem dX12_drawsOne_250 : decode cX12_drawsOne 250 = .ok (.invokevirtual 865, 3) := by decide +kernel
theorem dX12_drawsOne_253 : decode cX12_drawsOne 253 = .ok (.iadd, 1) := by decide +kernel
theorem dX12_drawsOne_254 : decode cX12_drawsOne 254 = .ok (.iastore, 1) := by decide +kernel
theorem dX12_drawsOne_255 : decode cX12_drawsOne 255 = .ok (.iinc 7 1, 3) := by decide +kernel
theorem dX12_drawsOne_258 : decode cX12_drawsOne 258 = .ok (.goto (-27), 3) := by decide +kernel
theorem dX12_drawsOne_261 : decode cX12_drawsOne 261 = .ok (.aload_n 0, 1) := by decide +kernel
theorem dX12_drawsOne_262 : decode cX12_drawsOne 262 = .ok (.bipush 40, 2) := by decide +kernel
theorem dX12_drawsOne_264 : decode cX12_drawsOne 264 = .ok (.iload 6, 2) := by decide +kernel
theorem dX12_drawsOne_266 : decode cX12_drawsOne 266 = .ok (.invokevirtual 492, 3) := by decide +kernel
theorem dX12_drawsOne_269 : decode cX12_drawsOne 269 = .ok (.goto 37, 3) := by decide +kernel
theorem dX12_drawsOne_272 : decode cX12_drawsOne 272 = .ok (.iload 5, 2) := by decide +kernel
theorem dX12_drawsOne_274 : decode cX12_drawsOne 274 = .ok (.iconst 3, 1) := by decide +kernel
theorem dX12_drawsOne_275 : decode cX12_drawsOne 275 = .ok (.if_icmp .le 31, 3) := by decide +kernel
theorem dX12_drawsOne_278 : decode cX12_drawsOne 278 = .ok (.aload_n 0, 1) := by decide +kernel
theorem dX12_drawsOne_279 : decode cX12_drawsOne 279 = .ok (.iload_n 2, 1) := by decide +kernel
theorem dX12_drawsOne_280 : decode cX12_drawsOne 280 = .ok (.iconst 1, 1) := by decide +kernel
theorem dX12_drawsOne_281 : decode cX12_drawsOne 281 = .ok (.iadd, 1) := by decide +kernel
theorem dX12_drawsOne_282 : decode cX12_drawsOne 282 = .ok (.invokevirtual 865, 3) := by decide +kernel
theorem dX12_drawsOne_285 : decode cX12_drawsOne 285 = .ok (.istore 7, 2) := by decide +kernel
theorem dX12_drawsOne_287 : decode cX12_drawsOne 287 = .ok (.aload_n 0, 1) := by decide +kernel
theorem dX12_drawsOne_288 : decode cX12_drawsOne 288 = .ok (.getfield 7, 3) := by decide +kernel
theorem dX12_drawsOne_291 : decode cX12_drawsOne 291 = .ok (.bipush 40, 2) := by decide +kernel
theorem dX12_drawsOne_293 : decode cX12_drawsOne 293 = .ok (.iload 6, 2) := by decide +kernel
theorem dX12_drawsOne_295 : decode cX12_drawsOne 295 = .ok (.invokestatic 11, 3) := by decide +kernel
theorem dX12_drawsOne_298 : decode cX12_drawsOne 298 = .ok (.iconst 3, 1) := by decide +kernel
theorem dX12_drawsOne_299 : decode cX12_drawsOne 299 = .ok (.iadd, 1) := by decide +kernel
theorem dX12_drawsOne_300 : decode cX12_drawsOne 300 = .ok (.iload 7, 2) := by decide +kernel
theorem dX12_drawsOne_302 : decode cX12_drawsOne 302 = .ok (.iastore, 1) := by decide +kernel
theorem dX12_drawsOne_303 : decode cX12_drawsOne 303 = .ok (.iload 7, 2) := by decide +kernel
theorem dX12_drawsOne_305 : decode cX12_drawsOne 305 = .ok (.ireturn, 1) := by decide +kernel
theorem dX12_drawsOne_306 : decode cX12_drawsOne 306 = .ok (.iconst 0, 1) := by decide +kernel
theorem dX12_drawsOne_307 : decode cX12_drawsOne 307 = .ok (.ireturn, 1) := by decide +kernel
theorem dX12_grows_0 : decode cX12_grows 0 = .ok (.aload_n 0, 1) := by decide +kernel
theorem dX12_grows_1 : decode cX12_grows 1 = .ok (.bipush 40, 2) := by decide +kernel
theorem dX12_grows_3 : decode cX12_grows 3 = .ok (.invokevirtual 517, 3) := by decide +kernel
theorem dX12_grows_6 : decode cX12_grows 6 = .ok (.aload_n 0, 1) := by decide +kernel
theorem dX12_grows_7 : decode cX12_grows 7 = .ok (.iload_n 1, 1) := by decide +kernel
theorem dX12_grows_8 : decode cX12_grows 8 = .ok (.iload_n 2, 1) := by decide +kernel
theorem dX12_grows_9 : decode cX12_grows 9 = .ok (.iconst 0, 1) := by decide +kernel
theorem dX12_grows_10 : decode cX12_grows 10 = .ok (.invokevirtual 868, 3) := by decide +kernel
theorem dX12_grows_13 : decode cX12_grows 13 = .ok (.istore_n 3, 1) := by decide +kernel
theorem dX12_grows_14 : decode cX12_grows 14 = .ok (.iconst 0, 1) := by decide +kernel
theorem dX12_grows_15 : decode cX12_grows 15 = .ok (.istore 4, 2) := by decide +kernel
theorem dX12_grows_17 : decode cX12_grows 17 = .ok (.iload_n 3, 1) := by decide +kernel
theorem dX12_grows_18 : decode cX12_grows 18 = .ok (.ifCond .le 20, 3) := by decide +kernel
theorem dX12_grows_21 : decode cX12_grows 21 = .ok (.aload_n 0, 1) := by decide +kernel
theorem dX12_grows_22 : decode cX12_grows 22 = .ok (.getfield 439, 3) := by decide +kernel
theorem dX12_grows_25 : decode cX12_grows 25 = .ok (.iconst 0, 1) := by decide +kernel
theorem dX12_grows_26 : decode cX12_grows 26 = .ok (.iconst 0, 1) := by decide +kernel
theorem dX12_grows_27 : decode cX12_grows 27 = .ok (.iastore, 1) := by decide +kernel
theorem dX12_grows_28 : decode cX12_grows 28 = .ok (.aload_n 0, 1) := by decide +kernel
theorem dX12_grows_29 : decode cX12_grows 29 = .ok (.getfield 442, 3) := by decide +kernel
theorem dX12_grows_32 : decode cX12_grows 32 = .ok (.iconst 0, 1) := by decide +kernel
theorem dX12_grows_33 : decode cX12_grows 33 = .ok (.iload_n 3, 1) := by decide +kernel
theorem dX12_grows_34 : decode cX12_grows 34 = .ok (.iastore, 1) := by decide +kernel
theorem dX12_grows_35 : decode cX12_grows 35 = .ok (.iconst 1, 1) := by decide +kernel
theorem dX12_grows_36 : decode cX12_grows 36 = .ok (.istore 4, 2) := by decide +kernel
theorem dX12_grows_38 : decode cX12_grows 38 = .ok (.iload 4, 2) := by decide +kernel
theorem dX12_grows_40 : decode cX12_grows 40 = .ok (.ifCond .le 102, 3) := by decide +kernel
theorem dX12_grows_43 : decode cX12_grows 43 = .ok (.aload_n 0, 1) := by decide +kernel
theorem dX12_grows_44 : decode cX12_grows 44 = .ok (.getfield 442, 3) := by decide +kernel
theorem dX12_grows_47 : decode cX12_grows 47 = .ok (.iload 4, 2) := by decide +kernel
theorem dX12_grows_49 : decode cX12_grows 49 = .ok (.iconst 1, 1) := by decide +kernel
theorem dX12_grows_50 : decode cX12_grows 50 = .ok (.isub, 1) := by decide +kernel
theorem dX12_grows_51 : decode cX12_grows 51 = .ok (.iaload, 1) := by decide +kernel
theorem dX12_grows_52 : decode cX12_grows 52 = .ok (.ifCond .ne 9, 3) := by decide +kernel
theorem dX12_grows_55 : decode cX12_grows 55 = .ok (.iinc 4 (-1), 3) := by decide +kernel
theorem dX12_grows_58 : decode cX12_grows 58 = .ok (.goto (-20), 3) := by decide +kernel
theorem dX12_grows_61 : decode cX12_grows 61 = .ok (.aload_n 0, 1) := by decide +kernel
theorem dX12_grows_62 : decode cX12_grows 62 = .ok (.getfield 442, 3) := by decide +kernel
theorem dX12_grows_65 : decode cX12_grows 65 = .ok (.iload 4, 2) := by decide +kernel
theorem dX12_grows_67 : decode cX12_grows 67 = .ok (.iconst 1, 1) := by decide +kernel
theorem dX12_grows_68 : decode cX12_grows 68 = .ok (.isub, 1) := by decide +kernel
theorem dX12_grows_69 : decode cX12_grows 69 = .ok (.dup2, 1) := by decide +kernel
theorem dX12_grows_70 : decode cX12_grows 70 = .ok (.iaload, 1) := by decide +kernel
theorem dX12_grows_71 : decode cX12_grows 71 = .ok (.iconst 1, 1) := by decide +kernel
theorem dX12_grows_72 : decode cX12_grows 72 = .ok (.isub, 1) := by decide +kernel
theorem dX12_grows_73 : decode cX12_grows 73 = .ok (.iastore, 1) := by decide +kernel
theorem dX12_grows_74 : decode cX12_grows 74 = .ok (.aload_n 0, 1) := by decide +kernel
theorem dX12_grows_75 : decode cX12_grows 75 = .ok (.iload_n 1, 1) := by decide +kernel
theorem dX12_grows_76 : decode cX12_grows 76 = .ok (.iload 4, 2) := by decide +kernel
theorem dX12_grows_78 : decode cX12_grows 78 = .ok (.iadd, 1) := by decide +kernel
theorem dX12_grows_79 : decode cX12_grows 79 = .ok (.iload_n 2, 1) := by decide +kernel
theorem dX12_grows_80 : decode cX12_grows 80 = .ok (.aload_n 0, 1) := by decide +kernel
theorem dX12_grows_81 : decode cX12_grows 81 = .ok (.bipush 40, 2) := by decide +kernel
theorem dX12_grows_83 : decode cX12_grows 83 = .ok (.aload_n 0, 1) := by decide +kernel
theorem dX12_grows_84 : decode cX12_grows 84 = .ok (.getfield 439, 3) := by decide +kernel
theorem dX12_grows_87 : decode cX12_grows 87 = .ok (.iload 4, 2) := by decide +kernel
theorem dX12_grows_89 : decode cX12_grows 89 = .ok (.iconst 1, 1) := by decide +kernel
theorem dX12_grows_90 : decode cX12_grows 90 = .ok (.isub, 1) := by decide +kernel
theorem dX12_grows_91 : decode cX12_grows 91 = .ok (.iaload, 1) := by decide +kernel
theorem dX12_grows_92 : decode cX12_grows 92 = .ok (.invokevirtual 52, 3) := by decide +kernel
theorem dX12_grows_95 : decode cX12_grows 95 = .ok (.iconst 5, 1) := by decide +kernel
theorem dX12_grows_96 : decode cX12_grows 96 = .ok (.if_icmp .ne 7, 3) := by decide +kernel
theorem dX12_grows_99 : decode cX12_grows 99 = .ok (.iconst 1, 1) := by decide +kernel
theorem dX12_grows_100 : decode cX12_grows 100 = .ok (.goto 4, 3) := by decide +kernel
theorem dX12_grows_103 : decode cX12_grows 103 = .ok (.iconst 0, 1) := by decide +kernel
theorem dX12_grows_104 : decode cX12_grows 104 = .ok (.invokevirtual 868, 3) := by decide +kernel
theorem dX12_grows_107 : decode cX12_grows 107 = .ok (.istore_n 3, 1) := by decide +kernel
theorem dX12_grows_108 : decode cX12_grows 108 = .ok (.iload_n 3, 1) := by decide +kernel
theorem dX12_grows_109 : decode cX12_grows 109 = .ok (.ifCond .le (-71), 3) := by decide +kernel
theorem dX12_grows_112 : decode cX12_grows 112 = .ok (.aload_n 0, 1) := by decide +kernel
theorem dX12_grows_113 : decode cX12_grows 113 = .ok (.getfield 439, 3) := by decide +kernel
theorem dX12_grows_116 : decode cX12_grows 116 = .ok (.iload 4, 2) := by decide +kernel
theorem dX12_grows_118 : decode cX12_grows 118 = .ok (.aload_n 0, 1) := by decide +kernel
theorem dX12_grows_119 : decode cX12_grows 119 = .ok (.getfield 26, 3) := by decide +kernel
theorem dX12_grows_122 : decode cX12_grows 122 = .ok (.bipush 40, 2) := by decide +kernel
theorem dX12_grows_124 : decode cX12_grows 124 = .ok (.iaload, 1) := by decide +kernel
theorem dX12_grows_125 : decode cX12_grows 125 = .ok (.iconst 1, 1) := by decide +kernel
theorem dX12_grows_126 : decode cX12_grows 126 = .ok (.isub, 1) := by decide +kernel
theorem dX12_grows_127 : decode cX12_grows 127 = .ok (.iastore, 1) := by decide +kernel
theorem dX12_grows_128 : decode cX12_grows 128 = .ok (.aload_n 0, 1) := by decide +kernel
theorem dX12_grows_129 : decode cX12_grows 129 = .ok (.getfield 442, 3) := by decide +kernel
theorem dX12_grows_132 : decode cX12_grows 132 = .ok (.iload 4, 2) := by decide +kernel
theorem dX12_grows_134 : decode cX12_grows 134 = .ok (.iload_n 3, 1) := by decide +kernel
theorem dX12_grows_135 : decode cX12_grows 135 = .ok (.iastore, 1) := by decide +kernel
theorem dX12_grows_136 : decode cX12_grows 136 = .ok (.iinc 4 1, 3) := by decide +kernel
theorem dX12_grows_139 : decode cX12_grows 139 = .ok (.goto (-101), 3) := by decide +kernel
theorem dX12_grows_142 : decode cX12_grows 142 = .ok (.aload_n 0, 1) := by decide +kernel
theorem dX12_grows_143 : decode cX12_grows 143 = .ok (.bipush 40, 2) := by decide +kernel
theorem dX12_grows_145 : decode cX12_grows 145 = .ok (.invokevirtual 55, 3) := by decide +kernel
theorem dX12_grows_148 : decode cX12_grows 148 = .ok (.aload_n 0, 1) := by decide +kernel
theorem dX12_grows_149 : decode cX12_grows 149 = .ok (.bipush 40, 2) := by decide +kernel
theorem dX12_grows_151 : decode cX12_grows 151 = .ok (.iconst 0, 1) := by decide +kernel
theorem dX12_grows_152 : decode cX12_grows 152 = .ok (.bipush 41, 2) := by decide +kernel
theorem dX12_grows_154 : decode cX12_grows 154 = .ok (.iconst 3, 1) := by decide +kernel
theorem dX12_grows_155 : decode cX12_grows 155 = .ok (.invokevirtual 529, 3) := by decide +kernel
theorem dX12_grows_158 : decode cX12_grows 158 = .ok (.aload_n 0, 1) := by decide +kernel
theorem dX12_grows_159 : decode cX12_grows 159 = .ok (.bipush 41, 2) := by decide +kernel
theorem dX12_grows_161 : decode cX12_grows 161 = .ok (.invokevirtual 55, 3) := by decide +kernel
theorem dX12_grows_164 : decode cX12_grows 164 = .ok (.return_, 1) := by decide +kernel
theorem dX12_grow_0 : decode cX12_grow 0 = .ok (.aload_n 0, 1) := by decide +kernel
theorem dX12_grow_1 : decode cX12_grow 1 = .ok (.iload_n 1, 1) := by decide +kernel
theorem dX12_grow_2 : decode cX12_grow 2 = .ok (.iconst 0, 1) := by decide +kernel
theorem dX12_grow_3 : decode cX12_grow 3 = .ok (.ldc_w 871, 3) := by decide +kernel
theorem dX12_grow_6 : decode cX12_grow 6 = .ok (.invokestatic 18, 3) := by decide +kernel
theorem dX12_grow_9 : decode cX12_grow 9 = .ok (.ifCond .eq 16, 3) := by decide +kernel
theorem dX12_grow_12 : decode cX12_grow 12 = .ok (.iload_n 2, 1) := by decide +kernel
theorem dX12_grow_13 : decode cX12_grow 13 = .ok (.iconst 1, 1) := by decide +kernel
theorem dX12_grow_14 : decode cX12_grow 14 = .ok (.iconst 3, 1) := by decide +kernel
theorem dX12_grow_15 : decode cX12_grow 15 = .ok (.invokestatic 18, 3) := by decide +kernel
theorem dX12_grow_18 : decode cX12_grow 18 = .ok (.ifCond .eq 7, 3) := by decide +kernel
theorem dX12_grow_21 : decode cX12_grow 21 = .ok (.iconst 1, 1) := by decide +kernel
theorem dX12_grow_22 : decode cX12_grow 22 = .ok (.goto 4, 3) := by decide +kernel
theorem dX12_grow_25 : decode cX12_grow 25 = .ok (.iconst 0, 1) := by decide +kernel
theorem dX12_grow_26 : decode cX12_grow 26 = .ok (.iconst 1, 1) := by decide +kernel
theorem dX12_grow_27 : decode cX12_grow 27 = .ok (.invokevirtual 456, 3) := by decide +kernel
theorem dX12_grow_30 : decode cX12_grow 30 = .ok (.ifCond .ne 25, 3) := by decide +kernel
theorem dX12_grow_33 : decode cX12_grow 33 = .ok (.aload_n 0, 1) := by decide +kernel
theorem dX12_grow_34 : decode cX12_grow 34 = .ok (.aload_n 0, 1) := by decide +kernel
theorem dX12_grow_35 : decode cX12_grow 35 = .ok (.getfield 15, 3) := by decide +kernel
theorem dX12_grow_38 : decode cX12_grow 38 = .ok (.bipush 40, 2) := by decide +kernel
theorem dX12_grow_40 : decode cX12_grow 40 = .ok (.if_icmp .ge 7, 3) := by decide +kernel
theorem dX12_grow_43 : decode cX12_grow 43 = .ok (.iconst 1, 1) := by decide +kernel
theorem dX12_grow_44 : decode cX12_grow 44 = .ok (.goto 4, 3) := by decide +kernel
theorem dX12_grow_47 : decode cX12_grow 47 = .ok (.iconst 0, 1) := by decide +kernel
theorem dX12_grow_48 : decode cX12_grow 48 = .ok (.iconst 2, 1) := by decide +kernel
theorem dX12_grow_49 : decode cX12_grow 49 = .ok (.invokevirtual 456, 3) := by decide +kernel
theorem dX12_grow_52 : decode cX12_grow 52 = .ok (.ifCond .eq 5, 3) := by decide +kernel
theorem dX12_grow_55 : decode cX12_grow 55 = .ok (.iconst 0, 1) := by decide +kernel
theorem dX12_grow_56 : decode cX12_grow 56 = .ok (.ireturn, 1) := by decide +kernel
theorem dX12_grow_57 : decode cX12_grow 57 = .ok (.aload_n 0, 1) := by decide +kernel
theorem dX12_grow_58 : decode cX12_grow 58 = .ok (.iload_n 1, 1) := by decide +kernel
theorem dX12_grow_59 : decode cX12_grow 59 = .ok (.putfield 861, 3) := by decide +kernel
theorem dX12_grow_62 : decode cX12_grow 62 = .ok (.aload_n 0, 1) := by decide +kernel
theorem dX12_grow_63 : decode cX12_grow 63 = .ok (.iconst 0, 1) := by decide +kernel
theorem dX12_grow_64 : decode cX12_grow 64 = .ok (.iload_n 2, 1) := by decide +kernel
theorem dX12_grow_65 : decode cX12_grow 65 = .ok (.invokevirtual 872, 3) := by decide +kernel
theorem dX12_grow_68 : decode cX12_grow 68 = .ok (.aload_n 0, 1) := by decide +kernel
theorem dX12_grow_69 : decode cX12_grow 69 = .ok (.bipush 41, 2) := by decide +kernel
theorem dX12_grow_71 : decode cX12_grow 71 = .ok (.invokevirtual 536, 3) := by decide +kernel
theorem dX12_grow_74 : decode cX12_grow 74 = .ok (.ireturn, 1) := by decide +kernel
theorem dX12_vary_0 : decode cX12_vary 0 = .ok (.aload_n 0, 1) := by decide +kernel
theorem dX12_vary_1 : decode cX12_vary 1 = .ok (.aload_n 0, 1) := by decide +kernel
theorem dX12_vary_2 : decode cX12_vary 2 = .ok (.iload_n 1, 1) := by decide +kernel
theorem dX12_vary_3 : decode cX12_vary 3 = .ok (.invokevirtual 22, 3) := by decide +kernel
theorem dX12_vary_6 : decode cX12_vary 6 = .ok (.iconst 1, 1) := by decide +kernel
theorem dX12_vary_7 : decode cX12_vary 7 = .ok (.invokevirtual 456, 3) := by decide +kernel
theorem dX12_vary_10 : decode cX12_vary 10 = .ok (.ifCond .ne 19, 3) := by decide +kernel
theorem dX12_vary_13 : decode cX12_vary 13 = .ok (.aload_n 0, 1) := by decide +kernel
theorem dX12_vary_14 : decode cX12_vary 14 = .ok (.iload_n 2, 1) := by decide +kernel
theorem dX12_vary_15 : decode cX12_vary 15 = .ok (.iconst 0, 1) := by decide +kernel
theorem dX12_vary_16 : decode cX12_vary 16 = .ok (.ldc_w 871, 3) := by decide +kernel
theorem dX12_vary_19 : decode cX12_vary 19 = .ok (.invokestatic 18, 3) := by decide +kernel
theorem dX12_vary_22 : decode cX12_vary 22 = .ok (.iconst 2, 1) := by decide +kernel
theorem dX12_vary_23 : decode cX12_vary 23 = .ok (.invokevirtual 456, 3) := by decide +kernel
theorem dX12_vary_26 : decode cX12_vary 26 = .ok (.ifCond .eq 5, 3) := by decide +kernel
theorem dX12_vary_29 : decode cX12_vary 29 = .ok (.iconst 0, 1) := by decide +kernel
theorem dX12_vary_30 : decode cX12_vary 30 = .ok (.ireturn, 1) := by decide +kernel
theorem dX12_vary_31 : decode cX12_vary 31 = .ok (.aload_n 0, 1) := by decide +kernel
theorem dX12_vary_32 : decode cX12_vary 32 = .ok (.iload_n 2, 1) := by decide +kernel
theorem dX12_vary_33 : decode cX12_vary 33 = .ok (.putfield 861, 3) := by decide +kernel
theorem dX12_vary_36 : decode cX12_vary 36 = .ok (.aload_n 0, 1) := by decide +kernel
theorem dX12_vary_37 : decode cX12_vary 37 = .ok (.aload_n 0, 1) := by decide +kernel
theorem dX12_vary_38 : decode cX12_vary 38 = .ok (.getfield 26, 3) := by decide +kernel
theorem dX12_vary_41 : decode cX12_vary 41 = .ok (.iload_n 1, 1) := by decide +kernel
theorem dX12_vary_42 : decode cX12_vary 42 = .ok (.iaload, 1) := by decide +kernel
theorem dX12_vary_43 : decode cX12_vary 43 = .ok (.invokevirtual 865, 3) := by decide +kernel
theorem dX12_vary_46 : decode cX12_vary 46 = .ok (.istore_n 3, 1) := by decide +kernel
theorem dX12_vary_47 : decode cX12_vary 47 = .ok (.aload_n 0, 1) := by decide +kernel
theorem dX12_vary_48 : decode cX12_vary 48 = .ok (.iconst 2, 1) := by decide +kernel
theorem dX12_vary_49 : decode cX12_vary 49 = .ok (.iconst 2, 1) := by decide +kernel
theorem dX12_vary_50 : decode cX12_vary 50 = .ok (.invokevirtual 872, 3) := by decide +kernel
theorem dX12_vary_53 : decode cX12_vary 53 = .ok (.aload_n 0, 1) := by decide +kernel
theorem dX12_vary_54 : decode cX12_vary 54 = .ok (.bipush 43, 2) := by decide +kernel
theorem dX12_vary_56 : decode cX12_vary 56 = .ok (.iload_n 1, 1) := by decide +kernel
theorem dX12_vary_57 : decode cX12_vary 57 = .ok (.iload_n 3, 1) := by decide +kernel
theorem dX12_vary_58 : decode cX12_vary 58 = .ok (.bipush 41, 2) := by decide +kernel
theorem dX12_vary_60 : decode cX12_vary 60 = .ok (.iconst 0, 1) := by decide +kernel
theorem dX12_vary_61 : decode cX12_vary 61 = .ok (.invokevirtual 666, 3) := by decide +kernel
theorem dX12_vary_64 : decode cX12_vary 64 = .ok (.aload_n 0, 1) := by decide +kernel
theorem dX12_vary_65 : decode cX12_vary 65 = .ok (.aload_n 0, 1) := by decide +kernel
theorem dX12_vary_66 : decode cX12_vary 66 = .ok (.bipush 43, 2) := by decide +kernel
theorem dX12_vary_68 : decode cX12_vary 68 = .ok (.invokevirtual 601, 3) := by decide +kernel
theorem dX12_vary_71 : decode cX12_vary 71 = .ok (.ifCond .eq 16, 3) := by decide +kernel
theorem dX12_vary_74 : decode cX12_vary 74 = .ok (.aload_n 0, 1) := by decide +kernel
theorem dX12_vary_75 : decode cX12_vary 75 = .ok (.getfield 15, 3) := by decide +kernel
theorem dX12_vary_78 : decode cX12_vary 78 = .ok (.bipush 40, 2) := by decide +kernel
theorem dX12_vary_80 : decode cX12_vary 80 = .ok (.if_icmp .ge 7, 3) := by decide +kernel
theorem dX12_vary_83 : decode cX12_vary 83 = .ok (.iconst 1, 1) := by decide +kernel
theorem dX12_vary_84 : decode cX12_vary 84 = .ok (.goto 4, 3) := by decide +kernel
theorem dX12_vary_87 : decode cX12_vary 87 = .ok (.iconst 0, 1) := by decide +kernel
theorem dX12_vary_88 : decode cX12_vary 88 = .ok (.iconst 3, 1) := by decide +kernel
theorem dX12_vary_89 : decode cX12_vary 89 = .ok (.invokevirtual 456, 3) := by decide +kernel
theorem dX12_vary_92 : decode cX12_vary 92 = .ok (.ifCond .eq 7, 3) := by decide +kernel
theorem dX12_vary_95 : decode cX12_vary 95 = .ok (.iconst 0, 1) := by decide +kernel
theorem dX12_vary_96 : decode cX12_vary 96 = .ok (.goto 9, 3) := by decide +kernel
theorem dX12_vary_99 : decode cX12_vary 99 = .ok (.aload_n 0, 1) := by decide +kernel
theorem dX12_vary_100 : decode cX12_vary 100 = .ok (.bipush 43, 2) := by decide +kernel
theorem dX12_vary_102 : decode cX12_vary 102 = .ok (.invokevirtual 536, 3) := by decide +kernel
theorem dX12_vary_105 : decode cX12_vary 105 = .ok (.ireturn, 1) := by decide +kernel
theorem dX12_sum_0 : decode cX12_sum 0 = .ok (.aload_n 0, 1) := by decide +kernel
theorem dX12_sum_1 : decode cX12_sum 1 = .ok (.iload_n 1, 1) := by decide +kernel
theorem dX12_sum_2 : decode cX12_sum 2 = .ok (.iconst 0, 1) := by decide +kernel
theorem dX12_sum_3 : decode cX12_sum 3 = .ok (.bipush 6, 2) := by decide +kernel
theorem dX12_sum_5 : decode cX12_sum 5 = .ok (.invokestatic 18, 3) := by decide +kernel
theorem dX12_sum_8 : decode cX12_sum 8 = .ok (.iconst 1, 1) := by decide +kernel
theorem dX12_sum_9 : decode cX12_sum 9 = .ok (.invokevirtual 456, 3) := by decide +kernel
theorem dX12_sum_12 : decode cX12_sum 12 = .ok (.ifCond .eq 5, 3) := by decide +kernel
theorem dX12_sum_15 : decode cX12_sum 15 = .ok (.iconst 0, 1) := by decide +kernel
theorem dX12_sum_16 : decode cX12_sum 16 = .ok (.ireturn, 1) := by decide +kernel
theorem dX12_sum_17 : decode cX12_sum 17 = .ok (.iconst 0, 1) := by decide +kernel
theorem dX12_sum_18 : decode cX12_sum 18 = .ok (.istore_n 2, 1) := by decide +kernel
theorem dX12_sum_19 : decode cX12_sum 19 = .ok (.iconst 0, 1) := by decide +kernel
theorem dX12_sum_20 : decode cX12_sum 20 = .ok (.istore_n 3, 1) := by decide +kernel
theorem dX12_sum_21 : decode cX12_sum 21 = .ok (.iload_n 3, 1) := by decide +kernel
theorem dX12_sum_22 : decode cX12_sum 22 = .ok (.aload_n 0, 1) := by decide +kernel
theorem dX12_sum_23 : decode cX12_sum 23 = .ok (.getfield 15, 3) := by decide +kernel
theorem dX12_sum_26 : decode cX12_sum 26 = .ok (.if_icmp .ge 18, 3) := by decide +kernel
theorem dX12_sum_29 : decode cX12_sum 29 = .ok (.iload_n 2, 1) := by decide +kernel
theorem dX12_sum_30 : decode cX12_sum 30 = .ok (.aload_n 0, 1) := by decide +kernel
theorem dX12_sum_31 : decode cX12_sum 31 = .ok (.getfield 26, 3) := by decide +kernel
theorem dX12_sum_34 : decode cX12_sum 34 = .ok (.iload_n 3, 1) := by decide +kernel
theorem dX12_sum_35 : decode cX12_sum 35 = .ok (.iaload, 1) := by decide +kernel
theorem dX12_sum_36 : decode cX12_sum 36 = .ok (.iadd, 1) := by decide +kernel
theorem dX12_sum_37 : decode cX12_sum 37 = .ok (.istore_n 2, 1) := by decide +kernel
theorem dX12_sum_38 : decode cX12_sum 38 = .ok (.iinc 3 1, 3) := by decide +kernel
theorem dX12_sum_41 : decode cX12_sum 41 = .ok (.goto (-20), 3) := by decide +kernel
theorem dX12_sum_44 : decode cX12_sum 44 = .ok (.iload_n 1, 1) := by decide +kernel
theorem dX12_sum_45 : decode cX12_sum 45 = .ok (.tableswitch 69 0 5 #[39, 44, 49, 54, 59, 64], 39) := by decide +kernel
theorem dX12_sum_84 : decode cX12_sum 84 = .ok (.aload_n 0, 1) := by decide +kernel
theorem dX12_sum_85 : decode cX12_sum 85 = .ok (.getfield 15, 3) := by decide +kernel
theorem dX12_sum_88 : decode cX12_sum 88 = .ok (.ireturn, 1) := by decide +kernel
theorem dX12_sum_89 : decode cX12_sum 89 = .ok (.aload_n 0, 1) := by decide +kernel
theorem dX12_sum_90 : decode cX12_sum 90 = .ok (.getfield 460, 3) := by decide +kernel
theorem dX12_sum_93 : decode cX12_sum 93 = .ok (.ireturn, 1) := by decide +kernel
theorem dX12_sum_94 : decode cX12_sum 94 = .ok (.aload_n 0, 1) := by decide +kernel
theorem dX12_sum_95 : decode cX12_sum 95 = .ok (.getfield 463, 3) := by decide +kernel
theorem dX12_sum_98 : decode cX12_sum 98 = .ok (.ireturn, 1) := by decide +kernel
theorem dX12_sum_99 : decode cX12_sum 99 = .ok (.aload_n 0, 1) := by decide +kernel
theorem dX12_sum_100 : decode cX12_sum 100 = .ok (.getfield 533, 3) := by decide +kernel
theorem dX12_sum_103 : decode cX12_sum 103 = .ok (.ireturn, 1) := by decide +kernel
theorem dX12_sum_104 : decode cX12_sum 104 = .ok (.aload_n 0, 1) := by decide +kernel
theorem dX12_sum_105 : decode cX12_sum 105 = .ok (.getfield 644, 3) := by decide +kernel
theorem dX12_sum_108 : decode cX12_sum 108 = .ok (.ireturn, 1) := by decide +kernel
theorem dX12_sum_109 : decode cX12_sum 109 = .ok (.aload_n 0, 1) := by decide +kernel
theorem dX12_sum_110 : decode cX12_sum 110 = .ok (.getfield 852, 3) := by decide +kernel
theorem dX12_sum_113 : decode cX12_sum 113 = .ok (.ireturn, 1) := by decide +kernel
theorem dX12_sum_114 : decode cX12_sum 114 = .ok (.iload_n 2, 1) := by decide +kernel
theorem dX12_sum_115 : decode cX12_sum 115 = .ok (.ireturn, 1) := by decide +kernel
theorem dX12_isSound_0 : decode cX12_isSound 0 = .ok (.aload_n 0, 1) := by decide +kernel
theorem dX12_isSound_1 : decode cX12_isSound 1 = .ok (.aload_n 0, 1) := by decide +kernel
theorem dX12_isSound_2 : decode cX12_isSound 2 = .ok (.iload_n 1, 1) := by decide +kernel
theorem dX12_isSound_3 : decode cX12_isSound 3 = .ok (.invokevirtual 22, 3) := by decide +kernel
theorem dX12_isSound_6 : decode cX12_isSound 6 = .ok (.iconst 1, 1) := by decide +kernel
theorem dX12_isSound_7 : decode cX12_isSound 7 = .ok (.invokevirtual 456, 3) := by decide +kernel
theorem dX12_isSound_10 : decode cX12_isSound 10 = .ok (.ifCond .ne 7, 3) := by decide +kernel
theorem dX12_isSound_13 : decode cX12_isSound 13 = .ok (.iconst 1, 1) := by decide +kernel
theorem dX12_isSound_14 : decode cX12_isSound 14 = .ok (.goto 4, 3) := by decide +kernel
theorem dX12_isSound_17 : decode cX12_isSound 17 = .ok (.iconst 0, 1) := by decide +kernel
theorem dX12_isSound_18 : decode cX12_isSound 18 = .ok (.ireturn, 1) := by decide +kernel
