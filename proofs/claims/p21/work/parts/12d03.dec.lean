theorem dX12_texts_31 : decode cX12_texts 31 = .ok (.aload_n 0, 1) := by decide +kernel
theorem dX12_texts_32 : decode cX12_texts 32 = .ok (.getfield 25, 3) := by decide +kernel
theorem dX12_texts_35 : decode cX12_texts 35 = .ok (.if_icmp .ge 12, 3) := by decide +kernel
theorem dX12_texts_38 : decode cX12_texts 38 = .ok (.aload_n 0, 1) := by decide +kernel
theorem dX12_texts_39 : decode cX12_texts 39 = .ok (.getfield 28, 3) := by decide +kernel
theorem dX12_texts_42 : decode cX12_texts 42 = .ok (.iload_n 2, 1) := by decide +kernel
theorem dX12_texts_43 : decode cX12_texts 43 = .ok (.iaload, 1) := by decide +kernel
theorem dX12_texts_44 : decode cX12_texts 44 = .ok (.goto 5, 3) := by decide +kernel
theorem dX12_texts_47 : decode cX12_texts 47 = .ok (.bipush 10, 2) := by decide +kernel
theorem dX12_texts_49 : decode cX12_texts 49 = .ok (.istore_n 3, 1) := by decide +kernel
theorem dX12_texts_50 : decode cX12_texts 50 = .ok (.iload_n 2, 1) := by decide +kernel
theorem dX12_texts_51 : decode cX12_texts 51 = .ok (.iconst 1, 1) := by decide +kernel
theorem dX12_texts_52 : decode cX12_texts 52 = .ok (.iadd, 1) := by decide +kernel
theorem dX12_texts_53 : decode cX12_texts 53 = .ok (.istore 4, 2) := by decide +kernel
theorem dX12_texts_55 : decode cX12_texts 55 = .ok (.iload 4, 2) := by decide +kernel
theorem dX12_texts_57 : decode cX12_texts 57 = .ok (.aload_n 0, 1) := by decide +kernel
theorem dX12_texts_58 : decode cX12_texts 58 = .ok (.getfield 25, 3) := by decide +kernel
theorem dX12_texts_61 : decode cX12_texts 61 = .ok (.if_icmp .ge 32, 3) := by decide +kernel
theorem dX12_texts_64 : decode cX12_texts 64 = .ok (.aload_n 0, 1) := by decide +kernel
theorem dX12_texts_65 : decode cX12_texts 65 = .ok (.getfield 28, 3) := by decide +kernel
theorem dX12_texts_68 : decode cX12_texts 68 = .ok (.iload 4, 2) := by decide +kernel
theorem dX12_texts_70 : decode cX12_texts 70 = .ok (.iaload, 1) := by decide +kernel
theorem dX12_texts_71 : decode cX12_texts 71 = .ok (.iload_n 3, 1) := by decide +kernel
theorem dX12_texts_72 : decode cX12_texts 72 = .ok (.if_icmp .eq 21, 3) := by decide +kernel
theorem dX12_texts_75 : decode cX12_texts 75 = .ok (.aload_n 0, 1) := by decide +kernel
theorem dX12_texts_76 : decode cX12_texts 76 = .ok (.getfield 28, 3) := by decide +kernel
theorem dX12_texts_79 : decode cX12_texts 79 = .ok (.iload 4, 2) := by decide +kernel
theorem dX12_texts_81 : decode cX12_texts 81 = .ok (.iaload, 1) := by decide +kernel
theorem dX12_texts_82 : decode cX12_texts 82 = .ok (.bipush 10, 2) := by decide +kernel
theorem dX12_texts_84 : decode cX12_texts 84 = .ok (.if_icmp .eq 9, 3) := by decide +kernel
theorem dX12_texts_87 : decode cX12_texts 87 = .ok (.iinc 4 1, 3) := by decide +kernel
theorem dX12_texts_90 : decode cX12_texts 90 = .ok (.goto (-35), 3) := by decide +kernel
theorem dX12_texts_93 : decode cX12_texts 93 = .ok (.iload_n 3, 1) := by decide +kernel
theorem dX12_texts_94 : decode cX12_texts 94 = .ok (.bipush 10, 2) := by decide +kernel
theorem dX12_texts_96 : decode cX12_texts 96 = .ok (.if_icmp .eq 7, 3) := by decide +kernel
theorem dX12_texts_99 : decode cX12_texts 99 = .ok (.iconst 1, 1) := by decide +kernel
theorem dX12_texts_100 : decode cX12_texts 100 = .ok (.goto 4, 3) := by decide +kernel
theorem dX12_texts_103 : decode cX12_texts 103 = .ok (.iconst 0, 1) := by decide +kernel
theorem dX12_texts_104 : decode cX12_texts 104 = .ok (.istore 5, 2) := by decide +kernel
theorem dX12_texts_106 : decode cX12_texts 106 = .ok (.iload_n 2, 1) := by decide +kernel
theorem dX12_texts_107 : decode cX12_texts 107 = .ok (.istore 6, 2) := by decide +kernel
theorem dX12_texts_109 : decode cX12_texts 109 = .ok (.iload 6, 2) := by decide +kernel
theorem dX12_texts_111 : decode cX12_texts 111 = .ok (.iload 4, 2) := by decide +kernel
theorem dX12_texts_113 : decode cX12_texts 113 = .ok (.if_icmp .ge 47, 3) := by decide +kernel
theorem dX12_texts_116 : decode cX12_texts 116 = .ok (.iload 6, 2) := by decide +kernel
theorem dX12_texts_118 : decode cX12_texts 118 = .ok (.aload_n 0, 1) := by decide +kernel
theorem dX12_texts_119 : decode cX12_texts 119 = .ok (.getfield 25, 3) := by decide +kernel
theorem dX12_texts_122 : decode cX12_texts 122 = .ok (.if_icmp .ge 38, 3) := by decide +kernel
theorem dX12_texts_125 : decode cX12_texts 125 = .ok (.iload 5, 2) := by decide +kernel
theorem dX12_texts_127 : decode cX12_texts 127 = .ok (.ifCond .eq 24, 3) := by decide +kernel
theorem dX12_texts_130 : decode cX12_texts 130 = .ok (.aload_n 0, 1) := by decide +kernel
theorem dX12_texts_131 : decode cX12_texts 131 = .ok (.getfield 28, 3) := by decide +kernel
theorem dX12_texts_134 : decode cX12_texts 134 = .ok (.iload 6, 2) := by decide +kernel
theorem dX12_texts_136 : decode cX12_texts 136 = .ok (.iaload, 1) := by decide +kernel
theorem dX12_texts_137 : decode cX12_texts 137 = .ok (.bipush 32, 2) := by decide +kernel
theorem dX12_texts_139 : decode cX12_texts 139 = .ok (.bipush 126, 2) := by decide +kernel
theorem dX12_texts_141 : decode cX12_texts 141 = .ok (.invokestatic 15, 3) := by decide +kernel
theorem dX12_texts_144 : decode cX12_texts 144 = .ok (.ifCond .eq 7, 3) := by decide +kernel
theorem dX12_texts_147 : decode cX12_texts 147 = .ok (.iconst 1, 1) := by decide +kernel
theorem dX12_texts_148 : decode cX12_texts 148 = .ok (.goto 4, 3) := by decide +kernel
theorem dX12_texts_151 : decode cX12_texts 151 = .ok (.iconst 0, 1) := by decide +kernel
theorem dX12_texts_152 : decode cX12_texts 152 = .ok (.istore 5, 2) := by decide +kernel
theorem dX12_texts_154 : decode cX12_texts 154 = .ok (.iinc 6 1, 3) := by decide +kernel
theorem dX12_texts_157 : decode cX12_texts 157 = .ok (.goto (-48), 3) := by decide +kernel
theorem dX12_texts_160 : decode cX12_texts 160 = .ok (.iload 5, 2) := by decide +kernel
theorem dX12_texts_162 : decode cX12_texts 162 = .ok (.ifCond .eq 23, 3) := by decide +kernel
theorem dX12_texts_165 : decode cX12_texts 165 = .ok (.iload 4, 2) := by decide +kernel
theorem dX12_texts_167 : decode cX12_texts 167 = .ok (.aload_n 0, 1) := by decide +kernel
theorem dX12_texts_168 : decode cX12_texts 168 = .ok (.getfield 25, 3) := by decide +kernel
theorem dX12_texts_171 : decode cX12_texts 171 = .ok (.if_icmp .ge 14, 3) := by decide +kernel
theorem dX12_texts_174 : decode cX12_texts 174 = .ok (.aload_n 0, 1) := by decide +kernel
theorem dX12_texts_175 : decode cX12_texts 175 = .ok (.getfield 28, 3) := by decide +kernel
theorem dX12_texts_178 : decode cX12_texts 178 = .ok (.iload 4, 2) := by decide +kernel
theorem dX12_texts_180 : decode cX12_texts 180 = .ok (.iaload, 1) := by decide +kernel
theorem dX12_texts_181 : decode cX12_texts 181 = .ok (.iload_n 3, 1) := by decide +kernel
theorem dX12_texts_182 : decode cX12_texts 182 = .ok (.if_icmp .eq 10, 3) := by decide +kernel
theorem dX12_texts_185 : decode cX12_texts 185 = .ok (.aload_n 0, 1) := by decide +kernel
theorem dX12_texts_186 : decode cX12_texts 186 = .ok (.iconst 1, 1) := by decide +kernel
theorem dX12_texts_187 : decode cX12_texts 187 = .ok (.iload_n 1, 1) := by decide +kernel
theorem dX12_texts_188 : decode cX12_texts 188 = .ok (.invokevirtual 57, 3) := by decide +kernel
theorem dX12_texts_191 : decode cX12_texts 191 = .ok (.return_, 1) := by decide +kernel
theorem dX12_texts_192 : decode cX12_texts 192 = .ok (.iload_n 2, 1) := by decide +kernel
theorem dX12_texts_193 : decode cX12_texts 193 = .ok (.iconst 1, 1) := by decide +kernel
theorem dX12_texts_194 : decode cX12_texts 194 = .ok (.iadd, 1) := by decide +kernel
theorem dX12_texts_195 : decode cX12_texts 195 = .ok (.istore 6, 2) := by decide +kernel
theorem dX12_texts_197 : decode cX12_texts 197 = .ok (.iload 6, 2) := by decide +kernel
theorem dX12_texts_199 : decode cX12_texts 199 = .ok (.iload 4, 2) := by decide +kernel
theorem dX12_texts_201 : decode cX12_texts 201 = .ok (.if_icmp .gt 78, 3) := by decide +kernel
theorem dX12_texts_204 : decode cX12_texts 204 = .ok (.aload_n 0, 1) := by decide +kernel
theorem dX12_texts_205 : decode cX12_texts 205 = .ok (.getfield 19, 3) := by decide +kernel
theorem dX12_texts_208 : decode cX12_texts 208 = .ok (.ifCond .ne 71, 3) := by decide +kernel
theorem dX12_texts_211 : decode cX12_texts 211 = .ok (.iload 6, 2) := by decide +kernel
theorem dX12_texts_213 : decode cX12_texts 213 = .ok (.iload 4, 2) := by decide +kernel
theorem dX12_texts_215 : decode cX12_texts 215 = .ok (.if_icmp .ge 16, 3) := by decide +kernel
theorem dX12_texts_218 : decode cX12_texts 218 = .ok (.aload_n 0, 1) := by decide +kernel
theorem dX12_texts_219 : decode cX12_texts 219 = .ok (.getfield 28, 3) := by decide +kernel
theorem dX12_texts_222 : decode cX12_texts 222 = .ok (.iload 6, 2) := by decide +kernel
theorem dX12_texts_224 : decode cX12_texts 224 = .ok (.iaload, 1) := by decide +kernel
theorem dX12_texts_225 : decode cX12_texts 225 = .ok (.bipush 63, 2) := by decide +kernel
theorem dX12_texts_227 : decode cX12_texts 227 = .ok (.iand, 1) := by decide +kernel
theorem dX12_texts_228 : decode cX12_texts 228 = .ok (.goto 4, 3) := by decide +kernel
theorem dX12_texts_231 : decode cX12_texts 231 = .ok (.iconst 0, 1) := by decide +kernel
theorem dX12_texts_232 : decode cX12_texts 232 = .ok (.istore 7, 2) := by decide +kernel
theorem dX12_texts_234 : decode cX12_texts 234 = .ok (.iload 6, 2) := by decide +kernel
theorem dX12_texts_236 : decode cX12_texts 236 = .ok (.iconst 1, 1) := by decide +kernel
theorem dX12_texts_237 : decode cX12_texts 237 = .ok (.iadd, 1) := by decide +kernel
theorem dX12_texts_238 : decode cX12_texts 238 = .ok (.iload 4, 2) := by decide +kernel
theorem dX12_texts_240 : decode cX12_texts 240 = .ok (.if_icmp .ge 18, 3) := by decide +kernel
theorem dX12_texts_243 : decode cX12_texts 243 = .ok (.aload_n 0, 1) := by decide +kernel
theorem dX12_texts_244 : decode cX12_texts 244 = .ok (.getfield 28, 3) := by decide +kernel
theorem dX12_texts_247 : decode cX12_texts 247 = .ok (.iload 6, 2) := by decide +kernel
theorem dX12_texts_249 : decode cX12_texts 249 = .ok (.iconst 1, 1) := by decide +kernel
theorem dX12_texts_250 : decode cX12_texts 250 = .ok (.iadd, 1) := by decide +kernel
theorem dX12_texts_251 : decode cX12_texts 251 = .ok (.iaload, 1) := by decide +kernel
theorem dX12_texts_252 : decode cX12_texts 252 = .ok (.bipush 63, 2) := by decide +kernel
theorem dX12_texts_254 : decode cX12_texts 254 = .ok (.iand, 1) := by decide +kernel
theorem dX12_texts_255 : decode cX12_texts 255 = .ok (.goto 4, 3) := by decide +kernel
theorem dX12_texts_258 : decode cX12_texts 258 = .ok (.iconst 0, 1) := by decide +kernel
theorem dX12_texts_259 : decode cX12_texts 259 = .ok (.istore 8, 2) := by decide +kernel
theorem dX12_texts_261 : decode cX12_texts 261 = .ok (.aload_n 0, 1) := by decide +kernel
theorem dX12_texts_262 : decode cX12_texts 262 = .ok (.bipush 64, 2) := by decide +kernel
theorem dX12_texts_264 : decode cX12_texts 264 = .ok (.iload 7, 2) := by decide +kernel
theorem dX12_texts_266 : decode cX12_texts 266 = .ok (.imul, 1) := by decide +kernel
theorem dX12_texts_267 : decode cX12_texts 267 = .ok (.iload 8, 2) := by decide +kernel
theorem dX12_texts_269 : decode cX12_texts 269 = .ok (.iadd, 1) := by decide +kernel
theorem dX12_texts_270 : decode cX12_texts 270 = .ok (.invokevirtual 190, 3) := by decide +kernel
theorem dX12_texts_273 : decode cX12_texts 273 = .ok (.iinc 6 2, 3) := by decide +kernel
theorem dX12_texts_276 : decode cX12_texts 276 = .ok (.goto (-79), 3) := by decide +kernel
theorem dX12_texts_279 : decode cX12_texts 279 = .ok (.aload_n 0, 1) := by decide +kernel
theorem dX12_texts_280 : decode cX12_texts 280 = .ok (.iload 4, 2) := by decide +kernel
theorem dX12_texts_282 : decode cX12_texts 282 = .ok (.iconst 1, 1) := by decide +kernel
theorem dX12_texts_283 : decode cX12_texts 283 = .ok (.iadd, 1) := by decide +kernel
theorem dX12_texts_284 : decode cX12_texts 284 = .ok (.putfield 31, 3) := by decide +kernel
theorem dX12_texts_287 : decode cX12_texts 287 = .ok (.aload_n 0, 1) := by decide +kernel
theorem dX12_texts_288 : decode cX12_texts 288 = .ok (.getfield 19, 3) := by decide +kernel
theorem dX12_texts_291 : decode cX12_texts 291 = .ok (.ifCond .ne 7, 3) := by decide +kernel
theorem dX12_texts_294 : decode cX12_texts 294 = .ok (.aload_n 0, 1) := by decide +kernel
theorem dX12_texts_295 : decode cX12_texts 295 = .ok (.invokevirtual 77, 3) := by decide +kernel
theorem dX12_texts_298 : decode cX12_texts 298 = .ok (.return_, 1) := by decide +kernel
theorem dX12_lies_0 : decode cX12_lies 0 = .ok (.aload_n 0, 1) := by decide +kernel
theorem dX12_lies_1 : decode cX12_lies 1 = .ok (.getfield 129, 3) := by decide +kernel
theorem dX12_lies_4 : decode cX12_lies 4 = .ok (.sipush 4095, 3) := by decide +kernel
theorem dX12_lies_7 : decode cX12_lies 7 = .ok (.if_icmp .le 14, 3) := by decide +kernel
theorem dX12_lies_10 : decode cX12_lies 10 = .ok (.aload_n 0, 1) := by decide +kernel
theorem dX12_lies_11 : decode cX12_lies 11 = .ok (.bipush 6, 2) := by decide +kernel
theorem dX12_lies_13 : decode cX12_lies 13 = .ok (.aload_n 0, 1) := by decide +kernel
theorem dX12_lies_14 : decode cX12_lies 14 = .ok (.getfield 166, 3) := by decide +kernel
theorem dX12_lies_17 : decode cX12_lies 17 = .ok (.invokevirtual 57, 3) := by decide +kernel
theorem dX12_lies_20 : decode cX12_lies 20 = .ok (.return_, 1) := by decide +kernel
theorem dX12_lies_21 : decode cX12_lies 21 = .ok (.aload_n 0, 1) := by decide +kernel
theorem dX12_lies_22 : decode cX12_lies 22 = .ok (.getfield 112, 3) := by decide +kernel
theorem dX12_lies_25 : decode cX12_lies 25 = .ok (.ifCond .eq 50, 3) := by decide +kernel
theorem dX12_lies_28 : decode cX12_lies 28 = .ok (.aload_n 0, 1) := by decide +kernel
theorem dX12_lies_29 : decode cX12_lies 29 = .ok (.getfield 193, 3) := by decide +kernel
theorem dX12_lies_32 : decode cX12_lies 32 = .ok (.aload_n 0, 1) := by decide +kernel
theorem dX12_lies_33 : decode cX12_lies 33 = .ok (.getfield 129, 3) := by decide +kernel
theorem dX12_lies_36 : decode cX12_lies 36 = .ok (.baload, 1) := by decide +kernel
theorem dX12_lies_37 : decode cX12_lies 37 = .ok (.ifCond .eq 14, 3) := by decide +kernel
theorem dX12_lies_40 : decode cX12_lies 40 = .ok (.aload_n 0, 1) := by decide +kernel
theorem dX12_lies_41 : decode cX12_lies 41 = .ok (.bipush 8, 2) := by decide +kernel
theorem dX12_lies_43 : decode cX12_lies 43 = .ok (.aload_n 0, 1) := by decide +kernel
theorem dX12_lies_44 : decode cX12_lies 44 = .ok (.getfield 166, 3) := by decide +kernel
theorem dX12_lies_47 : decode cX12_lies 47 = .ok (.invokevirtual 57, 3) := by decide +kernel
theorem dX12_lies_50 : decode cX12_lies 50 = .ok (.return_, 1) := by decide +kernel
theorem dX12_lies_51 : decode cX12_lies 51 = .ok (.aload_n 0, 1) := by decide +kernel
theorem dX12_lies_52 : decode cX12_lies 52 = .ok (.getfield 196, 3) := by decide +kernel
theorem dX12_lies_55 : decode cX12_lies 55 = .ok (.aload_n 0, 1) := by decide +kernel
theorem dX12_lies_56 : decode cX12_lies 56 = .ok (.getfield 129, 3) := by decide +kernel
theorem dX12_lies_59 : decode cX12_lies 59 = .ok (.iconst 1, 1) := by decide +kernel
theorem dX12_lies_60 : decode cX12_lies 60 = .ok (.bastore, 1) := by decide +kernel
theorem dX12_lies_61 : decode cX12_lies 61 = .ok (.aload_n 0, 1) := by decide +kernel
theorem dX12_lies_62 : decode cX12_lies 62 = .ok (.getfield 199, 3) := by decide +kernel
theorem dX12_lies_65 : decode cX12_lies 65 = .ok (.aload_n 0, 1) := by decide +kernel
theorem dX12_lies_66 : decode cX12_lies 66 = .ok (.getfield 129, 3) := by decide +kernel
theorem dX12_lies_69 : decode cX12_lies 69 = .ok (.iload_n 1, 1) := by decide +kernel
theorem dX12_lies_70 : decode cX12_lies 70 = .ok (.sipush 4095, 3) := by decide +kernel
theorem dX12_lies_73 : decode cX12_lies 73 = .ok (.iand, 1) := by decide +kernel
theorem dX12_lies_74 : decode cX12_lies 74 = .ok (.iastore, 1) := by decide +kernel
theorem dX12_lies_75 : decode cX12_lies 75 = .ok (.aload_n 0, 1) := by decide +kernel
theorem dX12_lies_76 : decode cX12_lies 76 = .ok (.dup, 1) := by decide +kernel
theorem dX12_lies_77 : decode cX12_lies 77 = .ok (.getfield 129, 3) := by decide +kernel
theorem dX12_lies_80 : decode cX12_lies 80 = .ok (.iconst 1, 1) := by decide +kernel
theorem dX12_lies_81 : decode cX12_lies 81 = .ok (.iadd, 1) := by decide +kernel
theorem dX12_lies_82 : decode cX12_lies 82 = .ok (.putfield 129, 3) := by decide +kernel
theorem dX12_lies_85 : decode cX12_lies 85 = .ok (.return_, 1) := by decide +kernel
theorem dX12_word_0 : decode cX12_word 0 = .ok (.iconst 0, 1) := by decide +kernel
theorem dX12_word_1 : decode cX12_word 1 = .ok (.istore_n 1, 1) := by decide +kernel
theorem dX12_word_2 : decode cX12_word 2 = .ok (.iconst (-1), 1) := by decide +kernel
theorem dX12_word_3 : decode cX12_word 3 = .ok (.istore_n 2, 1) := by decide +kernel
theorem dX12_word_4 : decode cX12_word 4 = .ok (.iconst 0, 1) := by decide +kernel
theorem dX12_word_5 : decode cX12_word 5 = .ok (.istore_n 3, 1) := by decide +kernel
theorem dX12_word_6 : decode cX12_word 6 = .ok (.iconst 0, 1) := by decide +kernel
theorem dX12_word_7 : decode cX12_word 7 = .ok (.istore 4, 2) := by decide +kernel
theorem dX12_word_9 : decode cX12_word 9 = .ok (.iconst (-1), 1) := by decide +kernel
theorem dX12_word_10 : decode cX12_word 10 = .ok (.istore 5, 2) := by decide +kernel
theorem dX12_word_12 : decode cX12_word 12 = .ok (.iconst (-1), 1) := by decide +kernel
theorem dX12_word_13 : decode cX12_word 13 = .ok (.istore 6, 2) := by decide +kernel
theorem dX12_word_15 : decode cX12_word 15 = .ok (.iconst 0, 1) := by decide +kernel
theorem dX12_word_16 : decode cX12_word 16 = .ok (.istore 7, 2) := by decide +kernel
theorem dX12_word_18 : decode cX12_word 18 = .ok (.aload_n 0, 1) := by decide +kernel
theorem dX12_word_19 : decode cX12_word 19 = .ok (.invokevirtual 186, 3) := by decide +kernel
theorem dX12_word_22 : decode cX12_word 22 = .ok (.ifCond .ne 31, 3) := by decide +kernel
theorem dX12_word_25 : decode cX12_word 25 = .ok (.aload_n 0, 1) := by decide +kernel
theorem dX12_word_26 : decode cX12_word 26 = .ok (.bipush 40, 2) := by decide +kernel
theorem dX12_word_28 : decode cX12_word 28 = .ok (.invokevirtual 123, 3) := by decide +kernel
theorem dX12_word_31 : decode cX12_word 31 = .ok (.ifCond .ne 22, 3) := by decide +kernel
theorem dX12_word_34 : decode cX12_word 34 = .ok (.aload_n 0, 1) := by decide +kernel
theorem dX12_word_35 : decode cX12_word 35 = .ok (.bipush 91, 2) := by decide +kernel
theorem dX12_word_37 : decode cX12_word 37 = .ok (.invokevirtual 123, 3) := by decide +kernel
theorem dX12_word_40 : decode cX12_word 40 = .ok (.ifCond .ne 13, 3) := by decide +kernel
theorem dX12_word_43 : decode cX12_word 43 = .ok (.aload_n 0, 1) := by decide +kernel
theorem dX12_word_44 : decode cX12_word 44 = .ok (.iconst 2, 1) := by decide +kernel
theorem dX12_word_45 : decode cX12_word 45 = .ok (.aload_n 0, 1) := by decide +kernel
theorem dX12_word_46 : decode cX12_word 46 = .ok (.getfield 34, 3) := by decide +kernel
theorem dX12_word_49 : decode cX12_word 49 = .ok (.invokevirtual 57, 3) := by decide +kernel
theorem dX12_word_52 : decode cX12_word 52 = .ok (.return_, 1) := by decide +kernel
theorem dX12_word_53 : decode cX12_word 53 = .ok (.aload_n 0, 1) := by decide +kernel
theorem dX12_word_54 : decode cX12_word 54 = .ok (.getfield 129, 3) := by decide +kernel
theorem dX12_word_57 : decode cX12_word 57 = .ok (.sipush 4095, 3) := by decide +kernel
theorem dX12_word_60 : decode cX12_word 60 = .ok (.if_icmp .le 16, 3) := by decide +kernel
theorem dX12_word_63 : decode cX12_word 63 = .ok (.aload_n 0, 1) := by decide +kernel
theorem dX12_word_64 : decode cX12_word 64 = .ok (.bipush 6, 2) := by decide +kernel
theorem dX12_word_66 : decode cX12_word 66 = .ok (.aload_n 0, 1) := by decide +kernel
theorem dX12_word_67 : decode cX12_word 67 = .ok (.getfield 166, 3) := by decide +kernel
theorem dX12_word_70 : decode cX12_word 70 = .ok (.invokevirtual 57, 3) := by decide +kernel
theorem dX12_word_73 : decode cX12_word 73 = .ok (.goto 32, 3) := by decide +kernel
theorem dX12_word_76 : decode cX12_word 76 = .ok (.aload_n 0, 1) := by decide +kernel
theorem dX12_word_77 : decode cX12_word 77 = .ok (.getfield 112, 3) := by decide +kernel
theorem dX12_word_80 : decode cX12_word 80 = .ok (.ifCond .eq 25, 3) := by decide +kernel
theorem dX12_word_83 : decode cX12_word 83 = .ok (.aload_n 0, 1) := by decide +kernel
theorem dX12_word_84 : decode cX12_word 84 = .ok (.getfield 193, 3) := by decide +kernel
theorem dX12_word_87 : decode cX12_word 87 = .ok (.aload_n 0, 1) := by decide +kernel
theorem dX12_word_88 : decode cX12_word 88 = .ok (.getfield 129, 3) := by decide +kernel
theorem dX12_word_91 : decode cX12_word 91 = .ok (.baload, 1) := by decide +kernel
theorem dX12_word_92 : decode cX12_word 92 = .ok (.ifCond .eq 13, 3) := by decide +kernel
theorem dX12_word_95 : decode cX12_word 95 = .ok (.aload_n 0, 1) := by decide +kernel
theorem dX12_word_96 : decode cX12_word 96 = .ok (.bipush 8, 2) := by decide +kernel
theorem dX12_word_98 : decode cX12_word 98 = .ok (.aload_n 0, 1) := by decide +kernel
theorem dX12_word_99 : decode cX12_word 99 = .ok (.getfield 166, 3) := by decide +kernel
theorem dX12_word_102 : decode cX12_word 102 = .ok (.invokevirtual 57, 3) := by decide +kernel
theorem dX12_word_105 : decode cX12_word 105 = .ok (.aload_n 0, 1) := by decide +kernel
theorem dX12_word_106 : decode cX12_word 106 = .ok (.getfield 19, 3) := by decide +kernel
theorem dX12_word_109 : decode cX12_word 109 = .ok (.ifCond .le 4, 3) := by decide +kernel
theorem dX12_word_112 : decode cX12_word 112 = .ok (.return_, 1) := by decide +kernel
theorem dX12_word_113 : decode cX12_word 113 = .ok (.aload_n 0, 1) := by decide +kernel
theorem dX12_word_114 : decode cX12_word 114 = .ok (.getfield 19, 3) := by decide +kernel
theorem dX12_word_117 : decode cX12_word 117 = .ok (.ifCond .ne 237, 3) := by decide +kernel
theorem dX12_word_120 : decode cX12_word 120 = .ok (.iload 7, 2) := by decide +kernel
theorem dX12_word_122 : decode cX12_word 122 = .ok (.ifCond .ne 232, 3) := by decide +kernel
theorem dX12_word_125 : decode cX12_word 125 = .ok (.aload_n 0, 1) := by decide +kernel
theorem dX12_word_126 : decode cX12_word 126 = .ok (.invokevirtual 186, 3) := by decide +kernel
theorem dX12_word_129 : decode cX12_word 129 = .ok (.ifCond .ne 21, 3) := by decide +kernel
theorem dX12_word_132 : decode cX12_word 132 = .ok (.aload_n 0, 1) := by decide +kernel
theorem dX12_word_133 : decode cX12_word 133 = .ok (.bipush 40, 2) := by decide +kernel
theorem dX12_word_135 : decode cX12_word 135 = .ok (.invokevirtual 123, 3) := by decide +kernel
theorem dX12_word_138 : decode cX12_word 138 = .ok (.ifCond .ne 12, 3) := by decide +kernel
theorem dX12_word_141 : decode cX12_word 141 = .ok (.aload_n 0, 1) := by decide +kernel
theorem dX12_word_142 : decode cX12_word 142 = .ok (.bipush 91, 2) := by decide +kernel
theorem dX12_word_144 : decode cX12_word 144 = .ok (.invokevirtual 123, 3) := by decide +kernel
theorem dX12_word_147 : decode cX12_word 147 = .ok (.ifCond .eq 207, 3) := by decide +kernel
theorem dX12_word_150 : decode cX12_word 150 = .ok (.aload_n 0, 1) := by decide +kernel
theorem dX12_word_151 : decode cX12_word 151 = .ok (.getfield 34, 3) := by decide +kernel
theorem dX12_word_154 : decode cX12_word 154 = .ok (.istore 8, 2) := by decide +kernel
theorem dX12_word_156 : decode cX12_word 156 = .ok (.iload 5, 2) := by decide +kernel
theorem dX12_word_158 : decode cX12_word 158 = .ok (.iconst (-1), 1) := by decide +kernel
theorem dX12_word_159 : decode cX12_word 159 = .ok (.if_icmp .eq 11, 3) := by decide +kernel
theorem dX12_word_162 : decode cX12_word 162 = .ok (.aload_n 0, 1) := by decide +kernel
theorem dX12_word_163 : decode cX12_word 163 = .ok (.iconst 2, 1) := by decide +kernel
theorem dX12_word_164 : decode cX12_word 164 = .ok (.iload 6, 2) := by decide +kernel
theorem dX12_word_166 : decode cX12_word 166 = .ok (.invokevirtual 57, 3) := by decide +kernel
theorem dX12_word_169 : decode cX12_word 169 = .ok (.return_, 1) := by decide +kernel
theorem dX12_word_170 : decode cX12_word 170 = .ok (.aload_n 0, 1) := by decide +kernel
theorem dX12_word_171 : decode cX12_word 171 = .ok (.getfield 37, 3) := by decide +kernel
theorem dX12_word_174 : decode cX12_word 174 = .ok (.iconst 4, 1) := by decide +kernel
theorem dX12_word_175 : decode cX12_word 175 = .ok (.if_icmp .ne 25, 3) := by decide +kernel
theorem dX12_word_178 : decode cX12_word 178 = .ok (.aload_n 0, 1) := by decide +kernel
theorem dX12_word_179 : decode cX12_word 179 = .ok (.getfield 64, 3) := by decide +kernel
theorem dX12_word_182 : decode cX12_word 182 = .ok (.bipush 40, 2) := by decide +kernel
theorem dX12_word_184 : decode cX12_word 184 = .ok (.if_icmp .eq 12, 3) := by decide +kernel
theorem dX12_word_187 : decode cX12_word 187 = .ok (.aload_n 0, 1) := by decide +kernel
theorem dX12_word_188 : decode cX12_word 188 = .ok (.getfield 64, 3) := by decide +kernel
theorem dX12_word_191 : decode cX12_word 191 = .ok (.bipush 91, 2) := by decide +kernel
theorem dX12_word_193 : decode cX12_word 193 = .ok (.if_icmp .ne 7, 3) := by decide +kernel
theorem dX12_word_196 : decode cX12_word 196 = .ok (.iconst 1, 1) := by decide +kernel
theorem dX12_word_197 : decode cX12_word 197 = .ok (.goto 4, 3) := by decide +kernel
theorem dX12_word_200 : decode cX12_word 200 = .ok (.iconst 0, 1) := by decide +kernel
theorem dX12_word_201 : decode cX12_word 201 = .ok (.istore 7, 2) := by decide +kernel
theorem dX12_word_203 : decode cX12_word 203 = .ok (.iload 7, 2) := by decide +kernel
theorem dX12_word_205 : decode cX12_word 205 = .ok (.ifCond .eq 10, 3) := by decide +kernel
theorem dX12_word_208 : decode cX12_word 208 = .ok (.aload_n 0, 1) := by decide +kernel
theorem dX12_word_209 : decode cX12_word 209 = .ok (.invokevirtual 202, 3) := by decide +kernel
theorem dX12_word_212 : decode cX12_word 212 = .ok (.goto 7, 3) := by decide +kernel
theorem dX12_word_215 : decode cX12_word 215 = .ok (.aload_n 0, 1) := by decide +kernel
theorem dX12_word_216 : decode cX12_word 216 = .ok (.invokevirtual 177, 3) := by decide +kernel
theorem dX12_word_219 : decode cX12_word 219 = .ok (.istore 9, 2) := by decide +kernel
theorem dX12_word_221 : decode cX12_word 221 = .ok (.aload_n 0, 1) := by decide +kernel
theorem dX12_word_222 : decode cX12_word 222 = .ok (.getfield 19, 3) := by decide +kernel
theorem dX12_word_225 : decode cX12_word 225 = .ok (.ifCond .le 4, 3) := by decide +kernel
theorem dX12_word_228 : decode cX12_word 228 = .ok (.return_, 1) := by decide +kernel
theorem dX12_word_229 : decode cX12_word 229 = .ok (.iload 7, 2) := by decide +kernel
theorem dX12_word_231 : decode cX12_word 231 = .ok (.ifCond .ne 15, 3) := by decide +kernel
theorem dX12_word_234 : decode cX12_word 234 = .ok (.aload_n 0, 1) := by decide +kernel
theorem dX12_word_235 : decode cX12_word 235 = .ok (.getfield 132, 3) := by decide +kernel
theorem dX12_word_238 : decode cX12_word 238 = .ok (.iconst (-1), 1) := by decide +kernel
theorem dX12_word_239 : decode cX12_word 239 = .ok (.if_icmp .eq 7, 3) := by decide +kernel
theorem dX12_word_242 : decode cX12_word 242 = .ok (.iconst 1, 1) := by decide +kernel
theorem dX12_word_243 : decode cX12_word 243 = .ok (.goto 4, 3) := by decide +kernel
theorem dX12_word_246 : decode cX12_word 246 = .ok (.iconst 0, 1) := by decide +kernel
theorem dX12_word_247 : decode cX12_word 247 = .ok (.istore 10, 2) := by decide +kernel
theorem dX12_word_249 : decode cX12_word 249 = .ok (.iload_n 3, 1) := by decide +kernel
theorem dX12_word_250 : decode cX12_word 250 = .ok (.ifCond .ne 29, 3) := by decide +kernel
theorem dX12_word_253 : decode cX12_word 253 = .ok (.iload 10, 2) := by decide +kernel
theorem dX12_word_255 : decode cX12_word 255 = .ok (.ifCond .eq 22, 3) := by decide +kernel
theorem dX12_word_258 : decode cX12_word 258 = .ok (.aload_n 0, 1) := by decide +kernel
theorem dX12_word_259 : decode cX12_word 259 = .ok (.getfield 132, 3) := by decide +kernel
theorem dX12_word_262 : decode cX12_word 262 = .ok (.iconst 0, 1) := by decide +kernel
theorem dX12_word_263 : decode cX12_word 263 = .ok (.iconst 5, 1) := by decide +kernel
theorem dX12_word_264 : decode cX12_word 264 = .ok (.invokestatic 15, 3) := by decide +kernel
theorem dX12_word_267 : decode cX12_word 267 = .ok (.ifCond .eq 10, 3) := by decide +kernel
theorem dX12_word_270 : decode cX12_word 270 = .ok (.aload_n 0, 1) := by decide +kernel
theorem dX12_word_271 : decode cX12_word 271 = .ok (.getfield 132, 3) := by decide +kernel
theorem dX12_word_274 : decode cX12_word 274 = .ok (.goto 4, 3) := by decide +kernel
theorem dX12_word_277 : decode cX12_word 277 = .ok (.iconst (-1), 1) := by decide +kernel
theorem dX12_word_278 : decode cX12_word 278 = .ok (.istore_n 2, 1) := by decide +kernel
theorem dX12_word_279 : decode cX12_word 279 = .ok (.iload_n 3, 1) := by decide +kernel
theorem dX12_word_280 : decode cX12_word 280 = .ok (.ifCond .le 63, 3) := by decide +kernel
theorem dX12_word_283 : decode cX12_word 283 = .ok (.iload_n 2, 1) := by decide +kernel
theorem dX12_word_284 : decode cX12_word 284 = .ok (.iconst (-1), 1) := by decide +kernel
theorem dX12_word_285 : decode cX12_word 285 = .ok (.if_icmp .eq 58, 3) := by decide +kernel
theorem dX12_word_288 : decode cX12_word 288 = .ok (.iload 10, 2) := by decide +kernel
theorem dX12_word_290 : decode cX12_word 290 = .ok (.ifCond .eq 45, 3) := by decide +kernel
theorem dX12_word_293 : decode cX12_word 293 = .ok (.aload_n 0, 1) := by decide +kernel
theorem dX12_word_294 : decode cX12_word 294 = .ok (.getfield 132, 3) := by decide +kernel
theorem dX12_word_297 : decode cX12_word 297 = .ok (.bipush 6, 2) := by decide +kernel
theorem dX12_word_299 : decode cX12_word 299 = .ok (.if_icmp .eq 12, 3) := by decide +kernel
theorem dX12_word_302 : decode cX12_word 302 = .ok (.aload_n 0, 1) := by decide +kernel
theorem dX12_word_303 : decode cX12_word 303 = .ok (.getfield 132, 3) := by decide +kernel
theorem dX12_word_306 : decode cX12_word 306 = .ok (.bipush 7, 2) := by decide +kernel
theorem dX12_word_308 : decode cX12_word 308 = .ok (.if_icmp .ne 27, 3) := by decide +kernel
theorem dX12_word_311 : decode cX12_word 311 = .ok (.iload 4, 2) := by decide +kernel
theorem dX12_word_313 : decode cX12_word 313 = .ok (.ifCond .ne 12, 3) := by decide +kernel
theorem dX12_word_316 : decode cX12_word 316 = .ok (.aload_n 0, 1) := by decide +kernel
theorem dX12_word_317 : decode cX12_word 317 = .ok (.getfield 132, 3) := by decide +kernel
theorem dX12_word_320 : decode cX12_word 320 = .ok (.bipush 6, 2) := by decide +kernel
theorem dX12_word_322 : decode cX12_word 322 = .ok (.if_icmp .ne 7, 3) := by decide +kernel
theorem dX12_word_325 : decode cX12_word 325 = .ok (.iconst 1, 1) := by decide +kernel
theorem dX12_word_326 : decode cX12_word 326 = .ok (.goto 4, 3) := by decide +kernel
theorem dX12_word_329 : decode cX12_word 329 = .ok (.iconst 0, 1) := by decide +kernel
theorem dX12_word_330 : decode cX12_word 330 = .ok (.istore 4, 2) := by decide +kernel
theorem dX12_word_332 : decode cX12_word 332 = .ok (.goto 11, 3) := by decide +kernel
theorem dX12_word_335 : decode cX12_word 335 = .ok (.iload 9, 2) := by decide +kernel
theorem dX12_word_337 : decode cX12_word 337 = .ok (.istore 5, 2) := by decide +kernel
theorem dX12_word_339 : decode cX12_word 339 = .ok (.iload 8, 2) := by decide +kernel
theorem dX12_word_341 : decode cX12_word 341 = .ok (.istore 6, 2) := by decide +kernel
theorem dX12_word_343 : decode cX12_word 343 = .ok (.iload_n 1, 1) := by decide +kernel
theorem dX12_word_344 : decode cX12_word 344 = .ok (.iload 9, 2) := by decide +kernel
theorem dX12_word_346 : decode cX12_word 346 = .ok (.ior, 1) := by decide +kernel
theorem dX12_word_347 : decode cX12_word 347 = .ok (.istore_n 1, 1) := by decide +kernel
theorem dX12_word_348 : decode cX12_word 348 = .ok (.iinc 3 1, 3) := by decide +kernel
theorem dX12_word_351 : decode cX12_word 351 = .ok (.goto (-238), 3) := by decide +kernel
theorem dX12_word_354 : decode cX12_word 354 = .ok (.aload_n 0, 1) := by decide +kernel
theorem dX12_word_355 : decode cX12_word 355 = .ok (.getfield 19, 3) := by decide +kernel
theorem dX12_word_358 : decode cX12_word 358 = .ok (.ifCond .le 4, 3) := by decide +kernel
theorem dX12_word_361 : decode cX12_word 361 = .ok (.return_, 1) := by decide +kernel
theorem dX12_word_362 : decode cX12_word 362 = .ok (.iload_n 2, 1) := by decide +kernel
theorem dX12_word_363 : decode cX12_word 363 = .ok (.iconst (-1), 1) := by decide +kernel
theorem dX12_word_364 : decode cX12_word 364 = .ok (.if_icmp .eq 34, 3) := by decide +kernel
theorem dX12_word_367 : decode cX12_word 367 = .ok (.iload_n 3, 1) := by decide +kernel
theorem dX12_word_368 : decode cX12_word 368 = .ok (.iconst 1, 1) := by decide +kernel
theorem dX12_word_369 : decode cX12_word 369 = .ok (.if_icmp .le 29, 3) := by decide +kernel
theorem dX12_word_372 : decode cX12_word 372 = .ok (.aload_n 0, 1) := by decide +kernel
theorem dX12_word_373 : decode cX12_word 373 = .ok (.getstatic 138, 3) := by decide +kernel
theorem dX12_word_376 : decode cX12_word 376 = .ok (.iload_n 2, 1) := by decide +kernel
theorem dX12_word_377 : decode cX12_word 377 = .ok (.iaload, 1) := by decide +kernel
theorem dX12_word_378 : decode cX12_word 378 = .ok (.iload 4, 2) := by decide +kernel
theorem dX12_word_380 : decode cX12_word 380 = .ok (.iload 5, 2) := by decide +kernel
theorem dX12_word_382 : decode cX12_word 382 = .ok (.iconst (-1), 1) := by decide +kernel
theorem dX12_word_383 : decode cX12_word 383 = .ok (.if_icmp .ne 7, 3) := by decide +kernel
theorem dX12_word_386 : decode cX12_word 386 = .ok (.iconst 0, 1) := by decide +kernel
theorem dX12_word_387 : decode cX12_word 387 = .ok (.goto 5, 3) := by decide +kernel
theorem dX12_word_390 : decode cX12_word 390 = .ok (.iload 5, 2) := by decide +kernel
theorem dX12_word_392 : decode cX12_word 392 = .ok (.iload 6, 2) := by decide +kernel
theorem dX12_word_394 : decode cX12_word 394 = .ok (.invokevirtual 205, 3) := by decide +kernel
theorem dX12_word_397 : decode cX12_word 397 = .ok (.istore_n 1, 1) := by decide +kernel
theorem dX12_word_398 : decode cX12_word 398 = .ok (.aload_n 0, 1) := by decide +kernel
theorem dX12_word_399 : decode cX12_word 399 = .ok (.getfield 19, 3) := by decide +kernel
theorem dX12_word_402 : decode cX12_word 402 = .ok (.ifCond .ne 8, 3) := by decide +kernel
theorem dX12_word_405 : decode cX12_word 405 = .ok (.aload_n 0, 1) := by decide +kernel
theorem dX12_word_406 : decode cX12_word 406 = .ok (.iload_n 1, 1) := by decide +kernel
theorem dX12_word_407 : decode cX12_word 407 = .ok (.invokevirtual 190, 3) := by decide +kernel
theorem dX12_word_410 : decode cX12_word 410 = .ok (.return_, 1) := by decide +kernel
theorem dX12_memory_0 : decode cX12_memory 0 = .ok (.iload_n 1, 1) := by decide +kernel
theorem dX12_memory_1 : decode cX12_memory 1 = .ok (.iload_n 2, 1) := by decide +kernel
theorem dX12_memory_2 : decode cX12_memory 2 = .ok (.ifCond .eq 9, 3) := by decide +kernel
theorem dX12_memory_5 : decode cX12_memory 5 = .ok (.sipush 256, 3) := by decide +kernel
theorem dX12_memory_8 : decode cX12_memory 8 = .ok (.goto 4, 3) := by decide +kernel
theorem dX12_memory_11 : decode cX12_memory 11 = .ok (.iconst 0, 1) := by decide +kernel
theorem dX12_memory_12 : decode cX12_memory 12 = .ok (.ior, 1) := by decide +kernel
theorem dX12_memory_13 : decode cX12_memory 13 = .ok (.istore 5, 2) := by decide +kernel
theorem dX12_memory_15 : decode cX12_memory 15 = .ok (.iload_n 3, 1) := by decide +kernel
theorem dX12_memory_16 : decode cX12_memory 16 = .ok (.sipush 128, 3) := by decide +kernel
theorem dX12_memory_19 : decode cX12_memory 19 = .ok (.if_icmp .ge 8, 3) := by decide +kernel
theorem dX12_memory_22 : decode cX12_memory 22 = .ok (.iload 5, 2) := by decide +kernel
theorem dX12_memory_24 : decode cX12_memory 24 = .ok (.iload_n 3, 1) := by decide +kernel
theorem dX12_memory_25 : decode cX12_memory 25 = .ok (.ior, 1) := by decide +kernel
theorem dX12_memory_26 : decode cX12_memory 26 = .ok (.ireturn, 1) := by decide +kernel
theorem dX12_memory_27 : decode cX12_memory 27 = .ok (.iload_n 3, 1) := by decide +kernel
theorem dX12_memory_28 : decode cX12_memory 28 = .ok (.sipush 128, 3) := by decide +kernel
theorem dX12_memory_31 : decode cX12_memory 31 = .ok (.idiv, 1) := by decide +kernel
theorem dX12_memory_32 : decode cX12_memory 32 = .ok (.aload_n 0, 1) := by decide +kernel
theorem dX12_memory_33 : decode cX12_memory 33 = .ok (.getfield 129, 3) := by decide +kernel
theorem dX12_memory_36 : decode cX12_memory 36 = .ok (.sipush 128, 3) := by decide +kernel
theorem dX12_memory_39 : decode cX12_memory 39 = .ok (.idiv, 1) := by decide +kernel
theorem dX12_memory_40 : decode cX12_memory 40 = .ok (.if_icmp .ne 15, 3) := by decide +kernel
theorem dX12_memory_43 : decode cX12_memory 43 = .ok (.iload 5, 2) := by decide +kernel
theorem dX12_memory_45 : decode cX12_memory 45 = .ok (.sipush 128, 3) := by decide +kernel
theorem dX12_memory_48 : decode cX12_memory 48 = .ok (.ior, 1) := by decide +kernel
theorem dX12_memory_49 : decode cX12_memory 49 = .ok (.iload_n 3, 1) := by decide +kernel
theorem dX12_memory_50 : decode cX12_memory 50 = .ok (.bipush 127, 2) := by decide +kernel
theorem dX12_memory_52 : decode cX12_memory 52 = .ok (.iand, 1) := by decide +kernel
theorem dX12_memory_53 : decode cX12_memory 53 = .ok (.ior, 1) := by decide +kernel
theorem dX12_memory_54 : decode cX12_memory 54 = .ok (.ireturn, 1) := by decide +kernel
theorem dX12_memory_55 : decode cX12_memory 55 = .ok (.aload_n 0, 1) := by decide +kernel
theorem dX12_memory_56 : decode cX12_memory 56 = .ok (.getfield 112, 3) := by decide +kernel
theorem dX12_memory_59 : decode cX12_memory 59 = .ok (.ifCond .ne 6, 3) := by decide +kernel
theorem dX12_memory_62 : decode cX12_memory 62 = .ok (.iload 5, 2) := by decide +kernel
theorem dX12_memory_64 : decode cX12_memory 64 = .ok (.ireturn, 1) := by decide +kernel
theorem dX12_memory_65 : decode cX12_memory 65 = .ok (.iload_n 2, 1) := by decide +kernel
theorem dX12_memory_66 : decode cX12_memory 66 = .ok (.ifCond .eq 14, 3) := by decide +kernel
theorem dX12_memory_69 : decode cX12_memory 69 = .ok (.aload_n 0, 1) := by decide +kernel
theorem dX12_memory_70 : decode cX12_memory 70 = .ok (.bipush 7, 2) := by decide +kernel
theorem dX12_memory_72 : decode cX12_memory 72 = .ok (.iload 4, 2) := by decide +kernel
theorem dX12_memory_74 : decode cX12_memory 74 = .ok (.invokevirtual 57, 3) := by decide +kernel
theorem dX12_memory_77 : decode cX12_memory 77 = .ok (.iload 5, 2) := by decide +kernel
theorem dX12_memory_79 : decode cX12_memory 79 = .ok (.ireturn, 1) := by decide +kernel
theorem dX12_memory_80 : decode cX12_memory 80 = .ok (.aload_n 0, 1) := by decide +kernel
theorem dX12_memory_81 : decode cX12_memory 81 = .ok (.iload_n 3, 1) := by decide +kernel
theorem dX12_memory_82 : decode cX12_memory 82 = .ok (.aload_n 0, 1) := by decide +kernel
theorem dX12_memory_83 : decode cX12_memory 83 = .ok (.getfield 129, 3) := by decide +kernel
theorem dX12_memory_86 : decode cX12_memory 86 = .ok (.sipush 128, 3) := by decide +kernel
theorem dX12_memory_89 : decode cX12_memory 89 = .ok (.idiv, 1) := by decide +kernel
theorem dX12_memory_90 : decode cX12_memory 90 = .ok (.iload 4, 2) := by decide +kernel
theorem dX12_memory_92 : decode cX12_memory 92 = .ok (.invokevirtual 209, 3) := by decide +kernel
theorem dX12_memory_95 : decode cX12_memory 95 = .ok (.istore 6, 2) := by decide +kernel
theorem dX12_memory_97 : decode cX12_memory 97 = .ok (.iload 5, 2) := by decide +kernel
theorem dX12_memory_99 : decode cX12_memory 99 = .ok (.sipush 256, 3) := by decide +kernel
theorem dX12_memory_102 : decode cX12_memory 102 = .ok (.ior, 1) := by decide +kernel
theorem dX12_memory_103 : decode cX12_memory 103 = .ok (.iload 6, 2) := by decide +kernel
theorem dX12_memory_105 : decode cX12_memory 105 = .ok (.sipush 128, 3) := by decide +kernel
theorem dX12_memory_108 : decode cX12_memory 108 = .ok (.if_icmp .ge 8, 3) := by decide +kernel
theorem dX12_memory_111 : decode cX12_memory 111 = .ok (.iload 6, 2) := by decide +kernel
theorem dX12_memory_113 : decode cX12_memory 113 = .ok (.goto 12, 3) := by decide +kernel
theorem dX12_memory_116 : decode cX12_memory 116 = .ok (.sipush 128, 3) := by decide +kernel
theorem dX12_memory_119 : decode cX12_memory 119 = .ok (.iload 6, 2) := by decide +kernel
theorem dX12_memory_121 : decode cX12_memory 121 = .ok (.bipush 127, 2) := by decide +kernel
theorem dX12_memory_123 : decode cX12_memory 123 = .ok (.iand, 1) := by decide +kernel
theorem dX12_memory_124 : decode cX12_memory 124 = .ok (.ior, 1) := by decide +kernel
theorem dX12_memory_125 : decode cX12_memory 125 = .ok (.ior, 1) := by decide +kernel
theorem dX12_memory_126 : decode cX12_memory 126 = .ok (.ireturn, 1) := by decide +kernel
theorem dX12_literal_0 : decode cX12_literal 0 = .ok (.aload_n 0, 1) := by decide +kernel
theorem dX12_literal_1 : decode cX12_literal 1 = .ok (.getfield 34, 3) := by decide +kernel
theorem dX12_literal_4 : decode cX12_literal 4 = .ok (.istore_n 1, 1) := by decide +kernel
theorem dX12_literal_5 : decode cX12_literal 5 = .ok (.aload_n 0, 1) := by decide +kernel
theorem dX12_literal_6 : decode cX12_literal 6 = .ok (.getfield 64, 3) := by decide +kernel
theorem dX12_literal_9 : decode cX12_literal 9 = .ok (.bipush 40, 2) := by decide +kernel
theorem dX12_literal_11 : decode cX12_literal 11 = .ok (.if_icmp .ne 14, 3) := by decide +kernel
theorem dX12_literal_14 : decode cX12_literal 14 = .ok (.aload_n 0, 1) := by decide +kernel
theorem dX12_literal_15 : decode cX12_literal 15 = .ok (.getfield 129, 3) := by decide +kernel
theorem dX12_literal_18 : decode cX12_literal 18 = .ok (.sipush 128, 3) := by decide +kernel
theorem dX12_literal_21 : decode cX12_literal 21 = .ok (.idiv, 1) := by decide +kernel
theorem dX12_literal_22 : decode cX12_literal 22 = .ok (.goto 4, 3) := by decide +kernel
theorem dX12_literal_25 : decode cX12_literal 25 = .ok (.iconst 0, 1) := by decide +kernel
theorem dX12_literal_26 : decode cX12_literal 26 = .ok (.istore_n 2, 1) := by decide +kernel
theorem dX12_literal_27 : decode cX12_literal 27 = .ok (.aload_n 0, 1) := by decide +kernel
theorem dX12_literal_28 : decode cX12_literal 28 = .ok (.getfield 64, 3) := by decide +kernel
theorem dX12_literal_31 : decode cX12_literal 31 = .ok (.bipush 40, 2) := by decide +kernel
theorem dX12_literal_33 : decode cX12_literal 33 = .ok (.if_icmp .ne 8, 3) := by decide +kernel
theorem dX12_literal_36 : decode cX12_literal 36 = .ok (.bipush 41, 2) := by decide +kernel
theorem dX12_literal_38 : decode cX12_literal 38 = .ok (.goto 5, 3) := by decide +kernel
theorem dX12_literal_41 : decode cX12_literal 41 = .ok (.bipush 93, 2) := by decide +kernel
theorem dX12_literal_43 : decode cX12_literal 43 = .ok (.istore_n 3, 1) := by decide +kernel
theorem dX12_literal_44 : decode cX12_literal 44 = .ok (.aload_n 0, 1) := by decide +kernel
theorem dX12_literal_45 : decode cX12_literal 45 = .ok (.invokevirtual 126, 3) := by decide +kernel
theorem dX12_literal_48 : decode cX12_literal 48 = .ok (.aload_n 0, 1) := by decide +kernel
theorem dX12_literal_49 : decode cX12_literal 49 = .ok (.invokevirtual 177, 3) := by decide +kernel
theorem dX12_literal_52 : decode cX12_literal 52 = .ok (.istore 4, 2) := by decide +kernel
theorem dX12_literal_54 : decode cX12_literal 54 = .ok (.aload_n 0, 1) := by decide +kernel
theorem dX12_literal_55 : decode cX12_literal 55 = .ok (.iload_n 3, 1) := by decide +kernel
theorem dX12_literal_56 : decode cX12_literal 56 = .ok (.invokevirtual 123, 3) := by decide +kernel
theorem dX12_literal_59 : decode cX12_literal 59 = .ok (.ifCond .eq 7, 3) := by decide +kernel
theorem dX12_literal_62 : decode cX12_literal 62 = .ok (.aload_n 0, 1) := by decide +kernel
theorem dX12_literal_63 : decode cX12_literal 63 = .ok (.invokevirtual 126, 3) := by decide +kernel
theorem dX12_literal_66 : decode cX12_literal 66 = .ok (.aload_n 0, 1) := by decide +kernel
theorem dX12_literal_67 : decode cX12_literal 67 = .ok (.iconst (-1), 1) := by decide +kernel
theorem dX12_literal_68 : decode cX12_literal 68 = .ok (.putfield 132, 3) := by decide +kernel
theorem dX12_literal_71 : decode cX12_literal 71 = .ok (.aload_n 0, 1) := by decide +kernel
theorem dX12_literal_72 : decode cX12_literal 72 = .ok (.getfield 112, 3) := by decide +kernel
theorem dX12_literal_75 : decode cX12_literal 75 = .ok (.ifCond .eq 21, 3) := by decide +kernel
theorem dX12_literal_78 : decode cX12_literal 78 = .ok (.aload_n 0, 1) := by decide +kernel
theorem dX12_literal_79 : decode cX12_literal 79 = .ok (.getfield 19, 3) := by decide +kernel
theorem dX12_literal_82 : decode cX12_literal 82 = .ok (.ifCond .ne 14, 3) := by decide +kernel
theorem dX12_literal_85 : decode cX12_literal 85 = .ok (.aload_n 0, 1) := by decide +kernel
theorem dX12_literal_86 : decode cX12_literal 86 = .ok (.iload 4, 2) := by decide +kernel
theorem dX12_literal_88 : decode cX12_literal 88 = .ok (.iload_n 2, 1) := by decide +kernel
theorem dX12_literal_89 : decode cX12_literal 89 = .ok (.iload_n 1, 1) := by decide +kernel
theorem dX12_literal_90 : decode cX12_literal 90 = .ok (.invokevirtual 209, 3) := by decide +kernel
theorem dX12_literal_93 : decode cX12_literal 93 = .ok (.goto 4, 3) := by decide +kernel
theorem dX12_literal_96 : decode cX12_literal 96 = .ok (.iconst 0, 1) := by decide +kernel
theorem dX12_literal_97 : decode cX12_literal 97 = .ok (.ireturn, 1) := by decide +kernel
theorem dX12_literalFor_0 : decode cX12_literalFor 0 = .ok (.iload_n 2, 1) := by decide +kernel
theorem dX12_literalFor_1 : decode cX12_literalFor 1 = .ok (.bipush 31, 2) := by decide +kernel
theorem dX12_literalFor_3 : decode cX12_literalFor 3 = .ok (.if_icmp .le 15, 3) := by decide +kernel
theorem dX12_literalFor_6 : decode cX12_literalFor 6 = .ok (.aload_n 0, 1) := by decide +kernel
theorem dX12_literalFor_7 : decode cX12_literalFor 7 = .ok (.bipush 6, 2) := by decide +kernel
theorem dX12_literalFor_9 : decode cX12_literalFor 9 = .ok (.aload_n 0, 1) := by decide +kernel
theorem dX12_literalFor_10 : decode cX12_literalFor 10 = .ok (.getfield 166, 3) := by decide +kernel
theorem dX12_literalFor_13 : decode cX12_literalFor 13 = .ok (.invokevirtual 57, 3) := by decide +kernel
theorem dX12_literalFor_16 : decode cX12_literalFor 16 = .ok (.iconst 0, 1) := by decide +kernel
theorem dX12_literalFor_17 : decode cX12_literalFor 17 = .ok (.ireturn, 1) := by decide +kernel
theorem dX12_literalFor_18 : decode cX12_literalFor 18 = .ok (.sipush 128, 3) := by decide +kernel
theorem dX12_literalFor_21 : decode cX12_literalFor 21 = .ok (.iload_n 2, 1) := by decide +kernel
theorem dX12_literalFor_22 : decode cX12_literalFor 22 = .ok (.imul, 1) := by decide +kernel
theorem dX12_literalFor_23 : decode cX12_literalFor 23 = .ok (.bipush 127, 2) := by decide +kernel
theorem dX12_literalFor_25 : decode cX12_literalFor 25 = .ok (.iadd, 1) := by decide +kernel
theorem dX12_literalFor_26 : decode cX12_literalFor 26 = .ok (.istore 4, 2) := by decide +kernel
theorem dX12_literalFor_28 : decode cX12_literalFor 28 = .ok (.iload 4, 2) := by decide +kernel
theorem dX12_literalFor_30 : decode cX12_literalFor 30 = .ok (.aload_n 0, 1) := by decide +kernel
theorem dX12_literalFor_31 : decode cX12_literalFor 31 = .ok (.getfield 213, 3) := by decide +kernel
theorem dX12_literalFor_34 : decode cX12_literalFor 34 = .ok (.iload_n 2, 1) := by decide +kernel
theorem dX12_literalFor_35 : decode cX12_literalFor 35 = .ok (.iaload, 1) := by decide +kernel
theorem dX12_literalFor_36 : decode cX12_literalFor 36 = .ok (.if_icmp .le 23, 3) := by decide +kernel
theorem dX12_literalFor_39 : decode cX12_literalFor 39 = .ok (.aload_n 0, 1) := by decide +kernel
theorem dX12_literalFor_40 : decode cX12_literalFor 40 = .ok (.getfield 199, 3) := by decide +kernel
theorem dX12_literalFor_43 : decode cX12_literalFor 43 = .ok (.iload 4, 2) := by decide +kernel
theorem dX12_literalFor_45 : decode cX12_literalFor 45 = .ok (.iaload, 1) := by decide +kernel
theorem dX12_literalFor_46 : decode cX12_literalFor 46 = .ok (.iload_n 1, 1) := by decide +kernel
theorem dX12_literalFor_47 : decode cX12_literalFor 47 = .ok (.if_icmp .ne 6, 3) := by decide +kernel
theorem dX12_literalFor_50 : decode cX12_literalFor 50 = .ok (.iload 4, 2) := by decide +kernel
theorem dX12_literalFor_52 : decode cX12_literalFor 52 = .ok (.ireturn, 1) := by decide +kernel
theorem dX12_literalFor_53 : decode cX12_literalFor 53 = .ok (.iinc 4 (-1), 3) := by decide +kernel
theorem dX12_literalFor_56 : decode cX12_literalFor 56 = .ok (.goto (-28), 3) := by decide +kernel
theorem dX12_literalFor_59 : decode cX12_literalFor 59 = .ok (.aload_n 0, 1) := by decide +kernel
theorem dX12_literalFor_60 : decode cX12_literalFor 60 = .ok (.getfield 213, 3) := by decide +kernel
theorem dX12_literalFor_63 : decode cX12_literalFor 63 = .ok (.iload_n 2, 1) := by decide +kernel
theorem dX12_literalFor_64 : decode cX12_literalFor 64 = .ok (.iaload, 1) := by decide +kernel
theorem dX12_literalFor_65 : decode cX12_literalFor 65 = .ok (.istore 4, 2) := by decide +kernel
theorem dX12_literalFor_67 : decode cX12_literalFor 67 = .ok (.iload 4, 2) := by decide +kernel
theorem dX12_literalFor_69 : decode cX12_literalFor 69 = .ok (.sipush 128, 3) := by decide +kernel
theorem dX12_literalFor_72 : decode cX12_literalFor 72 = .ok (.iload_n 2, 1) := by decide +kernel
theorem dX12_literalFor_73 : decode cX12_literalFor 73 = .ok (.imul, 1) := by decide +kernel
theorem dX12_literalFor_74 : decode cX12_literalFor 74 = .ok (.if_icmp .lt 22, 3) := by decide +kernel
theorem dX12_literalFor_77 : decode cX12_literalFor 77 = .ok (.aload_n 0, 1) := by decide +kernel
theorem dX12_literalFor_78 : decode cX12_literalFor 78 = .ok (.getfield 196, 3) := by decide +kernel
theorem dX12_literalFor_81 : decode cX12_literalFor 81 = .ok (.iload 4, 2) := by decide +kernel
theorem dX12_literalFor_83 : decode cX12_literalFor 83 = .ok (.baload, 1) := by decide +kernel
theorem dX12_literalFor_84 : decode cX12_literalFor 84 = .ok (.ifCond .ne 12, 3) := by decide +kernel
theorem dX12_literalFor_87 : decode cX12_literalFor 87 = .ok (.iload 4, 2) := by decide +kernel
theorem dX12_literalFor_89 : decode cX12_literalFor 89 = .ok (.aload_n 0, 1) := by decide +kernel
theorem dX12_literalFor_90 : decode cX12_literalFor 90 = .ok (.getfield 129, 3) := by decide +kernel
theorem dX12_literalFor_93 : decode cX12_literalFor 93 = .ok (.if_icmp .ne 12, 3) := by decide +kernel
theorem dX12_literalFor_96 : decode cX12_literalFor 96 = .ok (.aload_n 0, 1) := by decide +kernel
theorem dX12_literalFor_97 : decode cX12_literalFor 97 = .ok (.bipush 8, 2) := by decide +kernel
theorem dX12_literalFor_99 : decode cX12_literalFor 99 = .ok (.iload_n 3, 1) := by decide +kernel
theorem dX12_literalFor_100 : decode cX12_literalFor 100 = .ok (.invokevirtual 57, 3) := by decide +kernel
theorem dX12_literalFor_103 : decode cX12_literalFor 103 = .ok (.iconst 0, 1) := by decide +kernel
theorem dX12_literalFor_104 : decode cX12_literalFor 104 = .ok (.ireturn, 1) := by decide +kernel
theorem dX12_literalFor_105 : decode cX12_literalFor 105 = .ok (.aload_n 0, 1) := by decide +kernel
theorem dX12_literalFor_106 : decode cX12_literalFor 106 = .ok (.getfield 193, 3) := by decide +kernel
theorem dX12_literalFor_109 : decode cX12_literalFor 109 = .ok (.iload 4, 2) := by decide +kernel
theorem dX12_literalFor_111 : decode cX12_literalFor 111 = .ok (.iconst 1, 1) := by decide +kernel
theorem dX12_literalFor_112 : decode cX12_literalFor 112 = .ok (.bastore, 1) := by decide +kernel
theorem dX12_literalFor_113 : decode cX12_literalFor 113 = .ok (.aload_n 0, 1) := by decide +kernel
theorem dX12_literalFor_114 : decode cX12_literalFor 114 = .ok (.getfield 199, 3) := by decide +kernel
theorem dX12_literalFor_117 : decode cX12_literalFor 117 = .ok (.iload 4, 2) := by decide +kernel
theorem dX12_literalFor_119 : decode cX12_literalFor 119 = .ok (.iload_n 1, 1) := by decide +kernel
theorem dX12_literalFor_120 : decode cX12_literalFor 120 = .ok (.iastore, 1) := by decide +kernel
theorem dX12_literalFor_121 : decode cX12_literalFor 121 = .ok (.aload_n 0, 1) := by decide +kernel
theorem dX12_literalFor_122 : decode cX12_literalFor 122 = .ok (.getfield 213, 3) := by decide +kernel
theorem dX12_literalFor_125 : decode cX12_literalFor 125 = .ok (.iload_n 2, 1) := by decide +kernel
theorem dX12_literalFor_126 : decode cX12_literalFor 126 = .ok (.dup2, 1) := by decide +kernel
theorem dX12_literalFor_127 : decode cX12_literalFor 127 = .ok (.iaload, 1) := by decide +kernel
theorem dX12_literalFor_128 : decode cX12_literalFor 128 = .ok (.iconst 1, 1) := by decide +kernel
theorem dX12_literalFor_129 : decode cX12_literalFor 129 = .ok (.isub, 1) := by decide +kernel
theorem dX12_literalFor_130 : decode cX12_literalFor 130 = .ok (.iastore, 1) := by decide +kernel
theorem dX12_literalFor_131 : decode cX12_literalFor 131 = .ok (.iload 4, 2) := by decide +kernel
theorem dX12_literalFor_133 : decode cX12_literalFor 133 = .ok (.ireturn, 1) := by decide +kernel
theorem dX12_assemble_0 : decode cX12_assemble 0 = .ok (.aload_n 0, 1) := by decide +kernel
theorem dX12_assemble_1 : decode cX12_assemble 1 = .ok (.aload_n 0, 1) := by decide +kernel
theorem dX12_assemble_2 : decode cX12_assemble 2 = .ok (.getfield 7, 3) := by decide +kernel
theorem dX12_assemble_5 : decode cX12_assemble 5 = .ok (.putfield 25, 3) := by decide +kernel
theorem dX12_assemble_8 : decode cX12_assemble 8 = .ok (.aload_n 0, 1) := by decide +kernel
theorem dX12_assemble_9 : decode cX12_assemble 9 = .ok (.iconst 0, 1) := by decide +kernel
theorem dX12_assemble_10 : decode cX12_assemble 10 = .ok (.putfield 7, 3) := by decide +kernel
theorem dX12_assemble_13 : decode cX12_assemble 13 = .ok (.iconst 0, 1) := by decide +kernel
theorem dX12_assemble_14 : decode cX12_assemble 14 = .ok (.istore_n 1, 1) := by decide +kernel
theorem dX12_assemble_15 : decode cX12_assemble 15 = .ok (.iload_n 1, 1) := by decide +kernel
theorem dX12_assemble_16 : decode cX12_assemble 16 = .ok (.aload_n 0, 1) := by decide +kernel
theorem dX12_assemble_17 : decode cX12_assemble 17 = .ok (.getfield 25, 3) := by decide +kernel
theorem dX12_assemble_20 : decode cX12_assemble 20 = .ok (.if_icmp .ge 21, 3) := by decide +kernel
theorem dX12_assemble_23 : decode cX12_assemble 23 = .ok (.aload_n 0, 1) := by decide +kernel
theorem dX12_assemble_24 : decode cX12_assemble 24 = .ok (.getfield 28, 3) := by decide +kernel
theorem dX12_assemble_27 : decode cX12_assemble 27 = .ok (.iload_n 1, 1) := by decide +kernel
theorem dX12_assemble_28 : decode cX12_assemble 28 = .ok (.aload_n 0, 1) := by decide +kernel
theorem dX12_assemble_29 : decode cX12_assemble 29 = .ok (.getfield 1, 3) := by decide +kernel
theorem dX12_assemble_32 : decode cX12_assemble 32 = .ok (.iload_n 1, 1) := by decide +kernel
theorem dX12_assemble_33 : decode cX12_assemble 33 = .ok (.iaload, 1) := by decide +kernel
theorem dX12_assemble_34 : decode cX12_assemble 34 = .ok (.iastore, 1) := by decide +kernel
theorem dX12_assemble_35 : decode cX12_assemble 35 = .ok (.iinc 1 1, 3) := by decide +kernel
theorem dX12_assemble_38 : decode cX12_assemble 38 = .ok (.goto (-23), 3) := by decide +kernel
theorem dX12_assemble_41 : decode cX12_assemble 41 = .ok (.aload_n 0, 1) := by decide +kernel
theorem dX12_assemble_42 : decode cX12_assemble 42 = .ok (.iconst 0, 1) := by decide +kernel
theorem dX12_assemble_43 : decode cX12_assemble 43 = .ok (.putfield 19, 3) := by decide +kernel
theorem dX12_assemble_46 : decode cX12_assemble 46 = .ok (.aload_n 0, 1) := by decide +kernel
theorem dX12_assemble_47 : decode cX12_assemble 47 = .ok (.iconst (-1), 1) := by decide +kernel
theorem dX12_assemble_48 : decode cX12_assemble 48 = .ok (.putfield 22, 3) := by decide +kernel
theorem dX12_assemble_51 : decode cX12_assemble 51 = .ok (.aload_n 0, 1) := by decide +kernel
theorem dX12_assemble_52 : decode cX12_assemble 52 = .ok (.iconst 0, 1) := by decide +kernel
theorem dX12_assemble_53 : decode cX12_assemble 53 = .ok (.putfield 92, 3) := by decide +kernel
theorem dX12_assemble_56 : decode cX12_assemble 56 = .ok (.iconst 0, 1) := by decide +kernel
theorem dX12_assemble_57 : decode cX12_assemble 57 = .ok (.istore_n 1, 1) := by decide +kernel
theorem dX12_assemble_58 : decode cX12_assemble 58 = .ok (.iload_n 1, 1) := by decide +kernel
theorem dX12_assemble_59 : decode cX12_assemble 59 = .ok (.sipush 4096, 3) := by decide +kernel
theorem dX12_assemble_62 : decode cX12_assemble 62 = .ok (.if_icmp .ge 30, 3) := by decide +kernel
theorem dX12_assemble_65 : decode cX12_assemble 65 = .ok (.aload_n 0, 1) := by decide +kernel
theorem dX12_assemble_66 : decode cX12_assemble 66 = .ok (.getfield 196, 3) := by decide +kernel
theorem dX12_assemble_69 : decode cX12_assemble 69 = .ok (.iload_n 1, 1) := by decide +kernel
theorem dX12_assemble_70 : decode cX12_assemble 70 = .ok (.iconst 0, 1) := by decide +kernel
theorem dX12_assemble_71 : decode cX12_assemble 71 = .ok (.bastore, 1) := by decide +kernel
theorem dX12_assemble_72 : decode cX12_assemble 72 = .ok (.aload_n 0, 1) := by decide +kernel
theorem dX12_assemble_73 : decode cX12_assemble 73 = .ok (.getfield 193, 3) := by decide +kernel
theorem dX12_assemble_76 : decode cX12_assemble 76 = .ok (.iload_n 1, 1) := by decide +kernel
theorem dX12_assemble_77 : decode cX12_assemble 77 = .ok (.iconst 0, 1) := by decide +kernel
theorem dX12_assemble_78 : decode cX12_assemble 78 = .ok (.bastore, 1) := by decide +kernel
theorem dX12_assemble_79 : decode cX12_assemble 79 = .ok (.aload_n 0, 1) := by decide +kernel
theorem dX12_assemble_80 : decode cX12_assemble 80 = .ok (.getfield 199, 3) := by decide +kernel
theorem dX12_assemble_83 : decode cX12_assemble 83 = .ok (.iload_n 1, 1) := by decide +kernel
theorem dX12_assemble_84 : decode cX12_assemble 84 = .ok (.iconst 0, 1) := by decide +kernel
theorem dX12_assemble_85 : decode cX12_assemble 85 = .ok (.iastore, 1) := by decide +kernel
theorem dX12_assemble_86 : decode cX12_assemble 86 = .ok (.iinc 1 1, 3) := by decide +kernel
theorem dX12_assemble_89 : decode cX12_assemble 89 = .ok (.goto (-31), 3) := by decide +kernel
theorem dX12_assemble_92 : decode cX12_assemble 92 = .ok (.iconst 0, 1) := by decide +kernel
theorem dX12_assemble_93 : decode cX12_assemble 93 = .ok (.istore_n 1, 1) := by decide +kernel
theorem dX12_assemble_94 : decode cX12_assemble 94 = .ok (.iload_n 1, 1) := by decide +kernel
theorem dX12_assemble_95 : decode cX12_assemble 95 = .ok (.bipush 32, 2) := by decide +kernel
theorem dX12_assemble_97 : decode cX12_assemble 97 = .ok (.if_icmp .ge 23, 3) := by decide +kernel
theorem dX12_assemble_100 : decode cX12_assemble 100 = .ok (.aload_n 0, 1) := by decide +kernel
theorem dX12_assemble_101 : decode cX12_assemble 101 = .ok (.getfield 213, 3) := by decide +kernel
theorem dX12_assemble_104 : decode cX12_assemble 104 = .ok (.iload_n 1, 1) := by decide +kernel
theorem dX12_assemble_105 : decode cX12_assemble 105 = .ok (.sipush 128, 3) := by decide +kernel
theorem dX12_assemble_108 : decode cX12_assemble 108 = .ok (.iload_n 1, 1) := by decide +kernel
theorem dX12_assemble_109 : decode cX12_assemble 109 = .ok (.imul, 1) := by decide +kernel
theorem dX12_assemble_110 : decode cX12_assemble 110 = .ok (.bipush 127, 2) := by decide +kernel
theorem dX12_assemble_112 : decode cX12_assemble 112 = .ok (.iadd, 1) := by decide +kernel
theorem dX12_assemble_113 : decode cX12_assemble 113 = .ok (.iastore, 1) := by decide +kernel
theorem dX12_assemble_114 : decode cX12_assemble 114 = .ok (.iinc 1 1, 3) := by decide +kernel
theorem dX12_assemble_117 : decode cX12_assemble 117 = .ok (.goto (-23), 3) := by decide +kernel
theorem dX12_assemble_120 : decode cX12_assemble 120 = .ok (.aload_n 0, 1) := by decide +kernel
theorem dX12_assemble_121 : decode cX12_assemble 121 = .ok (.iconst 0, 1) := by decide +kernel
theorem dX12_assemble_122 : decode cX12_assemble 122 = .ok (.invokevirtual 216, 3) := by decide +kernel
theorem dX12_assemble_125 : decode cX12_assemble 125 = .ok (.aload_n 0, 1) := by decide +kernel
theorem dX12_assemble_126 : decode cX12_assemble 126 = .ok (.getfield 19, 3) := by decide +kernel
theorem dX12_assemble_129 : decode cX12_assemble 129 = .ok (.ifCond .ne 8, 3) := by decide +kernel
theorem dX12_assemble_132 : decode cX12_assemble 132 = .ok (.aload_n 0, 1) := by decide +kernel
theorem dX12_assemble_133 : decode cX12_assemble 133 = .ok (.iconst 1, 1) := by decide +kernel
theorem dX12_assemble_134 : decode cX12_assemble 134 = .ok (.invokevirtual 216, 3) := by decide +kernel
theorem dX12_assemble_137 : decode cX12_assemble 137 = .ok (.aload_n 0, 1) := by decide +kernel
theorem dX12_assemble_138 : decode cX12_assemble 138 = .ok (.aload_n 0, 1) := by decide +kernel
theorem dX12_assemble_139 : decode cX12_assemble 139 = .ok (.getfield 19, 3) := by decide +kernel
theorem dX12_assemble_142 : decode cX12_assemble 142 = .ok (.putfield 220, 3) := by decide +kernel
theorem dX12_assemble_145 : decode cX12_assemble 145 = .ok (.aload_n 0, 1) := by decide +kernel
theorem dX12_assemble_146 : decode cX12_assemble 146 = .ok (.aload_n 0, 1) := by decide +kernel
theorem dX12_assemble_147 : decode cX12_assemble 147 = .ok (.getfield 22, 3) := by decide +kernel
theorem dX12_assemble_150 : decode cX12_assemble 150 = .ok (.putfield 223, 3) := by decide +kernel
theorem dX12_assemble_153 : decode cX12_assemble 153 = .ok (.aload_n 0, 1) := by decide +kernel
theorem dX12_assemble_154 : decode cX12_assemble 154 = .ok (.getfield 19, 3) := by decide +kernel
theorem dX12_assemble_157 : decode cX12_assemble 157 = .ok (.ifCond .le 5, 3) := by decide +kernel
theorem dX12_assemble_160 : decode cX12_assemble 160 = .ok (.iconst (-1), 1) := by decide +kernel
theorem dX12_assemble_161 : decode cX12_assemble 161 = .ok (.ireturn, 1) := by decide +kernel
theorem dX12_assemble_162 : decode cX12_assemble 162 = .ok (.iconst 0, 1) := by decide +kernel
theorem dX12_assemble_163 : decode cX12_assemble 163 = .ok (.istore_n 1, 1) := by decide +kernel
theorem dX12_assemble_164 : decode cX12_assemble 164 = .ok (.iconst 0, 1) := by decide +kernel
theorem dX12_assemble_165 : decode cX12_assemble 165 = .ok (.istore_n 2, 1) := by decide +kernel
theorem dX12_assemble_166 : decode cX12_assemble 166 = .ok (.iload_n 2, 1) := by decide +kernel
theorem dX12_assemble_167 : decode cX12_assemble 167 = .ok (.sipush 4096, 3) := by decide +kernel
theorem dX12_assemble_170 : decode cX12_assemble 170 = .ok (.if_icmp .ge 61, 3) := by decide +kernel
theorem dX12_assemble_173 : decode cX12_assemble 173 = .ok (.aload_n 0, 1) := by decide +kernel
theorem dX12_assemble_174 : decode cX12_assemble 174 = .ok (.getfield 226, 3) := by decide +kernel
theorem dX12_assemble_177 : decode cX12_assemble 177 = .ok (.iload_n 2, 1) := by decide +kernel
theorem dX12_assemble_178 : decode cX12_assemble 178 = .ok (.aload_n 0, 1) := by decide +kernel
theorem dX12_assemble_179 : decode cX12_assemble 179 = .ok (.getfield 196, 3) := by decide +kernel
theorem dX12_assemble_182 : decode cX12_assemble 182 = .ok (.iload_n 2, 1) := by decide +kernel
theorem dX12_assemble_183 : decode cX12_assemble 183 = .ok (.baload, 1) := by decide +kernel
theorem dX12_assemble_184 : decode cX12_assemble 184 = .ok (.ifCond .ne 12, 3) := by decide +kernel
theorem dX12_assemble_187 : decode cX12_assemble 187 = .ok (.aload_n 0, 1) := by decide +kernel
theorem dX12_assemble_188 : decode cX12_assemble 188 = .ok (.getfield 193, 3) := by decide +kernel
theorem dX12_assemble_191 : decode cX12_assemble 191 = .ok (.iload_n 2, 1) := by decide +kernel
theorem dX12_assemble_192 : decode cX12_assemble 192 = .ok (.baload, 1) := by decide +kernel
theorem dX12_assemble_193 : decode cX12_assemble 193 = .ok (.ifCond .eq 12, 3) := by decide +kernel
theorem dX12_assemble_196 : decode cX12_assemble 196 = .ok (.aload_n 0, 1) := by decide +kernel
theorem dX12_assemble_197 : decode cX12_assemble 197 = .ok (.getfield 199, 3) := by decide +kernel
theorem dX12_assemble_200 : decode cX12_assemble 200 = .ok (.iload_n 2, 1) := by decide +kernel
theorem dX12_assemble_201 : decode cX12_assemble 201 = .ok (.iaload, 1) := by decide +kernel
theorem dX12_assemble_202 : decode cX12_assemble 202 = .ok (.goto 4, 3) := by decide +kernel
theorem dX12_assemble_205 : decode cX12_assemble 205 = .ok (.iconst (-1), 1) := by decide +kernel
theorem dX12_assemble_206 : decode cX12_assemble 206 = .ok (.iastore, 1) := by decide +kernel
theorem dX12_assemble_207 : decode cX12_assemble 207 = .ok (.iload_n 1, 1) := by decide +kernel
theorem dX12_assemble_208 : decode cX12_assemble 208 = .ok (.aload_n 0, 1) := by decide +kernel
theorem dX12_assemble_209 : decode cX12_assemble 209 = .ok (.getfield 226, 3) := by decide +kernel
theorem dX12_assemble_212 : decode cX12_assemble 212 = .ok (.iload_n 2, 1) := by decide +kernel
theorem dX12_assemble_213 : decode cX12_assemble 213 = .ok (.iaload, 1) := by decide +kernel
theorem dX12_assemble_214 : decode cX12_assemble 214 = .ok (.iconst (-1), 1) := by decide +kernel
theorem dX12_assemble_215 : decode cX12_assemble 215 = .ok (.if_icmp .ne 7, 3) := by decide +kernel
theorem dX12_assemble_218 : decode cX12_assemble 218 = .ok (.iconst 0, 1) := by decide +kernel
theorem dX12_assemble_219 : decode cX12_assemble 219 = .ok (.goto 4, 3) := by decide +kernel
theorem dX12_assemble_222 : decode cX12_assemble 222 = .ok (.iconst 1, 1) := by decide +kernel
theorem dX12_assemble_223 : decode cX12_assemble 223 = .ok (.iadd, 1) := by decide +kernel
theorem dX12_assemble_224 : decode cX12_assemble 224 = .ok (.istore_n 1, 1) := by decide +kernel
theorem dX12_assemble_225 : decode cX12_assemble 225 = .ok (.iinc 2 1, 3) := by decide +kernel
theorem dX12_assemble_228 : decode cX12_assemble 228 = .ok (.goto (-62), 3) := by decide +kernel
theorem dX12_assemble_231 : decode cX12_assemble 231 = .ok (.iload_n 1, 1) := by decide +kernel
theorem dX12_assemble_232 : decode cX12_assemble 232 = .ok (.ireturn, 1) := by decide +kernel
theorem dX12_fault_0 : decode cX12_fault 0 = .ok (.iload_n 1, 1) := by decide +kernel
theorem dX12_fault_1 : decode cX12_fault 1 = .ok (.ifCond .ne 10, 3) := by decide +kernel
theorem dX12_fault_4 : decode cX12_fault 4 = .ok (.aload_n 0, 1) := by decide +kernel
theorem dX12_fault_5 : decode cX12_fault 5 = .ok (.getfield 220, 3) := by decide +kernel
theorem dX12_fault_8 : decode cX12_fault 8 = .ok (.goto 16, 3) := by decide +kernel
theorem dX12_fault_11 : decode cX12_fault 11 = .ok (.iload_n 1, 1) := by decide +kernel
theorem dX12_fault_12 : decode cX12_fault 12 = .ok (.iconst 1, 1) := by decide +kernel
theorem dX12_fault_13 : decode cX12_fault 13 = .ok (.if_icmp .ne 10, 3) := by decide +kernel
theorem dX12_fault_16 : decode cX12_fault 16 = .ok (.aload_n 0, 1) := by decide +kernel
theorem dX12_fault_17 : decode cX12_fault 17 = .ok (.getfield 223, 3) := by decide +kernel
theorem dX12_fault_20 : decode cX12_fault 20 = .ok (.goto 4, 3) := by decide +kernel
theorem dX12_fault_23 : decode cX12_fault 23 = .ok (.iconst (-1), 1) := by decide +kernel
theorem dX12_fault_24 : decode cX12_fault 24 = .ok (.ireturn, 1) := by decide +kernel
theorem dX12_made_0 : decode cX12_made 0 = .ok (.iload_n 1, 1) := by decide +kernel
theorem dX12_made_1 : decode cX12_made 1 = .ok (.iconst 0, 1) := by decide +kernel
theorem dX12_made_2 : decode cX12_made 2 = .ok (.sipush 4095, 3) := by decide +kernel
theorem dX12_made_5 : decode cX12_made 5 = .ok (.invokestatic 15, 3) := by decide +kernel
theorem dX12_made_8 : decode cX12_made 8 = .ok (.ifCond .eq 12, 3) := by decide +kernel
theorem dX12_made_11 : decode cX12_made 11 = .ok (.aload_n 0, 1) := by decide +kernel
theorem dX12_made_12 : decode cX12_made 12 = .ok (.getfield 226, 3) := by decide +kernel
theorem dX12_made_15 : decode cX12_made 15 = .ok (.iload_n 1, 1) := by decide +kernel
theorem dX12_made_16 : decode cX12_made 16 = .ok (.iaload, 1) := by decide +kernel
theorem dX12_made_17 : decode cX12_made 17 = .ok (.goto 4, 3) := by decide +kernel
theorem dX12_made_20 : decode cX12_made 20 = .ok (.iconst (-1), 1) := by decide +kernel
theorem dX12_made_21 : decode cX12_made 21 = .ok (.ireturn, 1) := by decide +kernel
theorem dX12_near_0 : decode cX12_near 0 = .ok (.iload_n 0, 1) := by decide +kernel
theorem dX12_near_1 : decode cX12_near 1 = .ok (.iload_n 1, 1) := by decide +kernel
theorem dX12_near_2 : decode cX12_near 2 = .ok (.if_icmp .ge 7, 3) := by decide +kernel
theorem dX12_near_5 : decode cX12_near 5 = .ok (.iload_n 1, 1) := by decide +kernel
theorem dX12_near_6 : decode cX12_near 6 = .ok (.goto 13, 3) := by decide +kernel
theorem dX12_near_9 : decode cX12_near 9 = .ok (.iload_n 0, 1) := by decide +kernel
theorem dX12_near_10 : decode cX12_near 10 = .ok (.iload_n 2, 1) := by decide +kernel
theorem dX12_near_11 : decode cX12_near 11 = .ok (.if_icmp .le 7, 3) := by decide +kernel
theorem dX12_near_14 : decode cX12_near 14 = .ok (.iload_n 2, 1) := by decide +kernel
theorem dX12_near_15 : decode cX12_near 15 = .ok (.goto 4, 3) := by decide +kernel
theorem dX12_near_18 : decode cX12_near 18 = .ok (.iload_n 0, 1) := by decide +kernel
theorem dX12_near_19 : decode cX12_near 19 = .ok (.ireturn, 1) := by decide +kernel
theorem dX12_init_0 : decode cX12_init 0 = .ok (.aload_n 0, 1) := by decide +kernel
theorem dX12_init_1 : decode cX12_init 1 = .ok (.invokespecial 229, 3) := by decide +kernel
theorem dX12_init_4 : decode cX12_init 4 = .ok (.aload_n 0, 1) := by decide +kernel
theorem dX12_init_5 : decode cX12_init 5 = .ok (.sipush 2000, 3) := by decide +kernel
theorem dX12_init_8 : decode cX12_init 8 = .ok (.newarray .int, 2) := by decide +kernel
theorem dX12_init_10 : decode cX12_init 10 = .ok (.putfield 1, 3) := by decide +kernel
theorem dX12_init_13 : decode cX12_init 13 = .ok (.aload_n 0, 1) := by decide +kernel
theorem dX12_init_14 : decode cX12_init 14 = .ok (.sipush 2000, 3) := by decide +kernel
theorem dX12_init_17 : decode cX12_init 17 = .ok (.newarray .int, 2) := by decide +kernel
theorem dX12_init_19 : decode cX12_init 19 = .ok (.putfield 28, 3) := by decide +kernel
theorem dX12_init_22 : decode cX12_init 22 = .ok (.aload_n 0, 1) := by decide +kernel
theorem dX12_init_23 : decode cX12_init 23 = .ok (.iconst (-1), 1) := by decide +kernel
theorem dX12_init_24 : decode cX12_init 24 = .ok (.putfield 223, 3) := by decide +kernel
theorem dX12_init_27 : decode cX12_init 27 = .ok (.aload_n 0, 1) := by decide +kernel
theorem dX12_init_28 : decode cX12_init 28 = .ok (.sipush 1400, 3) := by decide +kernel
theorem dX12_init_31 : decode cX12_init 31 = .ok (.newarray .int, 2) := by decide +kernel
theorem dX12_init_33 : decode cX12_init 33 = .ok (.putfield 98, 3) := by decide +kernel
theorem dX12_init_36 : decode cX12_init 36 = .ok (.aload_n 0, 1) := by decide +kernel
theorem dX12_init_37 : decode cX12_init 37 = .ok (.sipush 200, 3) := by decide +kernel
theorem dX12_init_40 : decode cX12_init 40 = .ok (.newarray .int, 2) := by decide +kernel
theorem dX12_init_42 : decode cX12_init 42 = .ok (.putfield 95, 3) := by decide +kernel
theorem dX12_init_45 : decode cX12_init 45 = .ok (.aload_n 0, 1) := by decide +kernel
theorem dX12_init_46 : decode cX12_init 46 = .ok (.sipush 200, 3) := by decide +kernel
theorem dX12_init_49 : decode cX12_init 49 = .ok (.newarray .int, 2) := by decide +kernel
theorem dX12_init_51 : decode cX12_init 51 = .ok (.putfield 120, 3) := by decide +kernel
theorem dX12_init_54 : decode cX12_init 54 = .ok (.aload_n 0, 1) := by decide +kernel
theorem dX12_init_55 : decode cX12_init 55 = .ok (.sipush 200, 3) := by decide +kernel
theorem dX12_init_58 : decode cX12_init 58 = .ok (.newarray .boolean, 2) := by decide +kernel
theorem dX12_init_60 : decode cX12_init 60 = .ok (.putfield 116, 3) := by decide +kernel
theorem dX12_init_63 : decode cX12_init 63 = .ok (.aload_n 0, 1) := by decide +kernel
theorem dX12_init_64 : decode cX12_init 64 = .ok (.sipush 4096, 3) := by decide +kernel
theorem dX12_init_67 : decode cX12_init 67 = .ok (.newarray .int, 2) := by decide +kernel
theorem dX12_init_69 : decode cX12_init 69 = .ok (.putfield 199, 3) := by decide +kernel
theorem dX12_init_72 : decode cX12_init 72 = .ok (.aload_n 0, 1) := by decide +kernel
theorem dX12_init_73 : decode cX12_init 73 = .ok (.sipush 4096, 3) := by decide +kernel
theorem dX12_init_76 : decode cX12_init 76 = .ok (.newarray .boolean, 2) := by decide +kernel
theorem dX12_init_78 : decode cX12_init 78 = .ok (.putfield 196, 3) := by decide +kernel
theorem dX12_init_81 : decode cX12_init 81 = .ok (.aload_n 0, 1) := by decide +kernel
theorem dX12_init_82 : decode cX12_init 82 = .ok (.sipush 4096, 3) := by decide +kernel
theorem dX12_init_85 : decode cX12_init 85 = .ok (.newarray .boolean, 2) := by decide +kernel
theorem dX12_init_87 : decode cX12_init 87 = .ok (.putfield 193, 3) := by decide +kernel
theorem dX12_init_90 : decode cX12_init 90 = .ok (.aload_n 0, 1) := by decide +kernel
