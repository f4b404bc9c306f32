theorem dX12_memory__136 : decode cX12_memory_ 136 = .ok (.iaload, 1) := by decide +kernel
theorem dX12_memory__137 : decode cX12_memory_ 137 = .ok (.aload_n 0, 1) := by decide +kernel
theorem dX12_memory__138 : decode cX12_memory_ 138 = .ok (.iload_n 1, 1) := by decide +kernel
theorem dX12_memory__139 : decode cX12_memory_ 139 = .ok (.iload 4, 2) := by decide +kernel
theorem dX12_memory__141 : decode cX12_memory_ 141 = .ok (.invokevirtual 399, 3) := by decide +kernel
theorem dX12_memory__144 : decode cX12_memory_ 144 = .ok (.iadd, 1) := by decide +kernel
theorem dX12_memory__145 : decode cX12_memory_ 145 = .ok (.istore 5, 2) := by decide +kernel
theorem dX12_memory__147 : decode cX12_memory_ 147 = .ok (.iload 5, 2) := by decide +kernel
theorem dX12_memory__149 : decode cX12_memory_ 149 = .ok (.sipush 4095, 3) := by decide +kernel
theorem dX12_memory__152 : decode cX12_memory_ 152 = .ok (.if_icmp .le 17, 3) := by decide +kernel
theorem dX12_memory__155 : decode cX12_memory_ 155 = .ok (.aload_n 0, 1) := by decide +kernel
theorem dX12_memory__156 : decode cX12_memory_ 156 = .ok (.getfield 290, 3) := by decide +kernel
theorem dX12_memory__159 : decode cX12_memory_ 159 = .ok (.iload_n 1, 1) := by decide +kernel
theorem dX12_memory__160 : decode cX12_memory_ 160 = .ok (.iconst 1, 1) := by decide +kernel
theorem dX12_memory__161 : decode cX12_memory_ 161 = .ok (.aload_n 0, 1) := by decide +kernel
theorem dX12_memory__162 : decode cX12_memory_ 162 = .ok (.getfield 290, 3) := by decide +kernel
theorem dX12_memory__165 : decode cX12_memory_ 165 = .ok (.iload_n 1, 1) := by decide +kernel
theorem dX12_memory__166 : decode cX12_memory_ 166 = .ok (.iaload, 1) := by decide +kernel
theorem dX12_memory__167 : decode cX12_memory_ 167 = .ok (.isub, 1) := by decide +kernel
theorem dX12_memory__168 : decode cX12_memory_ 168 = .ok (.iastore, 1) := by decide +kernel
theorem dX12_memory__169 : decode cX12_memory_ 169 = .ok (.aload_n 0, 1) := by decide +kernel
theorem dX12_memory__170 : decode cX12_memory_ 170 = .ok (.getfield 281, 3) := by decide +kernel
theorem dX12_memory__173 : decode cX12_memory_ 173 = .ok (.iload_n 1, 1) := by decide +kernel
theorem dX12_memory__174 : decode cX12_memory_ 174 = .ok (.iload 5, 2) := by decide +kernel
theorem dX12_memory__176 : decode cX12_memory_ 176 = .ok (.sipush 4095, 3) := by decide +kernel
theorem dX12_memory__179 : decode cX12_memory_ 179 = .ok (.iand, 1) := by decide +kernel
theorem dX12_memory__180 : decode cX12_memory_ 180 = .ok (.iastore, 1) := by decide +kernel
theorem dX12_memory__181 : decode cX12_memory_ 181 = .ok (.goto 98, 3) := by decide +kernel
theorem dX12_memory__184 : decode cX12_memory_ 184 = .ok (.aload_n 0, 1) := by decide +kernel
theorem dX12_memory__185 : decode cX12_memory_ 185 = .ok (.iload_n 1, 1) := by decide +kernel
theorem dX12_memory__186 : decode cX12_memory_ 186 = .ok (.iload 4, 2) := by decide +kernel
theorem dX12_memory__188 : decode cX12_memory_ 188 = .ok (.aload_n 0, 1) := by decide +kernel
theorem dX12_memory__189 : decode cX12_memory_ 189 = .ok (.iload_n 1, 1) := by decide +kernel
theorem dX12_memory__190 : decode cX12_memory_ 190 = .ok (.iload 4, 2) := by decide +kernel
theorem dX12_memory__192 : decode cX12_memory_ 192 = .ok (.invokevirtual 399, 3) := by decide +kernel
theorem dX12_memory__195 : decode cX12_memory_ 195 = .ok (.iconst 1, 1) := by decide +kernel
theorem dX12_memory__196 : decode cX12_memory_ 196 = .ok (.iadd, 1) := by decide +kernel
theorem dX12_memory__197 : decode cX12_memory_ 197 = .ok (.invokevirtual 368, 3) := by decide +kernel
theorem dX12_memory__200 : decode cX12_memory_ 200 = .ok (.aload_n 0, 1) := by decide +kernel
theorem dX12_memory__201 : decode cX12_memory_ 201 = .ok (.iload_n 1, 1) := by decide +kernel
theorem dX12_memory__202 : decode cX12_memory_ 202 = .ok (.iload 4, 2) := by decide +kernel
theorem dX12_memory__204 : decode cX12_memory_ 204 = .ok (.invokevirtual 399, 3) := by decide +kernel
theorem dX12_memory__207 : decode cX12_memory_ 207 = .ok (.ifCond .ne 72, 3) := by decide +kernel
theorem dX12_memory__210 : decode cX12_memory_ 210 = .ok (.aload_n 0, 1) := by decide +kernel
theorem dX12_memory__211 : decode cX12_memory_ 211 = .ok (.iload_n 1, 1) := by decide +kernel
theorem dX12_memory__212 : decode cX12_memory_ 212 = .ok (.invokevirtual 460, 3) := by decide +kernel
theorem dX12_memory__215 : decode cX12_memory_ 215 = .ok (.goto 64, 3) := by decide +kernel
theorem dX12_memory__218 : decode cX12_memory_ 218 = .ok (.aload_n 0, 1) := by decide +kernel
theorem dX12_memory__219 : decode cX12_memory_ 219 = .ok (.iload_n 1, 1) := by decide +kernel
theorem dX12_memory__220 : decode cX12_memory_ 220 = .ok (.iload 4, 2) := by decide +kernel
theorem dX12_memory__222 : decode cX12_memory_ 222 = .ok (.aload_n 0, 1) := by decide +kernel
theorem dX12_memory__223 : decode cX12_memory_ 223 = .ok (.getfield 281, 3) := by decide +kernel
theorem dX12_memory__226 : decode cX12_memory_ 226 = .ok (.iload_n 1, 1) := by decide +kernel
theorem dX12_memory__227 : decode cX12_memory_ 227 = .ok (.iaload, 1) := by decide +kernel
theorem dX12_memory__228 : decode cX12_memory_ 228 = .ok (.invokevirtual 368, 3) := by decide +kernel
theorem dX12_memory__231 : decode cX12_memory_ 231 = .ok (.aload_n 0, 1) := by decide +kernel
theorem dX12_memory__232 : decode cX12_memory_ 232 = .ok (.getfield 281, 3) := by decide +kernel
theorem dX12_memory__235 : decode cX12_memory_ 235 = .ok (.iload_n 1, 1) := by decide +kernel
theorem dX12_memory__236 : decode cX12_memory_ 236 = .ok (.iconst 0, 1) := by decide +kernel
theorem dX12_memory__237 : decode cX12_memory_ 237 = .ok (.iastore, 1) := by decide +kernel
theorem dX12_memory__238 : decode cX12_memory_ 238 = .ok (.goto 41, 3) := by decide +kernel
theorem dX12_memory__241 : decode cX12_memory_ 241 = .ok (.aload_n 0, 1) := by decide +kernel
theorem dX12_memory__242 : decode cX12_memory_ 242 = .ok (.iload_n 1, 1) := by decide +kernel
theorem dX12_memory__243 : decode cX12_memory_ 243 = .ok (.iload 4, 2) := by decide +kernel
theorem dX12_memory__245 : decode cX12_memory_ 245 = .ok (.aload_n 0, 1) := by decide +kernel
theorem dX12_memory__246 : decode cX12_memory_ 246 = .ok (.getfield 287, 3) := by decide +kernel
theorem dX12_memory__249 : decode cX12_memory_ 249 = .ok (.iload_n 1, 1) := by decide +kernel
theorem dX12_memory__250 : decode cX12_memory_ 250 = .ok (.iaload, 1) := by decide +kernel
theorem dX12_memory__251 : decode cX12_memory_ 251 = .ok (.invokevirtual 368, 3) := by decide +kernel
theorem dX12_memory__254 : decode cX12_memory_ 254 = .ok (.aload_n 0, 1) := by decide +kernel
theorem dX12_memory__255 : decode cX12_memory_ 255 = .ok (.getfield 287, 3) := by decide +kernel
theorem dX12_memory__258 : decode cX12_memory_ 258 = .ok (.iload_n 1, 1) := by decide +kernel
theorem dX12_memory__259 : decode cX12_memory_ 259 = .ok (.iload 4, 2) := by decide +kernel
theorem dX12_memory__261 : decode cX12_memory_ 261 = .ok (.iconst 1, 1) := by decide +kernel
theorem dX12_memory__262 : decode cX12_memory_ 262 = .ok (.iadd, 1) := by decide +kernel
theorem dX12_memory__263 : decode cX12_memory_ 263 = .ok (.sipush 4095, 3) := by decide +kernel
theorem dX12_memory__266 : decode cX12_memory_ 266 = .ok (.iand, 1) := by decide +kernel
theorem dX12_memory__267 : decode cX12_memory_ 267 = .ok (.iastore, 1) := by decide +kernel
theorem dX12_memory__268 : decode cX12_memory_ 268 = .ok (.goto 11, 3) := by decide +kernel
theorem dX12_memory__271 : decode cX12_memory_ 271 = .ok (.aload_n 0, 1) := by decide +kernel
theorem dX12_memory__272 : decode cX12_memory_ 272 = .ok (.getfield 287, 3) := by decide +kernel
theorem dX12_memory__275 : decode cX12_memory_ 275 = .ok (.iload_n 1, 1) := by decide +kernel
theorem dX12_memory__276 : decode cX12_memory_ 276 = .ok (.iload 4, 2) := by decide +kernel
theorem dX12_memory__278 : decode cX12_memory_ 278 = .ok (.iastore, 1) := by decide +kernel
theorem dX12_memory__279 : decode cX12_memory_ 279 = .ok (.return_, 1) := by decide +kernel
theorem dX12_skip_0 : decode cX12_skip 0 = .ok (.aload_n 0, 1) := by decide +kernel
theorem dX12_skip_1 : decode cX12_skip 1 = .ok (.getfield 287, 3) := by decide +kernel
theorem dX12_skip_4 : decode cX12_skip 4 = .ok (.iload_n 1, 1) := by decide +kernel
theorem dX12_skip_5 : decode cX12_skip 5 = .ok (.aload_n 0, 1) := by decide +kernel
theorem dX12_skip_6 : decode cX12_skip 6 = .ok (.getfield 287, 3) := by decide +kernel
theorem dX12_skip_9 : decode cX12_skip 9 = .ok (.iload_n 1, 1) := by decide +kernel
theorem dX12_skip_10 : decode cX12_skip 10 = .ok (.iaload, 1) := by decide +kernel
theorem dX12_skip_11 : decode cX12_skip 11 = .ok (.iconst 1, 1) := by decide +kernel
theorem dX12_skip_12 : decode cX12_skip 12 = .ok (.iadd, 1) := by decide +kernel
theorem dX12_skip_13 : decode cX12_skip 13 = .ok (.sipush 4095, 3) := by decide +kernel
theorem dX12_skip_16 : decode cX12_skip 16 = .ok (.iand, 1) := by decide +kernel
theorem dX12_skip_17 : decode cX12_skip 17 = .ok (.iastore, 1) := by decide +kernel
theorem dX12_skip_18 : decode cX12_skip 18 = .ok (.return_, 1) := by decide +kernel
theorem dX12_has_0 : decode cX12_has 0 = .ok (.aload_n 0, 1) := by decide +kernel
theorem dX12_has_1 : decode cX12_has 1 = .ok (.getfield 438, 3) := by decide +kernel
theorem dX12_has_4 : decode cX12_has 4 = .ok (.iload_n 1, 1) := by decide +kernel
theorem dX12_has_5 : decode cX12_has 5 = .ok (.iand, 1) := by decide +kernel
theorem dX12_has_6 : decode cX12_has 6 = .ok (.ifCond .eq 7, 3) := by decide +kernel
theorem dX12_has_9 : decode cX12_has 9 = .ok (.iconst 1, 1) := by decide +kernel
theorem dX12_has_10 : decode cX12_has 10 = .ok (.goto 4, 3) := by decide +kernel
theorem dX12_has_13 : decode cX12_has 13 = .ok (.iconst 0, 1) := by decide +kernel
theorem dX12_has_14 : decode cX12_has 14 = .ok (.ireturn, 1) := by decide +kernel
theorem dX12_first_0 : decode cX12_first 0 = .ok (.aload_n 0, 1) := by decide +kernel
theorem dX12_first_1 : decode cX12_first 1 = .ok (.sipush 128, 3) := by decide +kernel
theorem dX12_first_4 : decode cX12_first 4 = .ok (.invokevirtual 463, 3) := by decide +kernel
theorem dX12_first_7 : decode cX12_first 7 = .ok (.ifCond .eq 10, 3) := by decide +kernel
theorem dX12_first_10 : decode cX12_first 10 = .ok (.aload_n 0, 1) := by decide +kernel
theorem dX12_first_11 : decode cX12_first 11 = .ok (.getfield 281, 3) := by decide +kernel
theorem dX12_first_14 : decode cX12_first 14 = .ok (.iload_n 1, 1) := by decide +kernel
theorem dX12_first_15 : decode cX12_first 15 = .ok (.iconst 0, 1) := by decide +kernel
theorem dX12_first_16 : decode cX12_first 16 = .ok (.iastore, 1) := by decide +kernel
theorem dX12_first_17 : decode cX12_first 17 = .ok (.aload_n 0, 1) := by decide +kernel
theorem dX12_first_18 : decode cX12_first 18 = .ok (.bipush 64, 2) := by decide +kernel
theorem dX12_first_20 : decode cX12_first 20 = .ok (.invokevirtual 463, 3) := by decide +kernel
theorem dX12_first_23 : decode cX12_first 23 = .ok (.ifCond .eq 10, 3) := by decide +kernel
theorem dX12_first_26 : decode cX12_first 26 = .ok (.aload_n 0, 1) := by decide +kernel
theorem dX12_first_27 : decode cX12_first 27 = .ok (.getfield 290, 3) := by decide +kernel
theorem dX12_first_30 : decode cX12_first 30 = .ok (.iload_n 1, 1) := by decide +kernel
theorem dX12_first_31 : decode cX12_first 31 = .ok (.iconst 0, 1) := by decide +kernel
theorem dX12_first_32 : decode cX12_first 32 = .ok (.iastore, 1) := by decide +kernel
theorem dX12_first_33 : decode cX12_first 33 = .ok (.aload_n 0, 1) := by decide +kernel
theorem dX12_first_34 : decode cX12_first 34 = .ok (.bipush 32, 2) := by decide +kernel
theorem dX12_first_36 : decode cX12_first 36 = .ok (.invokevirtual 463, 3) := by decide +kernel
theorem dX12_first_39 : decode cX12_first 39 = .ok (.ifCond .eq 19, 3) := by decide +kernel
theorem dX12_first_42 : decode cX12_first 42 = .ok (.aload_n 0, 1) := by decide +kernel
theorem dX12_first_43 : decode cX12_first 43 = .ok (.getfield 281, 3) := by decide +kernel
theorem dX12_first_46 : decode cX12_first 46 = .ok (.iload_n 1, 1) := by decide +kernel
theorem dX12_first_47 : decode cX12_first 47 = .ok (.sipush 4095, 3) := by decide +kernel
theorem dX12_first_50 : decode cX12_first 50 = .ok (.aload_n 0, 1) := by decide +kernel
theorem dX12_first_51 : decode cX12_first 51 = .ok (.getfield 281, 3) := by decide +kernel
theorem dX12_first_54 : decode cX12_first 54 = .ok (.iload_n 1, 1) := by decide +kernel
theorem dX12_first_55 : decode cX12_first 55 = .ok (.iaload, 1) := by decide +kernel
theorem dX12_first_56 : decode cX12_first 56 = .ok (.isub, 1) := by decide +kernel
theorem dX12_first_57 : decode cX12_first 57 = .ok (.iastore, 1) := by decide +kernel
theorem dX12_first_58 : decode cX12_first 58 = .ok (.aload_n 0, 1) := by decide +kernel
theorem dX12_first_59 : decode cX12_first 59 = .ok (.bipush 16, 2) := by decide +kernel
theorem dX12_first_61 : decode cX12_first 61 = .ok (.invokevirtual 463, 3) := by decide +kernel
theorem dX12_first_64 : decode cX12_first 64 = .ok (.ifCond .eq 17, 3) := by decide +kernel
theorem dX12_first_67 : decode cX12_first 67 = .ok (.aload_n 0, 1) := by decide +kernel
theorem dX12_first_68 : decode cX12_first 68 = .ok (.getfield 290, 3) := by decide +kernel
theorem dX12_first_71 : decode cX12_first 71 = .ok (.iload_n 1, 1) := by decide +kernel
theorem dX12_first_72 : decode cX12_first 72 = .ok (.iconst 1, 1) := by decide +kernel
theorem dX12_first_73 : decode cX12_first 73 = .ok (.aload_n 0, 1) := by decide +kernel
theorem dX12_first_74 : decode cX12_first 74 = .ok (.getfield 290, 3) := by decide +kernel
theorem dX12_first_77 : decode cX12_first 77 = .ok (.iload_n 1, 1) := by decide +kernel
theorem dX12_first_78 : decode cX12_first 78 = .ok (.iaload, 1) := by decide +kernel
theorem dX12_first_79 : decode cX12_first 79 = .ok (.isub, 1) := by decide +kernel
theorem dX12_first_80 : decode cX12_first 80 = .ok (.iastore, 1) := by decide +kernel
theorem dX12_first_81 : decode cX12_first 81 = .ok (.sipush 4096, 3) := by decide +kernel
theorem dX12_first_84 : decode cX12_first 84 = .ok (.aload_n 0, 1) := by decide +kernel
theorem dX12_first_85 : decode cX12_first 85 = .ok (.getfield 290, 3) := by decide +kernel
theorem dX12_first_88 : decode cX12_first 88 = .ok (.iload_n 1, 1) := by decide +kernel
theorem dX12_first_89 : decode cX12_first 89 = .ok (.iaload, 1) := by decide +kernel
theorem dX12_first_90 : decode cX12_first 90 = .ok (.imul, 1) := by decide +kernel
theorem dX12_first_91 : decode cX12_first 91 = .ok (.aload_n 0, 1) := by decide +kernel
theorem dX12_first_92 : decode cX12_first 92 = .ok (.getfield 281, 3) := by decide +kernel
theorem dX12_first_95 : decode cX12_first 95 = .ok (.iload_n 1, 1) := by decide +kernel
theorem dX12_first_96 : decode cX12_first 96 = .ok (.iaload, 1) := by decide +kernel
theorem dX12_first_97 : decode cX12_first 97 = .ok (.iadd, 1) := by decide +kernel
theorem dX12_first_98 : decode cX12_first 98 = .ok (.istore_n 2, 1) := by decide +kernel
theorem dX12_first_99 : decode cX12_first 99 = .ok (.aload_n 0, 1) := by decide +kernel
theorem dX12_first_100 : decode cX12_first 100 = .ok (.iconst 1, 1) := by decide +kernel
theorem dX12_first_101 : decode cX12_first 101 = .ok (.invokevirtual 463, 3) := by decide +kernel
theorem dX12_first_104 : decode cX12_first 104 = .ok (.ifCond .eq 11, 3) := by decide +kernel
theorem dX12_first_107 : decode cX12_first 107 = .ok (.iload_n 2, 1) := by decide +kernel
theorem dX12_first_108 : decode cX12_first 108 = .ok (.iconst 1, 1) := by decide +kernel
theorem dX12_first_109 : decode cX12_first 109 = .ok (.iadd, 1) := by decide +kernel
theorem dX12_first_110 : decode cX12_first 110 = .ok (.sipush 8191, 3) := by decide +kernel
theorem dX12_first_113 : decode cX12_first 113 = .ok (.iand, 1) := by decide +kernel
theorem dX12_first_114 : decode cX12_first 114 = .ok (.istore_n 2, 1) := by decide +kernel
theorem dX12_first_115 : decode cX12_first 115 = .ok (.aload_n 0, 1) := by decide +kernel
theorem dX12_first_116 : decode cX12_first 116 = .ok (.iconst 2, 1) := by decide +kernel
theorem dX12_first_117 : decode cX12_first 117 = .ok (.invokevirtual 463, 3) := by decide +kernel
theorem dX12_first_120 : decode cX12_first 120 = .ok (.ifCond .eq 7, 3) := by decide +kernel
theorem dX12_first_123 : decode cX12_first 123 = .ok (.iconst 2, 1) := by decide +kernel
theorem dX12_first_124 : decode cX12_first 124 = .ok (.goto 4, 3) := by decide +kernel
theorem dX12_first_127 : decode cX12_first 127 = .ok (.iconst 1, 1) := by decide +kernel
theorem dX12_first_128 : decode cX12_first 128 = .ok (.istore_n 3, 1) := by decide +kernel
theorem dX12_first_129 : decode cX12_first 129 = .ok (.iconst 0, 1) := by decide +kernel
theorem dX12_first_130 : decode cX12_first 130 = .ok (.istore 4, 2) := by decide +kernel
theorem dX12_first_132 : decode cX12_first 132 = .ok (.iload 4, 2) := by decide +kernel
theorem dX12_first_134 : decode cX12_first 134 = .ok (.iload_n 3, 1) := by decide +kernel
theorem dX12_first_135 : decode cX12_first 135 = .ok (.if_icmp .ge 58, 3) := by decide +kernel
theorem dX12_first_138 : decode cX12_first 138 = .ok (.aload_n 0, 1) := by decide +kernel
theorem dX12_first_139 : decode cX12_first 139 = .ok (.bipush 8, 2) := by decide +kernel
theorem dX12_first_141 : decode cX12_first 141 = .ok (.invokevirtual 463, 3) := by decide +kernel
theorem dX12_first_144 : decode cX12_first 144 = .ok (.aload_n 0, 1) := by decide +kernel
theorem dX12_first_145 : decode cX12_first 145 = .ok (.iconst 4, 1) := by decide +kernel
theorem dX12_first_146 : decode cX12_first 146 = .ok (.invokevirtual 463, 3) := by decide +kernel
theorem dX12_first_149 : decode cX12_first 149 = .ok (.if_icmp .eq 44, 3) := by decide +kernel
theorem dX12_first_152 : decode cX12_first 152 = .ok (.aload_n 0, 1) := by decide +kernel
theorem dX12_first_153 : decode cX12_first 153 = .ok (.bipush 8, 2) := by decide +kernel
theorem dX12_first_155 : decode cX12_first 155 = .ok (.invokevirtual 463, 3) := by decide +kernel
theorem dX12_first_158 : decode cX12_first 158 = .ok (.ifCond .eq 16, 3) := by decide +kernel
theorem dX12_first_161 : decode cX12_first 161 = .ok (.iload_n 2, 1) := by decide +kernel
theorem dX12_first_162 : decode cX12_first 162 = .ok (.iconst 1, 1) := by decide +kernel
theorem dX12_first_163 : decode cX12_first 163 = .ok (.ishr, 1) := by decide +kernel
theorem dX12_first_164 : decode cX12_first 164 = .ok (.iload_n 2, 1) := by decide +kernel
theorem dX12_first_165 : decode cX12_first 165 = .ok (.iconst 1, 1) := by decide +kernel
theorem dX12_first_166 : decode cX12_first 166 = .ok (.iand, 1) := by decide +kernel
theorem dX12_first_167 : decode cX12_first 167 = .ok (.bipush 12, 2) := by decide +kernel
theorem dX12_first_169 : decode cX12_first 169 = .ok (.ishl, 1) := by decide +kernel
theorem dX12_first_170 : decode cX12_first 170 = .ok (.ior, 1) := by decide +kernel
theorem dX12_first_171 : decode cX12_first 171 = .ok (.goto 15, 3) := by decide +kernel
theorem dX12_first_174 : decode cX12_first 174 = .ok (.iload_n 2, 1) := by decide +kernel
theorem dX12_first_175 : decode cX12_first 175 = .ok (.iconst 1, 1) := by decide +kernel
theorem dX12_first_176 : decode cX12_first 176 = .ok (.ishl, 1) := by decide +kernel
theorem dX12_first_177 : decode cX12_first 177 = .ok (.sipush 8191, 3) := by decide +kernel
theorem dX12_first_180 : decode cX12_first 180 = .ok (.iand, 1) := by decide +kernel
theorem dX12_first_181 : decode cX12_first 181 = .ok (.iload_n 2, 1) := by decide +kernel
theorem dX12_first_182 : decode cX12_first 182 = .ok (.bipush 12, 2) := by decide +kernel
theorem dX12_first_184 : decode cX12_first 184 = .ok (.ishr, 1) := by decide +kernel
theorem dX12_first_185 : decode cX12_first 185 = .ok (.ior, 1) := by decide +kernel
theorem dX12_first_186 : decode cX12_first 186 = .ok (.istore_n 2, 1) := by decide +kernel
theorem dX12_first_187 : decode cX12_first 187 = .ok (.iinc 4 1, 3) := by decide +kernel
theorem dX12_first_190 : decode cX12_first 190 = .ok (.goto (-58), 3) := by decide +kernel
theorem dX12_first_193 : decode cX12_first 193 = .ok (.aload_n 0, 1) := by decide +kernel
theorem dX12_first_194 : decode cX12_first 194 = .ok (.iconst 2, 1) := by decide +kernel
theorem dX12_first_195 : decode cX12_first 195 = .ok (.invokevirtual 463, 3) := by decide +kernel
theorem dX12_first_198 : decode cX12_first 198 = .ok (.ifCond .eq 42, 3) := by decide +kernel
theorem dX12_first_201 : decode cX12_first 201 = .ok (.aload_n 0, 1) := by decide +kernel
theorem dX12_first_202 : decode cX12_first 202 = .ok (.bipush 8, 2) := by decide +kernel
theorem dX12_first_204 : decode cX12_first 204 = .ok (.invokevirtual 463, 3) := by decide +kernel
theorem dX12_first_207 : decode cX12_first 207 = .ok (.ifCond .ne 33, 3) := by decide +kernel
theorem dX12_first_210 : decode cX12_first 210 = .ok (.aload_n 0, 1) := by decide +kernel
theorem dX12_first_211 : decode cX12_first 211 = .ok (.iconst 4, 1) := by decide +kernel
theorem dX12_first_212 : decode cX12_first 212 = .ok (.invokevirtual 463, 3) := by decide +kernel
theorem dX12_first_215 : decode cX12_first 215 = .ok (.ifCond .ne 25, 3) := by decide +kernel
theorem dX12_first_218 : decode cX12_first 218 = .ok (.iload_n 2, 1) := by decide +kernel
theorem dX12_first_219 : decode cX12_first 219 = .ok (.sipush 4096, 3) := by decide +kernel
theorem dX12_first_222 : decode cX12_first 222 = .ok (.iand, 1) := by decide +kernel
theorem dX12_first_223 : decode cX12_first 223 = .ok (.iload_n 2, 1) := by decide +kernel
theorem dX12_first_224 : decode cX12_first 224 = .ok (.bipush 63, 2) := by decide +kernel
theorem dX12_first_226 : decode cX12_first 226 = .ok (.iand, 1) := by decide +kernel
theorem dX12_first_227 : decode cX12_first 227 = .ok (.bipush 6, 2) := by decide +kernel
theorem dX12_first_229 : decode cX12_first 229 = .ok (.ishl, 1) := by decide +kernel
theorem dX12_first_230 : decode cX12_first 230 = .ok (.ior, 1) := by decide +kernel
theorem dX12_first_231 : decode cX12_first 231 = .ok (.iload_n 2, 1) := by decide +kernel
theorem dX12_first_232 : decode cX12_first 232 = .ok (.bipush 6, 2) := by decide +kernel
theorem dX12_first_234 : decode cX12_first 234 = .ok (.ishr, 1) := by decide +kernel
theorem dX12_first_235 : decode cX12_first 235 = .ok (.bipush 63, 2) := by decide +kernel
theorem dX12_first_237 : decode cX12_first 237 = .ok (.iand, 1) := by decide +kernel
theorem dX12_first_238 : decode cX12_first 238 = .ok (.ior, 1) := by decide +kernel
theorem dX12_first_239 : decode cX12_first 239 = .ok (.istore_n 2, 1) := by decide +kernel
theorem dX12_first_240 : decode cX12_first 240 = .ok (.aload_n 0, 1) := by decide +kernel
theorem dX12_first_241 : decode cX12_first 241 = .ok (.getfield 290, 3) := by decide +kernel
theorem dX12_first_244 : decode cX12_first 244 = .ok (.iload_n 1, 1) := by decide +kernel
theorem dX12_first_245 : decode cX12_first 245 = .ok (.iload_n 2, 1) := by decide +kernel
theorem dX12_first_246 : decode cX12_first 246 = .ok (.bipush 12, 2) := by decide +kernel
theorem dX12_first_248 : decode cX12_first 248 = .ok (.ishr, 1) := by decide +kernel
theorem dX12_first_249 : decode cX12_first 249 = .ok (.iastore, 1) := by decide +kernel
theorem dX12_first_250 : decode cX12_first 250 = .ok (.aload_n 0, 1) := by decide +kernel
theorem dX12_first_251 : decode cX12_first 251 = .ok (.getfield 281, 3) := by decide +kernel
theorem dX12_first_254 : decode cX12_first 254 = .ok (.iload_n 1, 1) := by decide +kernel
theorem dX12_first_255 : decode cX12_first 255 = .ok (.iload_n 2, 1) := by decide +kernel
theorem dX12_first_256 : decode cX12_first 256 = .ok (.sipush 4095, 3) := by decide +kernel
theorem dX12_first_259 : decode cX12_first 259 = .ok (.iand, 1) := by decide +kernel
theorem dX12_first_260 : decode cX12_first 260 = .ok (.iastore, 1) := by decide +kernel
theorem dX12_first_261 : decode cX12_first 261 = .ok (.return_, 1) := by decide +kernel
theorem dX12_second_0 : decode cX12_second 0 = .ok (.aload_n 0, 1) := by decide +kernel
theorem dX12_second_1 : decode cX12_second 1 = .ok (.bipush 64, 2) := by decide +kernel
theorem dX12_second_3 : decode cX12_second 3 = .ok (.invokevirtual 463, 3) := by decide +kernel
theorem dX12_second_6 : decode cX12_second 6 = .ok (.ifCond .eq 15, 3) := by decide +kernel
theorem dX12_second_9 : decode cX12_second 9 = .ok (.aload_n 0, 1) := by decide +kernel
theorem dX12_second_10 : decode cX12_second 10 = .ok (.getfield 281, 3) := by decide +kernel
theorem dX12_second_13 : decode cX12_second 13 = .ok (.iload_n 1, 1) := by decide +kernel
theorem dX12_second_14 : decode cX12_second 14 = .ok (.iaload, 1) := by decide +kernel
theorem dX12_second_15 : decode cX12_second 15 = .ok (.sipush 2047, 3) := by decide +kernel
theorem dX12_second_18 : decode cX12_second 18 = .ok (.if_icmp .gt 40, 3) := by decide +kernel
theorem dX12_second_21 : decode cX12_second 21 = .ok (.aload_n 0, 1) := by decide +kernel
theorem dX12_second_22 : decode cX12_second 22 = .ok (.bipush 32, 2) := by decide +kernel
theorem dX12_second_24 : decode cX12_second 24 = .ok (.invokevirtual 463, 3) := by decide +kernel
theorem dX12_second_27 : decode cX12_second 27 = .ok (.ifCond .eq 12, 3) := by decide +kernel
theorem dX12_second_30 : decode cX12_second 30 = .ok (.aload_n 0, 1) := by decide +kernel
theorem dX12_second_31 : decode cX12_second 31 = .ok (.getfield 281, 3) := by decide +kernel
theorem dX12_second_34 : decode cX12_second 34 = .ok (.iload_n 1, 1) := by decide +kernel
theorem dX12_second_35 : decode cX12_second 35 = .ok (.iaload, 1) := by decide +kernel
theorem dX12_second_36 : decode cX12_second 36 = .ok (.ifCond .eq 22, 3) := by decide +kernel
theorem dX12_second_39 : decode cX12_second 39 = .ok (.aload_n 0, 1) := by decide +kernel
theorem dX12_second_40 : decode cX12_second 40 = .ok (.bipush 16, 2) := by decide +kernel
theorem dX12_second_42 : decode cX12_second 42 = .ok (.invokevirtual 463, 3) := by decide +kernel
theorem dX12_second_45 : decode cX12_second 45 = .ok (.ifCond .eq 17, 3) := by decide +kernel
theorem dX12_second_48 : decode cX12_second 48 = .ok (.aload_n 0, 1) := by decide +kernel
theorem dX12_second_49 : decode cX12_second 49 = .ok (.getfield 290, 3) := by decide +kernel
theorem dX12_second_52 : decode cX12_second 52 = .ok (.iload_n 1, 1) := by decide +kernel
theorem dX12_second_53 : decode cX12_second 53 = .ok (.iaload, 1) := by decide +kernel
theorem dX12_second_54 : decode cX12_second 54 = .ok (.iconst 1, 1) := by decide +kernel
theorem dX12_second_55 : decode cX12_second 55 = .ok (.if_icmp .ne 7, 3) := by decide +kernel
theorem dX12_second_58 : decode cX12_second 58 = .ok (.iconst 1, 1) := by decide +kernel
theorem dX12_second_59 : decode cX12_second 59 = .ok (.goto 4, 3) := by decide +kernel
theorem dX12_second_62 : decode cX12_second 62 = .ok (.iconst 0, 1) := by decide +kernel
theorem dX12_second_63 : decode cX12_second 63 = .ok (.istore_n 2, 1) := by decide +kernel
theorem dX12_second_64 : decode cX12_second 64 = .ok (.iload_n 2, 1) := by decide +kernel
theorem dX12_second_65 : decode cX12_second 65 = .ok (.aload_n 0, 1) := by decide +kernel
theorem dX12_second_66 : decode cX12_second 66 = .ok (.bipush 8, 2) := by decide +kernel
theorem dX12_second_68 : decode cX12_second 68 = .ok (.invokevirtual 463, 3) := by decide +kernel
theorem dX12_second_71 : decode cX12_second 71 = .ok (.if_icmp .eq 8, 3) := by decide +kernel
theorem dX12_second_74 : decode cX12_second 74 = .ok (.aload_n 0, 1) := by decide +kernel
theorem dX12_second_75 : decode cX12_second 75 = .ok (.iload_n 1, 1) := by decide +kernel
theorem dX12_second_76 : decode cX12_second 76 = .ok (.invokevirtual 460, 3) := by decide +kernel
theorem dX12_second_79 : decode cX12_second 79 = .ok (.aload_n 0, 1) := by decide +kernel
theorem dX12_second_80 : decode cX12_second 80 = .ok (.sipush 128, 3) := by decide +kernel
theorem dX12_second_83 : decode cX12_second 83 = .ok (.invokevirtual 463, 3) := by decide +kernel
theorem dX12_second_86 : decode cX12_second 86 = .ok (.ifCond .eq 10, 3) := by decide +kernel
theorem dX12_second_89 : decode cX12_second 89 = .ok (.aload_n 0, 1) := by decide +kernel
theorem dX12_second_90 : decode cX12_second 90 = .ok (.getfield 281, 3) := by decide +kernel
theorem dX12_second_93 : decode cX12_second 93 = .ok (.iload_n 1, 1) := by decide +kernel
theorem dX12_second_94 : decode cX12_second 94 = .ok (.iconst 0, 1) := by decide +kernel
theorem dX12_second_95 : decode cX12_second 95 = .ok (.iastore, 1) := by decide +kernel
theorem dX12_second_96 : decode cX12_second 96 = .ok (.aload_n 0, 1) := by decide +kernel
theorem dX12_second_97 : decode cX12_second 97 = .ok (.iconst 4, 1) := by decide +kernel
theorem dX12_second_98 : decode cX12_second 98 = .ok (.invokevirtual 463, 3) := by decide +kernel
theorem dX12_second_101 : decode cX12_second 101 = .ok (.ifCond .eq 18, 3) := by decide +kernel
theorem dX12_second_104 : decode cX12_second 104 = .ok (.aload_n 0, 1) := by decide +kernel
theorem dX12_second_105 : decode cX12_second 105 = .ok (.getfield 281, 3) := by decide +kernel
theorem dX12_second_108 : decode cX12_second 108 = .ok (.iload_n 1, 1) := by decide +kernel
theorem dX12_second_109 : decode cX12_second 109 = .ok (.dup2, 1) := by decide +kernel
theorem dX12_second_110 : decode cX12_second 110 = .ok (.iaload, 1) := by decide +kernel
theorem dX12_second_111 : decode cX12_second 111 = .ok (.aload_n 0, 1) := by decide +kernel
theorem dX12_second_112 : decode cX12_second 112 = .ok (.getfield 293, 3) := by decide +kernel
theorem dX12_second_115 : decode cX12_second 115 = .ok (.iload_n 1, 1) := by decide +kernel
theorem dX12_second_116 : decode cX12_second 116 = .ok (.iaload, 1) := by decide +kernel
theorem dX12_second_117 : decode cX12_second 117 = .ok (.ior, 1) := by decide +kernel
theorem dX12_second_118 : decode cX12_second 118 = .ok (.iastore, 1) := by decide +kernel
theorem dX12_second_119 : decode cX12_second 119 = .ok (.aload_n 0, 1) := by decide +kernel
theorem dX12_second_120 : decode cX12_second 120 = .ok (.iconst 2, 1) := by decide +kernel
theorem dX12_second_121 : decode cX12_second 121 = .ok (.invokevirtual 463, 3) := by decide +kernel
theorem dX12_second_124 : decode cX12_second 124 = .ok (.ifCond .eq 11, 3) := by decide +kernel
theorem dX12_second_127 : decode cX12_second 127 = .ok (.aload_n 0, 1) := by decide +kernel
theorem dX12_second_128 : decode cX12_second 128 = .ok (.getfield 278, 3) := by decide +kernel
theorem dX12_second_131 : decode cX12_second 131 = .ok (.iload_n 1, 1) := by decide +kernel
theorem dX12_second_132 : decode cX12_second 132 = .ok (.bipush 6, 2) := by decide +kernel
theorem dX12_second_134 : decode cX12_second 134 = .ok (.iastore, 1) := by decide +kernel
theorem dX12_second_135 : decode cX12_second 135 = .ok (.return_, 1) := by decide +kernel
theorem dX12_third_0 : decode cX12_third 0 = .ok (.aload_n 0, 1) := by decide +kernel
theorem dX12_third_1 : decode cX12_third 1 = .ok (.sipush 128, 3) := by decide +kernel
theorem dX12_third_4 : decode cX12_third 4 = .ok (.invokevirtual 463, 3) := by decide +kernel
theorem dX12_third_7 : decode cX12_third 7 = .ok (.ifCond .eq 10, 3) := by decide +kernel
theorem dX12_third_10 : decode cX12_third 10 = .ok (.aload_n 0, 1) := by decide +kernel
theorem dX12_third_11 : decode cX12_third 11 = .ok (.getfield 281, 3) := by decide +kernel
theorem dX12_third_14 : decode cX12_third 14 = .ok (.iload_n 1, 1) := by decide +kernel
theorem dX12_third_15 : decode cX12_third 15 = .ok (.iconst 0, 1) := by decide +kernel
theorem dX12_third_16 : decode cX12_third 16 = .ok (.iastore, 1) := by decide +kernel
theorem dX12_third_17 : decode cX12_third 17 = .ok (.aload_n 0, 1) := by decide +kernel
theorem dX12_third_18 : decode cX12_third 18 = .ok (.bipush 64, 2) := by decide +kernel
theorem dX12_third_20 : decode cX12_third 20 = .ok (.invokevirtual 463, 3) := by decide +kernel
theorem dX12_third_23 : decode cX12_third 23 = .ok (.ifCond .eq 41, 3) := by decide +kernel
theorem dX12_third_26 : decode cX12_third 26 = .ok (.aload_n 0, 1) := by decide +kernel
theorem dX12_third_27 : decode cX12_third 27 = .ok (.bipush 16, 2) := by decide +kernel
theorem dX12_third_29 : decode cX12_third 29 = .ok (.invokevirtual 463, 3) := by decide +kernel
theorem dX12_third_32 : decode cX12_third 32 = .ok (.ifCond .eq 32, 3) := by decide +kernel
theorem dX12_third_35 : decode cX12_third 35 = .ok (.aload_n 0, 1) := by decide +kernel
theorem dX12_third_36 : decode cX12_third 36 = .ok (.getfield 281, 3) := by decide +kernel
theorem dX12_third_39 : decode cX12_third 39 = .ok (.iload_n 1, 1) := by decide +kernel
theorem dX12_third_40 : decode cX12_third 40 = .ok (.iaload, 1) := by decide +kernel
theorem dX12_third_41 : decode cX12_third 41 = .ok (.istore_n 2, 1) := by decide +kernel
theorem dX12_third_42 : decode cX12_third 42 = .ok (.aload_n 0, 1) := by decide +kernel
theorem dX12_third_43 : decode cX12_third 43 = .ok (.getfield 281, 3) := by decide +kernel
theorem dX12_third_46 : decode cX12_third 46 = .ok (.iload_n 1, 1) := by decide +kernel
theorem dX12_third_47 : decode cX12_third 47 = .ok (.aload_n 0, 1) := by decide +kernel
theorem dX12_third_48 : decode cX12_third 48 = .ok (.getfield 284, 3) := by decide +kernel
theorem dX12_third_51 : decode cX12_third 51 = .ok (.iload_n 1, 1) := by decide +kernel
theorem dX12_third_52 : decode cX12_third 52 = .ok (.iaload, 1) := by decide +kernel
theorem dX12_third_53 : decode cX12_third 53 = .ok (.iastore, 1) := by decide +kernel
theorem dX12_third_54 : decode cX12_third 54 = .ok (.aload_n 0, 1) := by decide +kernel
theorem dX12_third_55 : decode cX12_third 55 = .ok (.getfield 284, 3) := by decide +kernel
theorem dX12_third_58 : decode cX12_third 58 = .ok (.iload_n 1, 1) := by decide +kernel
theorem dX12_third_59 : decode cX12_third 59 = .ok (.iload_n 2, 1) := by decide +kernel
theorem dX12_third_60 : decode cX12_third 60 = .ok (.iastore, 1) := by decide +kernel
theorem dX12_third_61 : decode cX12_third 61 = .ok (.goto 58, 3) := by decide +kernel
theorem dX12_third_64 : decode cX12_third 64 = .ok (.aload_n 0, 1) := by decide +kernel
theorem dX12_third_65 : decode cX12_third 65 = .ok (.bipush 64, 2) := by decide +kernel
theorem dX12_third_67 : decode cX12_third 67 = .ok (.invokevirtual 463, 3) := by decide +kernel
theorem dX12_third_70 : decode cX12_third 70 = .ok (.ifCond .eq 21, 3) := by decide +kernel
theorem dX12_third_73 : decode cX12_third 73 = .ok (.aload_n 0, 1) := by decide +kernel
theorem dX12_third_74 : decode cX12_third 74 = .ok (.getfield 281, 3) := by decide +kernel
theorem dX12_third_77 : decode cX12_third 77 = .ok (.iload_n 1, 1) := by decide +kernel
theorem dX12_third_78 : decode cX12_third 78 = .ok (.dup2, 1) := by decide +kernel
theorem dX12_third_79 : decode cX12_third 79 = .ok (.iaload, 1) := by decide +kernel
theorem dX12_third_80 : decode cX12_third 80 = .ok (.aload_n 0, 1) := by decide +kernel
theorem dX12_third_81 : decode cX12_third 81 = .ok (.getfield 284, 3) := by decide +kernel
theorem dX12_third_84 : decode cX12_third 84 = .ok (.iload_n 1, 1) := by decide +kernel
theorem dX12_third_85 : decode cX12_third 85 = .ok (.iaload, 1) := by decide +kernel
theorem dX12_third_86 : decode cX12_third 86 = .ok (.ior, 1) := by decide +kernel
theorem dX12_third_87 : decode cX12_third 87 = .ok (.iastore, 1) := by decide +kernel
theorem dX12_third_88 : decode cX12_third 88 = .ok (.goto 31, 3) := by decide +kernel
theorem dX12_third_91 : decode cX12_third 91 = .ok (.aload_n 0, 1) := by decide +kernel
theorem dX12_third_92 : decode cX12_third 92 = .ok (.bipush 16, 2) := by decide +kernel
theorem dX12_third_94 : decode cX12_third 94 = .ok (.invokevirtual 463, 3) := by decide +kernel
theorem dX12_third_97 : decode cX12_third 97 = .ok (.ifCond .eq 22, 3) := by decide +kernel
theorem dX12_third_100 : decode cX12_third 100 = .ok (.aload_n 0, 1) := by decide +kernel
theorem dX12_third_101 : decode cX12_third 101 = .ok (.getfield 284, 3) := by decide +kernel
theorem dX12_third_104 : decode cX12_third 104 = .ok (.iload_n 1, 1) := by decide +kernel
theorem dX12_third_105 : decode cX12_third 105 = .ok (.aload_n 0, 1) := by decide +kernel
theorem dX12_third_106 : decode cX12_third 106 = .ok (.getfield 281, 3) := by decide +kernel
theorem dX12_third_109 : decode cX12_third 109 = .ok (.iload_n 1, 1) := by decide +kernel
theorem dX12_third_110 : decode cX12_third 110 = .ok (.iaload, 1) := by decide +kernel
theorem dX12_third_111 : decode cX12_third 111 = .ok (.iastore, 1) := by decide +kernel
theorem dX12_third_112 : decode cX12_third 112 = .ok (.aload_n 0, 1) := by decide +kernel
theorem dX12_third_113 : decode cX12_third 113 = .ok (.getfield 281, 3) := by decide +kernel
theorem dX12_third_116 : decode cX12_third 116 = .ok (.iload_n 1, 1) := by decide +kernel
theorem dX12_third_117 : decode cX12_third 117 = .ok (.iconst 0, 1) := by decide +kernel
theorem dX12_third_118 : decode cX12_third 118 = .ok (.iastore, 1) := by decide +kernel
theorem dX12_third_119 : decode cX12_third 119 = .ok (.aload_n 0, 1) := by decide +kernel
theorem dX12_third_120 : decode cX12_third 120 = .ok (.getfield 438, 3) := by decide +kernel
theorem dX12_third_123 : decode cX12_third 123 = .ok (.bipush 14, 2) := by decide +kernel
theorem dX12_third_125 : decode cX12_third 125 = .ok (.iand, 1) := by decide +kernel
theorem dX12_third_126 : decode cX12_third 126 = .ok (.istore_n 2, 1) := by decide +kernel
theorem dX12_third_127 : decode cX12_third 127 = .ok (.iload_n 2, 1) := by decide +kernel
theorem dX12_third_128 : decode cX12_third 128 = .ok (.ifCond .ne 4, 3) := by decide +kernel
theorem dX12_third_131 : decode cX12_third 131 = .ok (.return_, 1) := by decide +kernel
theorem dX12_third_132 : decode cX12_third 132 = .ok (.aload_n 0, 1) := by decide +kernel
theorem dX12_third_133 : decode cX12_third 133 = .ok (.iload_n 1, 1) := by decide +kernel
theorem dX12_third_134 : decode cX12_third 134 = .ok (.invokevirtual 466, 3) := by decide +kernel
theorem dX12_third_137 : decode cX12_third 137 = .ok (.istore_n 3, 1) := by decide +kernel
theorem dX12_third_138 : decode cX12_third 138 = .ok (.sipush 4096, 3) := by decide +kernel
theorem dX12_third_141 : decode cX12_third 141 = .ok (.aload_n 0, 1) := by decide +kernel
theorem dX12_third_142 : decode cX12_third 142 = .ok (.getfield 281, 3) := by decide +kernel
theorem dX12_third_145 : decode cX12_third 145 = .ok (.iload_n 1, 1) := by decide +kernel
theorem dX12_third_146 : decode cX12_third 146 = .ok (.iaload, 1) := by decide +kernel
theorem dX12_third_147 : decode cX12_third 147 = .ok (.imul, 1) := by decide +kernel
theorem dX12_third_148 : decode cX12_third 148 = .ok (.aload_n 0, 1) := by decide +kernel
theorem dX12_third_149 : decode cX12_third 149 = .ok (.getfield 284, 3) := by decide +kernel
theorem dX12_third_152 : decode cX12_third 152 = .ok (.iload_n 1, 1) := by decide +kernel
theorem dX12_third_153 : decode cX12_third 153 = .ok (.iaload, 1) := by decide +kernel
theorem dX12_third_154 : decode cX12_third 154 = .ok (.iadd, 1) := by decide +kernel
theorem dX12_third_155 : decode cX12_third 155 = .ok (.istore 4, 2) := by decide +kernel
theorem dX12_third_157 : decode cX12_third 157 = .ok (.iload_n 2, 1) := by decide +kernel
theorem dX12_third_158 : decode cX12_third 158 = .ok (.iconst 4, 1) := by decide +kernel
theorem dX12_third_159 : decode cX12_third 159 = .ok (.if_icmp .ne 30, 3) := by decide +kernel
theorem dX12_third_162 : decode cX12_third 162 = .ok (.iload_n 3, 1) := by decide +kernel
theorem dX12_third_163 : decode cX12_third 163 = .ok (.aload_n 0, 1) := by decide +kernel
theorem dX12_third_164 : decode cX12_third 164 = .ok (.getfield 284, 3) := by decide +kernel
theorem dX12_third_167 : decode cX12_third 167 = .ok (.iload_n 1, 1) := by decide +kernel
theorem dX12_third_168 : decode cX12_third 168 = .ok (.iaload, 1) := by decide +kernel
theorem dX12_third_169 : decode cX12_third 169 = .ok (.imul, 1) := by decide +kernel
theorem dX12_third_170 : decode cX12_third 170 = .ok (.aload_n 0, 1) := by decide +kernel
theorem dX12_third_171 : decode cX12_third 171 = .ok (.getfield 281, 3) := by decide +kernel
theorem dX12_third_174 : decode cX12_third 174 = .ok (.iload_n 1, 1) := by decide +kernel
theorem dX12_third_175 : decode cX12_third 175 = .ok (.iaload, 1) := by decide +kernel
theorem dX12_third_176 : decode cX12_third 176 = .ok (.iadd, 1) := by decide +kernel
theorem dX12_third_177 : decode cX12_third 177 = .ok (.istore 4, 2) := by decide +kernel
theorem dX12_third_179 : decode cX12_third 179 = .ok (.aload_n 0, 1) := by decide +kernel
theorem dX12_third_180 : decode cX12_third 180 = .ok (.getfield 290, 3) := by decide +kernel
theorem dX12_third_183 : decode cX12_third 183 = .ok (.iload_n 1, 1) := by decide +kernel
theorem dX12_third_184 : decode cX12_third 184 = .ok (.iconst 0, 1) := by decide +kernel
theorem dX12_third_185 : decode cX12_third 185 = .ok (.iastore, 1) := by decide +kernel
theorem dX12_third_186 : decode cX12_third 186 = .ok (.goto 138, 3) := by decide +kernel
theorem dX12_third_189 : decode cX12_third 189 = .ok (.iload_n 2, 1) := by decide +kernel
theorem dX12_third_190 : decode cX12_third 190 = .ok (.bipush 6, 2) := by decide +kernel
theorem dX12_third_192 : decode cX12_third 192 = .ok (.if_icmp .ne 46, 3) := by decide +kernel
theorem dX12_third_195 : decode cX12_third 195 = .ok (.aload_n 0, 1) := by decide +kernel
theorem dX12_third_196 : decode cX12_third 196 = .ok (.getfield 281, 3) := by decide +kernel
theorem dX12_third_199 : decode cX12_third 199 = .ok (.iload_n 1, 1) := by decide +kernel
theorem dX12_third_200 : decode cX12_third 200 = .ok (.iaload, 1) := by decide +kernel
theorem dX12_third_201 : decode cX12_third 201 = .ok (.iload_n 3, 1) := by decide +kernel
theorem dX12_third_202 : decode cX12_third 202 = .ok (.if_icmp .lt 11, 3) := by decide +kernel
theorem dX12_third_205 : decode cX12_third 205 = .ok (.aload_n 0, 1) := by decide +kernel
theorem dX12_third_206 : decode cX12_third 206 = .ok (.getfield 290, 3) := by decide +kernel
theorem dX12_third_209 : decode cX12_third 209 = .ok (.iload_n 1, 1) := by decide +kernel
theorem dX12_third_210 : decode cX12_third 210 = .ok (.iconst 1, 1) := by decide +kernel
theorem dX12_third_211 : decode cX12_third 211 = .ok (.iastore, 1) := by decide +kernel
theorem dX12_third_212 : decode cX12_third 212 = .ok (.return_, 1) := by decide +kernel
theorem dX12_third_213 : decode cX12_third 213 = .ok (.iload 4, 2) := by decide +kernel
theorem dX12_third_215 : decode cX12_third 215 = .ok (.iload_n 3, 1) := by decide +kernel
theorem dX12_third_216 : decode cX12_third 216 = .ok (.irem, 1) := by decide +kernel
theorem dX12_third_217 : decode cX12_third 217 = .ok (.sipush 4096, 3) := by decide +kernel
theorem dX12_third_220 : decode cX12_third 220 = .ok (.imul, 1) := by decide +kernel
theorem dX12_third_221 : decode cX12_third 221 = .ok (.iload 4, 2) := by decide +kernel
theorem dX12_third_223 : decode cX12_third 223 = .ok (.iload_n 3, 1) := by decide +kernel
theorem dX12_third_224 : decode cX12_third 224 = .ok (.idiv, 1) := by decide +kernel
theorem dX12_third_225 : decode cX12_third 225 = .ok (.iadd, 1) := by decide +kernel
theorem dX12_third_226 : decode cX12_third 226 = .ok (.istore 4, 2) := by decide +kernel
theorem dX12_third_228 : decode cX12_third 228 = .ok (.aload_n 0, 1) := by decide +kernel
theorem dX12_third_229 : decode cX12_third 229 = .ok (.getfield 290, 3) := by decide +kernel
theorem dX12_third_232 : decode cX12_third 232 = .ok (.iload_n 1, 1) := by decide +kernel
theorem dX12_third_233 : decode cX12_third 233 = .ok (.iconst 0, 1) := by decide +kernel
theorem dX12_third_234 : decode cX12_third 234 = .ok (.iastore, 1) := by decide +kernel
theorem dX12_third_235 : decode cX12_third 235 = .ok (.goto 89, 3) := by decide +kernel
theorem dX12_third_238 : decode cX12_third 238 = .ok (.iload_n 3, 1) := by decide +kernel
theorem dX12_third_239 : decode cX12_third 239 = .ok (.bipush 31, 2) := by decide +kernel
theorem dX12_third_241 : decode cX12_third 241 = .ok (.iand, 1) := by decide +kernel
theorem dX12_third_242 : decode cX12_third 242 = .ok (.iconst 1, 1) := by decide +kernel
theorem dX12_third_243 : decode cX12_third 243 = .ok (.iadd, 1) := by decide +kernel
theorem dX12_third_244 : decode cX12_third 244 = .ok (.istore 5, 2) := by decide +kernel
theorem dX12_third_246 : decode cX12_third 246 = .ok (.iload 5, 2) := by decide +kernel
theorem dX12_third_248 : decode cX12_third 248 = .ok (.ifCond .le 76, 3) := by decide +kernel
theorem dX12_third_251 : decode cX12_third 251 = .ok (.iload_n 2, 1) := by decide +kernel
theorem dX12_third_252 : decode cX12_third 252 = .ok (.bipush 10, 2) := by decide +kernel
theorem dX12_third_254 : decode cX12_third 254 = .ok (.if_icmp .ne 27, 3) := by decide +kernel
theorem dX12_third_257 : decode cX12_third 257 = .ok (.aload_n 0, 1) := by decide +kernel
theorem dX12_third_258 : decode cX12_third 258 = .ok (.getfield 290, 3) := by decide +kernel
theorem dX12_third_261 : decode cX12_third 261 = .ok (.iload_n 1, 1) := by decide +kernel
theorem dX12_third_262 : decode cX12_third 262 = .ok (.iload 4, 2) := by decide +kernel
theorem dX12_third_264 : decode cX12_third 264 = .ok (.bipush 23, 2) := by decide +kernel
theorem dX12_third_266 : decode cX12_third 266 = .ok (.ishr, 1) := by decide +kernel
theorem dX12_third_267 : decode cX12_third 267 = .ok (.iastore, 1) := by decide +kernel
theorem dX12_third_268 : decode cX12_third 268 = .ok (.iload 4, 2) := by decide +kernel
theorem dX12_third_270 : decode cX12_third 270 = .ok (.iconst 1, 1) := by decide +kernel
theorem dX12_third_271 : decode cX12_third 271 = .ok (.ishl, 1) := by decide +kernel
theorem dX12_third_272 : decode cX12_third 272 = .ok (.ldc_w 468, 3) := by decide +kernel
theorem dX12_third_275 : decode cX12_third 275 = .ok (.iand, 1) := by decide +kernel
theorem dX12_third_276 : decode cX12_third 276 = .ok (.istore 4, 2) := by decide +kernel
theorem dX12_third_278 : decode cX12_third 278 = .ok (.goto 40, 3) := by decide +kernel
theorem dX12_third_281 : decode cX12_third 281 = .ok (.aload_n 0, 1) := by decide +kernel
theorem dX12_third_282 : decode cX12_third 282 = .ok (.getfield 290, 3) := by decide +kernel
theorem dX12_third_285 : decode cX12_third 285 = .ok (.iload_n 1, 1) := by decide +kernel
theorem dX12_third_286 : decode cX12_third 286 = .ok (.iload_n 2, 1) := by decide +kernel
theorem dX12_third_287 : decode cX12_third 287 = .ok (.bipush 12, 2) := by decide +kernel
theorem dX12_third_289 : decode cX12_third 289 = .ok (.if_icmp .ne 11, 3) := by decide +kernel
theorem dX12_third_292 : decode cX12_third 292 = .ok (.iload 4, 2) := by decide +kernel
theorem dX12_third_294 : decode cX12_third 294 = .ok (.bipush 23, 2) := by decide +kernel
theorem dX12_third_296 : decode cX12_third 296 = .ok (.ishr, 1) := by decide +kernel
theorem dX12_third_297 : decode cX12_third 297 = .ok (.goto 4, 3) := by decide +kernel
theorem dX12_third_300 : decode cX12_third 300 = .ok (.iconst 0, 1) := by decide +kernel
theorem dX12_third_301 : decode cX12_third 301 = .ok (.iastore, 1) := by decide +kernel
theorem dX12_third_302 : decode cX12_third 302 = .ok (.iload 4, 2) := by decide +kernel
theorem dX12_third_304 : decode cX12_third 304 = .ok (.iconst 1, 1) := by decide +kernel
theorem dX12_third_305 : decode cX12_third 305 = .ok (.ishr, 1) := by decide +kernel
theorem dX12_third_306 : decode cX12_third 306 = .ok (.aload_n 0, 1) := by decide +kernel
theorem dX12_third_307 : decode cX12_third 307 = .ok (.getfield 290, 3) := by decide +kernel
theorem dX12_third_310 : decode cX12_third 310 = .ok (.iload_n 1, 1) := by decide +kernel
theorem dX12_third_311 : decode cX12_third 311 = .ok (.iaload, 1) := by decide +kernel
theorem dX12_third_312 : decode cX12_third 312 = .ok (.bipush 23, 2) := by decide +kernel
theorem dX12_third_314 : decode cX12_third 314 = .ok (.ishl, 1) := by decide +kernel
theorem dX12_third_315 : decode cX12_third 315 = .ok (.ior, 1) := by decide +kernel
theorem dX12_third_316 : decode cX12_third 316 = .ok (.istore 4, 2) := by decide +kernel
theorem dX12_third_318 : decode cX12_third 318 = .ok (.iinc 5 (-1), 3) := by decide +kernel
theorem dX12_third_321 : decode cX12_third 321 = .ok (.goto (-75), 3) := by decide +kernel
theorem dX12_third_324 : decode cX12_third 324 = .ok (.aload_n 0, 1) := by decide +kernel
theorem dX12_third_325 : decode cX12_third 325 = .ok (.getfield 281, 3) := by decide +kernel
theorem dX12_third_328 : decode cX12_third 328 = .ok (.iload_n 1, 1) := by decide +kernel
theorem dX12_third_329 : decode cX12_third 329 = .ok (.iload 4, 2) := by decide +kernel
theorem dX12_third_331 : decode cX12_third 331 = .ok (.bipush 12, 2) := by decide +kernel
theorem dX12_third_333 : decode cX12_third 333 = .ok (.ishr, 1) := by decide +kernel
theorem dX12_third_334 : decode cX12_third 334 = .ok (.iastore, 1) := by decide +kernel
theorem dX12_third_335 : decode cX12_third 335 = .ok (.aload_n 0, 1) := by decide +kernel
theorem dX12_third_336 : decode cX12_third 336 = .ok (.getfield 284, 3) := by decide +kernel
theorem dX12_third_339 : decode cX12_third 339 = .ok (.iload_n 1, 1) := by decide +kernel
theorem dX12_third_340 : decode cX12_third 340 = .ok (.iload 4, 2) := by decide +kernel
theorem dX12_third_342 : decode cX12_third 342 = .ok (.sipush 4095, 3) := by decide +kernel
theorem dX12_third_345 : decode cX12_third 345 = .ok (.iand, 1) := by decide +kernel
theorem dX12_third_346 : decode cX12_third 346 = .ok (.iastore, 1) := by decide +kernel
theorem dX12_third_347 : decode cX12_third 347 = .ok (.return_, 1) := by decide +kernel
theorem dX12_device_0 : decode cX12_device 0 = .ok (.aload_n 0, 1) := by decide +kernel
theorem dX12_device_1 : decode cX12_device 1 = .ok (.getfield 438, 3) := by decide +kernel
theorem dX12_device_4 : decode cX12_device 4 = .ok (.lookupswitch 367 #[(3097, 100), (3098, 117), (3100, 141), (3102, 165), (3105, 191), (3108, 199), (3110, 199), (3343, 280), (3344, 234), (3360, 290), (3361, 290)], 100) := by decide +kernel
theorem dX12_device_104 : decode cX12_device 104 = .ok (.aload_n 0, 1) := by decide +kernel
theorem dX12_device_105 : decode cX12_device 105 = .ok (.getfield 302, 3) := by decide +kernel
theorem dX12_device_108 : decode cX12_device 108 = .ok (.iload_n 1, 1) := by decide +kernel
theorem dX12_device_109 : decode cX12_device 109 = .ok (.iaload, 1) := by decide +kernel
theorem dX12_device_110 : decode cX12_device 110 = .ok (.ifCond .le 261, 3) := by decide +kernel
theorem dX12_device_113 : decode cX12_device 113 = .ok (.aload_n 0, 1) := by decide +kernel
theorem dX12_device_114 : decode cX12_device 114 = .ok (.iload_n 1, 1) := by decide +kernel
theorem dX12_device_115 : decode cX12_device 115 = .ok (.invokevirtual 460, 3) := by decide +kernel
theorem dX12_device_118 : decode cX12_device 118 = .ok (.goto 253, 3) := by decide +kernel
theorem dX12_device_121 : decode cX12_device 121 = .ok (.aload_n 0, 1) := by decide +kernel
theorem dX12_device_122 : decode cX12_device 122 = .ok (.getfield 281, 3) := by decide +kernel
theorem dX12_device_125 : decode cX12_device 125 = .ok (.iload_n 1, 1) := by decide +kernel
theorem dX12_device_126 : decode cX12_device 126 = .ok (.iconst 0, 1) := by decide +kernel
theorem dX12_device_127 : decode cX12_device 127 = .ok (.iastore, 1) := by decide +kernel
theorem dX12_device_128 : decode cX12_device 128 = .ok (.aload_n 0, 1) := by decide +kernel
theorem dX12_device_129 : decode cX12_device 129 = .ok (.getfield 302, 3) := by decide +kernel
theorem dX12_device_132 : decode cX12_device 132 = .ok (.iload_n 1, 1) := by decide +kernel
theorem dX12_device_133 : decode cX12_device 133 = .ok (.iaload, 1) := by decide +kernel
theorem dX12_device_134 : decode cX12_device 134 = .ok (.ifCond .le 237, 3) := by decide +kernel
theorem dX12_device_137 : decode cX12_device 137 = .ok (.aload_n 0, 1) := by decide +kernel
theorem dX12_device_138 : decode cX12_device 138 = .ok (.iload_n 1, 1) := by decide +kernel
theorem dX12_device_139 : decode cX12_device 139 = .ok (.invokevirtual 469, 3) := by decide +kernel
theorem dX12_device_142 : decode cX12_device 142 = .ok (.goto 229, 3) := by decide +kernel
theorem dX12_device_145 : decode cX12_device 145 = .ok (.aload_n 0, 1) := by decide +kernel
theorem dX12_device_146 : decode cX12_device 146 = .ok (.getfield 281, 3) := by decide +kernel
theorem dX12_device_149 : decode cX12_device 149 = .ok (.iload_n 1, 1) := by decide +kernel
theorem dX12_device_150 : decode cX12_device 150 = .ok (.dup2, 1) := by decide +kernel
theorem dX12_device_151 : decode cX12_device 151 = .ok (.iaload, 1) := by decide +kernel
theorem dX12_device_152 : decode cX12_device 152 = .ok (.aload_n 0, 1) := by decide +kernel
theorem dX12_device_153 : decode cX12_device 153 = .ok (.getfield 299, 3) := by decide +kernel
theorem dX12_device_156 : decode cX12_device 156 = .ok (.iload_n 1, 1) := by decide +kernel
theorem dX12_device_157 : decode cX12_device 157 = .ok (.aaload, 1) := by decide +kernel
theorem dX12_device_158 : decode cX12_device 158 = .ok (.iconst 0, 1) := by decide +kernel
theorem dX12_device_159 : decode cX12_device 159 = .ok (.iaload, 1) := by decide +kernel
theorem dX12_device_160 : decode cX12_device 160 = .ok (.sipush 128, 3) := by decide +kernel
theorem dX12_device_163 : decode cX12_device 163 = .ok (.ior, 1) := by decide +kernel
theorem dX12_device_164 : decode cX12_device 164 = .ok (.ior, 1) := by decide +kernel
theorem dX12_device_165 : decode cX12_device 165 = .ok (.iastore, 1) := by decide +kernel
theorem dX12_device_166 : decode cX12_device 166 = .ok (.goto 205, 3) := by decide +kernel
theorem dX12_device_169 : decode cX12_device 169 = .ok (.aload_n 0, 1) := by decide +kernel
theorem dX12_device_170 : decode cX12_device 170 = .ok (.getfield 281, 3) := by decide +kernel
theorem dX12_device_173 : decode cX12_device 173 = .ok (.iload_n 1, 1) := by decide +kernel
theorem dX12_device_174 : decode cX12_device 174 = .ok (.aload_n 0, 1) := by decide +kernel
theorem dX12_device_175 : decode cX12_device 175 = .ok (.getfield 299, 3) := by decide +kernel
theorem dX12_device_178 : decode cX12_device 178 = .ok (.iload_n 1, 1) := by decide +kernel
theorem dX12_device_179 : decode cX12_device 179 = .ok (.aaload, 1) := by decide +kernel
theorem dX12_device_180 : decode cX12_device 180 = .ok (.iconst 0, 1) := by decide +kernel
theorem dX12_device_181 : decode cX12_device 181 = .ok (.iaload, 1) := by decide +kernel
theorem dX12_device_182 : decode cX12_device 182 = .ok (.sipush 128, 3) := by decide +kernel
theorem dX12_device_185 : decode cX12_device 185 = .ok (.ior, 1) := by decide +kernel
theorem dX12_device_186 : decode cX12_device 186 = .ok (.iastore, 1) := by decide +kernel
theorem dX12_device_187 : decode cX12_device 187 = .ok (.aload_n 0, 1) := by decide +kernel
theorem dX12_device_188 : decode cX12_device 188 = .ok (.iload_n 1, 1) := by decide +kernel
theorem dX12_device_189 : decode cX12_device 189 = .ok (.invokevirtual 469, 3) := by decide +kernel
theorem dX12_device_192 : decode cX12_device 192 = .ok (.goto 179, 3) := by decide +kernel
theorem dX12_device_195 : decode cX12_device 195 = .ok (.aload_n 0, 1) := by decide +kernel
theorem dX12_device_196 : decode cX12_device 196 = .ok (.iload_n 1, 1) := by decide +kernel
theorem dX12_device_197 : decode cX12_device 197 = .ok (.invokevirtual 460, 3) := by decide +kernel
theorem dX12_device_200 : decode cX12_device 200 = .ok (.goto 171, 3) := by decide +kernel
theorem dX12_device_203 : decode cX12_device 203 = .ok (.aload_n 0, 1) := by decide +kernel
theorem dX12_device_204 : decode cX12_device 204 = .ok (.getfield 308, 3) := by decide +kernel
theorem dX12_device_207 : decode cX12_device 207 = .ok (.iload_n 1, 1) := by decide +kernel
theorem dX12_device_208 : decode cX12_device 208 = .ok (.aaload, 1) := by decide +kernel
theorem dX12_device_209 : decode cX12_device 209 = .ok (.aload_n 0, 1) := by decide +kernel
theorem dX12_device_210 : decode cX12_device 210 = .ok (.getfield 311, 3) := by decide +kernel
theorem dX12_device_213 : decode cX12_device 213 = .ok (.iload_n 1, 1) := by decide +kernel
theorem dX12_device_214 : decode cX12_device 214 = .ok (.iaload, 1) := by decide +kernel
theorem dX12_device_215 : decode cX12_device 215 = .ok (.aload_n 0, 1) := by decide +kernel
theorem dX12_device_216 : decode cX12_device 216 = .ok (.getfield 281, 3) := by decide +kernel
theorem dX12_device_219 : decode cX12_device 219 = .ok (.iload_n 1, 1) := by decide +kernel
theorem dX12_device_220 : decode cX12_device 220 = .ok (.iaload, 1) := by decide +kernel
theorem dX12_device_221 : decode cX12_device 221 = .ok (.bipush 127, 2) := by decide +kernel
theorem dX12_device_223 : decode cX12_device 223 = .ok (.iand, 1) := by decide +kernel
theorem dX12_device_224 : decode cX12_device 224 = .ok (.iastore, 1) := by decide +kernel
theorem dX12_device_225 : decode cX12_device 225 = .ok (.aload_n 0, 1) := by decide +kernel
theorem dX12_device_226 : decode cX12_device 226 = .ok (.getfield 311, 3) := by decide +kernel
theorem dX12_device_229 : decode cX12_device 229 = .ok (.iload_n 1, 1) := by decide +kernel
theorem dX12_device_230 : decode cX12_device 230 = .ok (.dup2, 1) := by decide +kernel
theorem dX12_device_231 : decode cX12_device 231 = .ok (.iaload, 1) := by decide +kernel
theorem dX12_device_232 : decode cX12_device 232 = .ok (.iconst 1, 1) := by decide +kernel
theorem dX12_device_233 : decode cX12_device 233 = .ok (.iadd, 1) := by decide +kernel
theorem dX12_device_234 : decode cX12_device 234 = .ok (.iastore, 1) := by decide +kernel
theorem dX12_device_235 : decode cX12_device 235 = .ok (.goto 136, 3) := by decide +kernel
theorem dX12_device_238 : decode cX12_device 238 = .ok (.aload_n 0, 1) := by decide +kernel
theorem dX12_device_239 : decode cX12_device 239 = .ok (.getfield 281, 3) := by decide +kernel
theorem dX12_device_242 : decode cX12_device 242 = .ok (.iload_n 1, 1) := by decide +kernel
theorem dX12_device_243 : decode cX12_device 243 = .ok (.iaload, 1) := by decide +kernel
theorem dX12_device_244 : decode cX12_device 244 = .ok (.ifCond .le 30, 3) := by decide +kernel
theorem dX12_device_247 : decode cX12_device 247 = .ok (.aload_n 0, 1) := by decide +kernel
theorem dX12_device_248 : decode cX12_device 248 = .ok (.getfield 278, 3) := by decide +kernel
theorem dX12_device_251 : decode cX12_device 251 = .ok (.iload_n 1, 1) := by decide +kernel
theorem dX12_device_252 : decode cX12_device 252 = .ok (.iconst 4, 1) := by decide +kernel
theorem dX12_device_253 : decode cX12_device 253 = .ok (.iastore, 1) := by decide +kernel
theorem dX12_device_254 : decode cX12_device 254 = .ok (.aload_n 0, 1) := by decide +kernel
theorem dX12_device_255 : decode cX12_device 255 = .ok (.getfield 323, 3) := by decide +kernel
theorem dX12_device_258 : decode cX12_device 258 = .ok (.iload_n 1, 1) := by decide +kernel
theorem dX12_device_259 : decode cX12_device 259 = .ok (.aload_n 0, 1) := by decide +kernel
theorem dX12_device_260 : decode cX12_device 260 = .ok (.getfield 378, 3) := by decide +kernel
theorem dX12_device_263 : decode cX12_device 263 = .ok (.bipush 16, 2) := by decide +kernel
theorem dX12_device_265 : decode cX12_device 265 = .ok (.aload_n 0, 1) := by decide +kernel
theorem dX12_device_266 : decode cX12_device 266 = .ok (.getfield 281, 3) := by decide +kernel
theorem dX12_device_269 : decode cX12_device 269 = .ok (.iload_n 1, 1) := by decide +kernel
theorem dX12_device_270 : decode cX12_device 270 = .ok (.iaload, 1) := by decide +kernel
theorem dX12_device_271 : decode cX12_device 271 = .ok (.imul, 1) := by decide +kernel
theorem dX12_device_272 : decode cX12_device 272 = .ok (.iadd, 1) := by decide +kernel
theorem dX12_device_273 : decode cX12_device 273 = .ok (.iastore, 1) := by decide +kernel
theorem dX12_device_274 : decode cX12_device 274 = .ok (.aload_n 0, 1) := by decide +kernel
theorem dX12_device_275 : decode cX12_device 275 = .ok (.getfield 281, 3) := by decide +kernel
theorem dX12_device_278 : decode cX12_device 278 = .ok (.iload_n 1, 1) := by decide +kernel
theorem dX12_device_279 : decode cX12_device 279 = .ok (.iconst 0, 1) := by decide +kernel
theorem dX12_device_280 : decode cX12_device 280 = .ok (.iastore, 1) := by decide +kernel
theorem dX12_device_281 : decode cX12_device 281 = .ok (.goto 90, 3) := by decide +kernel
theorem dX12_device_284 : decode cX12_device 284 = .ok (.aload_n 0, 1) := by decide +kernel
theorem dX12_device_285 : decode cX12_device 285 = .ok (.getfield 281, 3) := by decide +kernel
theorem dX12_device_288 : decode cX12_device 288 = .ok (.iload_n 1, 1) := by decide +kernel
theorem dX12_device_289 : decode cX12_device 289 = .ok (.iload_n 1, 1) := by decide +kernel
theorem dX12_device_290 : decode cX12_device 290 = .ok (.iastore, 1) := by decide +kernel
theorem dX12_device_291 : decode cX12_device 291 = .ok (.goto 80, 3) := by decide +kernel
theorem dX12_device_294 : decode cX12_device 294 = .ok (.aload_n 0, 1) := by decide +kernel
theorem dX12_device_295 : decode cX12_device 295 = .ok (.getfield 278, 3) := by decide +kernel
theorem dX12_device_298 : decode cX12_device 298 = .ok (.iload_n 1, 1) := by decide +kernel
theorem dX12_device_299 : decode cX12_device 299 = .ok (.iconst 5, 1) := by decide +kernel
theorem dX12_device_300 : decode cX12_device 300 = .ok (.iastore, 1) := by decide +kernel
theorem dX12_device_301 : decode cX12_device 301 = .ok (.aload_n 0, 1) := by decide +kernel
theorem dX12_device_302 : decode cX12_device 302 = .ok (.getfield 335, 3) := by decide +kernel
theorem dX12_device_305 : decode cX12_device 305 = .ok (.iload_n 1, 1) := by decide +kernel
theorem dX12_device_306 : decode cX12_device 306 = .ok (.aload_n 0, 1) := by decide +kernel
theorem dX12_device_307 : decode cX12_device 307 = .ok (.getfield 438, 3) := by decide +kernel
theorem dX12_device_310 : decode cX12_device 310 = .ok (.sipush 3361, 3) := by decide +kernel
theorem dX12_device_313 : decode cX12_device 313 = .ok (.if_icmp .ne 7, 3) := by decide +kernel
theorem dX12_device_316 : decode cX12_device 316 = .ok (.iconst 1, 1) := by decide +kernel
theorem dX12_device_317 : decode cX12_device 317 = .ok (.goto 4, 3) := by decide +kernel
theorem dX12_device_320 : decode cX12_device 320 = .ok (.iconst 0, 1) := by decide +kernel
theorem dX12_device_321 : decode cX12_device 321 = .ok (.bastore, 1) := by decide +kernel
theorem dX12_device_322 : decode cX12_device 322 = .ok (.aload_n 0, 1) := by decide +kernel
theorem dX12_device_323 : decode cX12_device 323 = .ok (.getfield 332, 3) := by decide +kernel
theorem dX12_device_326 : decode cX12_device 326 = .ok (.iload_n 1, 1) := by decide +kernel
theorem dX12_device_327 : decode cX12_device 327 = .ok (.aload_n 0, 1) := by decide +kernel
theorem dX12_device_328 : decode cX12_device 328 = .ok (.getfield 281, 3) := by decide +kernel
theorem dX12_device_331 : decode cX12_device 331 = .ok (.iload_n 1, 1) := by decide +kernel
theorem dX12_device_332 : decode cX12_device 332 = .ok (.iaload, 1) := by decide +kernel
theorem dX12_device_333 : decode cX12_device 333 = .ok (.bipush 7, 2) := by decide +kernel
theorem dX12_device_335 : decode cX12_device 335 = .ok (.iand, 1) := by decide +kernel
theorem dX12_device_336 : decode cX12_device 336 = .ok (.iastore, 1) := by decide +kernel
theorem dX12_device_337 : decode cX12_device 337 = .ok (.aload_n 0, 1) := by decide +kernel
theorem dX12_device_338 : decode cX12_device 338 = .ok (.getfield 329, 3) := by decide +kernel
theorem dX12_device_341 : decode cX12_device 341 = .ok (.iload_n 1, 1) := by decide +kernel
theorem dX12_device_342 : decode cX12_device 342 = .ok (.aload_n 0, 1) := by decide +kernel
theorem dX12_device_343 : decode cX12_device 343 = .ok (.getfield 284, 3) := by decide +kernel
theorem dX12_device_346 : decode cX12_device 346 = .ok (.iload_n 1, 1) := by decide +kernel
theorem dX12_device_347 : decode cX12_device 347 = .ok (.iaload, 1) := by decide +kernel
theorem dX12_device_348 : decode cX12_device 348 = .ok (.iastore, 1) := by decide +kernel
theorem dX12_device_349 : decode cX12_device 349 = .ok (.aload_n 0, 1) := by decide +kernel
theorem dX12_device_350 : decode cX12_device 350 = .ok (.getfield 326, 3) := by decide +kernel
theorem dX12_device_353 : decode cX12_device 353 = .ok (.iload_n 1, 1) := by decide +kernel
theorem dX12_device_354 : decode cX12_device 354 = .ok (.aload_n 0, 1) := by decide +kernel
theorem dX12_device_355 : decode cX12_device 355 = .ok (.getfield 472, 3) := by decide +kernel
theorem dX12_device_358 : decode cX12_device 358 = .ok (.iastore, 1) := by decide +kernel
theorem dX12_device_359 : decode cX12_device 359 = .ok (.aload_n 0, 1) := by decide +kernel
theorem dX12_device_360 : decode cX12_device 360 = .ok (.dup, 1) := by decide +kernel
theorem dX12_device_361 : decode cX12_device 361 = .ok (.getfield 472, 3) := by decide +kernel
theorem dX12_device_364 : decode cX12_device 364 = .ok (.iconst 1, 1) := by decide +kernel
theorem dX12_device_365 : decode cX12_device 365 = .ok (.iadd, 1) := by decide +kernel
theorem dX12_device_366 : decode cX12_device 366 = .ok (.putfield 472, 3) := by decide +kernel
theorem dX12_device_369 : decode cX12_device 369 = .ok (.iconst 0, 1) := by decide +kernel
theorem dX12_device_370 : decode cX12_device 370 = .ok (.ireturn, 1) := by decide +kernel
theorem dX12_device_371 : decode cX12_device 371 = .ok (.iconst 1, 1) := by decide +kernel
theorem dX12_device_372 : decode cX12_device 372 = .ok (.ireturn, 1) := by decide +kernel
theorem dX12_goes_0 : decode cX12_goes 0 = .ok (.aload_n 0, 1) := by decide +kernel
theorem dX12_goes_1 : decode cX12_goes 1 = .ok (.getfield 302, 3) := by decide +kernel
theorem dX12_goes_4 : decode cX12_goes 4 = .ok (.iload_n 1, 1) := by decide +kernel
theorem dX12_goes_5 : decode cX12_goes 5 = .ok (.dup2, 1) := by decide +kernel
theorem dX12_goes_6 : decode cX12_goes 6 = .ok (.iaload, 1) := by decide +kernel
theorem dX12_goes_7 : decode cX12_goes 7 = .ok (.iconst 1, 1) := by decide +kernel
theorem dX12_goes_8 : decode cX12_goes 8 = .ok (.isub, 1) := by decide +kernel
theorem dX12_goes_9 : decode cX12_goes 9 = .ok (.iastore, 1) := by decide +kernel
theorem dX12_goes_10 : decode cX12_goes 10 = .ok (.iconst 0, 1) := by decide +kernel
theorem dX12_goes_11 : decode cX12_goes 11 = .ok (.istore_n 2, 1) := by decide +kernel
theorem dX12_goes_12 : decode cX12_goes 12 = .ok (.iload_n 2, 1) := by decide +kernel
theorem dX12_goes_13 : decode cX12_goes 13 = .ok (.aload_n 0, 1) := by decide +kernel
theorem dX12_goes_14 : decode cX12_goes 14 = .ok (.getfield 302, 3) := by decide +kernel
theorem dX12_goes_17 : decode cX12_goes 17 = .ok (.iload_n 1, 1) := by decide +kernel
theorem dX12_goes_18 : decode cX12_goes 18 = .ok (.iaload, 1) := by decide +kernel
theorem dX12_goes_19 : decode cX12_goes 19 = .ok (.if_icmp .ge 27, 3) := by decide +kernel
theorem dX12_goes_22 : decode cX12_goes 22 = .ok (.aload_n 0, 1) := by decide +kernel
theorem dX12_goes_23 : decode cX12_goes 23 = .ok (.getfield 299, 3) := by decide +kernel
theorem dX12_goes_26 : decode cX12_goes 26 = .ok (.iload_n 1, 1) := by decide +kernel
theorem dX12_goes_27 : decode cX12_goes 27 = .ok (.aaload, 1) := by decide +kernel
theorem dX12_goes_28 : decode cX12_goes 28 = .ok (.iload_n 2, 1) := by decide +kernel
theorem dX12_goes_29 : decode cX12_goes 29 = .ok (.aload_n 0, 1) := by decide +kernel
theorem dX12_goes_30 : decode cX12_goes 30 = .ok (.getfield 299, 3) := by decide +kernel
theorem dX12_goes_33 : decode cX12_goes 33 = .ok (.iload_n 1, 1) := by decide +kernel
theorem dX12_goes_34 : decode cX12_goes 34 = .ok (.aaload, 1) := by decide +kernel
theorem dX12_goes_35 : decode cX12_goes 35 = .ok (.iload_n 2, 1) := by decide +kernel
theorem dX12_goes_36 : decode cX12_goes 36 = .ok (.iconst 1, 1) := by decide +kernel
theorem dX12_goes_37 : decode cX12_goes 37 = .ok (.iadd, 1) := by decide +kernel
theorem dX12_goes_38 : decode cX12_goes 38 = .ok (.iaload, 1) := by decide +kernel
theorem dX12_goes_39 : decode cX12_goes 39 = .ok (.iastore, 1) := by decide +kernel
theorem dX12_goes_40 : decode cX12_goes 40 = .ok (.iinc 2 1, 3) := by decide +kernel
theorem dX12_goes_43 : decode cX12_goes 43 = .ok (.goto (-31), 3) := by decide +kernel
theorem dX12_goes_46 : decode cX12_goes 46 = .ok (.return_, 1) := by decide +kernel
theorem dX12_user_0 : decode cX12_user 0 = .ok (.aload_n 0, 1) := by decide +kernel
theorem dX12_user_1 : decode cX12_user 1 = .ok (.iload_n 1, 1) := by decide +kernel
theorem dX12_user_2 : decode cX12_user 2 = .ok (.invokevirtual 341, 3) := by decide +kernel
theorem dX12_user_5 : decode cX12_user 5 = .ok (.ifCond .ne 5, 3) := by decide +kernel
theorem dX12_user_8 : decode cX12_user 8 = .ok (.iconst (-1), 1) := by decide +kernel
theorem dX12_user_9 : decode cX12_user 9 = .ok (.ireturn, 1) := by decide +kernel
theorem dX12_user_10 : decode cX12_user 10 = .ok (.iload_n 2, 1) := by decide +kernel
theorem dX12_user_11 : decode cX12_user 11 = .ok (.tableswitch 225 0 14 #[73, 80, 87, 94, 101, 108, 115, 122, 129, 136, 143, 173, 180, 187, 208], 73) := by decide +kernel
theorem dX12_user_84 : decode cX12_user 84 = .ok (.aload_n 0, 1) := by decide +kernel
theorem dX12_user_85 : decode cX12_user 85 = .ok (.getfield 278, 3) := by decide +kernel
theorem dX12_user_88 : decode cX12_user 88 = .ok (.iload_n 1, 1) := by decide +kernel
theorem dX12_user_89 : decode cX12_user 89 = .ok (.iaload, 1) := by decide +kernel
theorem dX12_user_90 : decode cX12_user 90 = .ok (.ireturn, 1) := by decide +kernel
theorem dX12_user_91 : decode cX12_user 91 = .ok (.aload_n 0, 1) := by decide +kernel
theorem dX12_user_92 : decode cX12_user 92 = .ok (.getfield 287, 3) := by decide +kernel
theorem dX12_user_95 : decode cX12_user 95 = .ok (.iload_n 1, 1) := by decide +kernel
theorem dX12_user_96 : decode cX12_user 96 = .ok (.iaload, 1) := by decide +kernel
theorem dX12_user_97 : decode cX12_user 97 = .ok (.ireturn, 1) := by decide +kernel
theorem dX12_user_98 : decode cX12_user 98 = .ok (.aload_n 0, 1) := by decide +kernel
theorem dX12_user_99 : decode cX12_user 99 = .ok (.getfield 281, 3) := by decide +kernel
theorem dX12_user_102 : decode cX12_user 102 = .ok (.iload_n 1, 1) := by decide +kernel
theorem dX12_user_103 : decode cX12_user 103 = .ok (.iaload, 1) := by decide +kernel
theorem dX12_user_104 : decode cX12_user 104 = .ok (.ireturn, 1) := by decide +kernel
theorem dX12_user_105 : decode cX12_user 105 = .ok (.aload_n 0, 1) := by decide +kernel
theorem dX12_user_106 : decode cX12_user 106 = .ok (.getfield 290, 3) := by decide +kernel
theorem dX12_user_109 : decode cX12_user 109 = .ok (.iload_n 1, 1) := by decide +kernel
theorem dX12_user_110 : decode cX12_user 110 = .ok (.iaload, 1) := by decide +kernel
theorem dX12_user_111 : decode cX12_user 111 = .ok (.ireturn, 1) := by decide +kernel
theorem dX12_user_112 : decode cX12_user 112 = .ok (.aload_n 0, 1) := by decide +kernel
theorem dX12_user_113 : decode cX12_user 113 = .ok (.getfield 284, 3) := by decide +kernel
theorem dX12_user_116 : decode cX12_user 116 = .ok (.iload_n 1, 1) := by decide +kernel
theorem dX12_user_117 : decode cX12_user 117 = .ok (.iaload, 1) := by decide +kernel
theorem dX12_user_118 : decode cX12_user 118 = .ok (.ireturn, 1) := by decide +kernel
theorem dX12_user_119 : decode cX12_user 119 = .ok (.aload_n 0, 1) := by decide +kernel
theorem dX12_user_120 : decode cX12_user 120 = .ok (.getfield 296, 3) := by decide +kernel
theorem dX12_user_123 : decode cX12_user 123 = .ok (.iload_n 1, 1) := by decide +kernel
theorem dX12_user_124 : decode cX12_user 124 = .ok (.iaload, 1) := by decide +kernel
theorem dX12_user_125 : decode cX12_user 125 = .ok (.ireturn, 1) := by decide +kernel
theorem dX12_user_126 : decode cX12_user 126 = .ok (.aload_n 0, 1) := by decide +kernel
theorem dX12_user_127 : decode cX12_user 127 = .ok (.getfield 302, 3) := by decide +kernel
theorem dX12_user_130 : decode cX12_user 130 = .ok (.iload_n 1, 1) := by decide +kernel
theorem dX12_user_131 : decode cX12_user 131 = .ok (.iaload, 1) := by decide +kernel
theorem dX12_user_132 : decode cX12_user 132 = .ok (.ireturn, 1) := by decide +kernel
theorem dX12_user_133 : decode cX12_user 133 = .ok (.aload_n 0, 1) := by decide +kernel
theorem dX12_user_134 : decode cX12_user 134 = .ok (.getfield 311, 3) := by decide +kernel
theorem dX12_user_137 : decode cX12_user 137 = .ok (.iload_n 1, 1) := by decide +kernel
theorem dX12_user_138 : decode cX12_user 138 = .ok (.iaload, 1) := by decide +kernel
