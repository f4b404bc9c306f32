theorem dX12_moves_64 : decode cX12_moves 64 = .ok (.aload_n 0, 1) := by decide +kernel
theorem dX12_moves_65 : decode cX12_moves 65 = .ok (.getfield 257, 3) := by decide +kernel
theorem dX12_moves_68 : decode cX12_moves 68 = .ok (.aload_n 0, 1) := by decide +kernel
theorem dX12_moves_69 : decode cX12_moves 69 = .ok (.getfield 396, 3) := by decide +kernel
theorem dX12_moves_72 : decode cX12_moves 72 = .ok (.aaload, 1) := by decide +kernel
theorem dX12_moves_73 : decode cX12_moves 73 = .ok (.aload_n 0, 1) := by decide +kernel
theorem dX12_moves_74 : decode cX12_moves 74 = .ok (.getfield 393, 3) := by decide +kernel
theorem dX12_moves_77 : decode cX12_moves 77 = .ok (.iaload, 1) := by decide +kernel
theorem dX12_moves_78 : decode cX12_moves 78 = .ok (.iastore, 1) := by decide +kernel
theorem dX12_moves_79 : decode cX12_moves 79 = .ok (.goto 80, 3) := by decide +kernel
theorem dX12_moves_82 : decode cX12_moves 82 = .ok (.aload_n 0, 1) := by decide +kernel
theorem dX12_moves_83 : decode cX12_moves 83 = .ok (.getfield 344, 3) := by decide +kernel
theorem dX12_moves_86 : decode cX12_moves 86 = .ok (.iconst 2, 1) := by decide +kernel
theorem dX12_moves_87 : decode cX12_moves 87 = .ok (.if_icmp .ne 31, 3) := by decide +kernel
theorem dX12_moves_90 : decode cX12_moves 90 = .ok (.aload_n 0, 1) := by decide +kernel
theorem dX12_moves_91 : decode cX12_moves 91 = .ok (.getfield 257, 3) := by decide +kernel
theorem dX12_moves_94 : decode cX12_moves 94 = .ok (.aload_n 0, 1) := by decide +kernel
theorem dX12_moves_95 : decode cX12_moves 95 = .ok (.getfield 396, 3) := by decide +kernel
theorem dX12_moves_98 : decode cX12_moves 98 = .ok (.aaload, 1) := by decide +kernel
theorem dX12_moves_99 : decode cX12_moves 99 = .ok (.aload_n 0, 1) := by decide +kernel
theorem dX12_moves_100 : decode cX12_moves 100 = .ok (.getfield 393, 3) := by decide +kernel
theorem dX12_moves_103 : decode cX12_moves 103 = .ok (.aload_n 0, 1) := by decide +kernel
theorem dX12_moves_104 : decode cX12_moves 104 = .ok (.getfield 260, 3) := by decide +kernel
theorem dX12_moves_107 : decode cX12_moves 107 = .ok (.iload_n 1, 1) := by decide +kernel
theorem dX12_moves_108 : decode cX12_moves 108 = .ok (.aaload, 1) := by decide +kernel
theorem dX12_moves_109 : decode cX12_moves 109 = .ok (.aload_n 0, 1) := by decide +kernel
theorem dX12_moves_110 : decode cX12_moves 110 = .ok (.getfield 393, 3) := by decide +kernel
theorem dX12_moves_113 : decode cX12_moves 113 = .ok (.iaload, 1) := by decide +kernel
theorem dX12_moves_114 : decode cX12_moves 114 = .ok (.iastore, 1) := by decide +kernel
theorem dX12_moves_115 : decode cX12_moves 115 = .ok (.goto 44, 3) := by decide +kernel
theorem dX12_moves_118 : decode cX12_moves 118 = .ok (.aload_n 0, 1) := by decide +kernel
theorem dX12_moves_119 : decode cX12_moves 119 = .ok (.getfield 344, 3) := by decide +kernel
theorem dX12_moves_122 : decode cX12_moves 122 = .ok (.iconst 3, 1) := by decide +kernel
theorem dX12_moves_123 : decode cX12_moves 123 = .ok (.if_icmp .ne 21, 3) := by decide +kernel
theorem dX12_moves_126 : decode cX12_moves 126 = .ok (.aload_n 0, 1) := by decide +kernel
theorem dX12_moves_127 : decode cX12_moves 127 = .ok (.iload_n 1, 1) := by decide +kernel
theorem dX12_moves_128 : decode cX12_moves 128 = .ok (.iload_n 3, 1) := by decide +kernel
theorem dX12_moves_129 : decode cX12_moves 129 = .ok (.aload_n 0, 1) := by decide +kernel
theorem dX12_moves_130 : decode cX12_moves 130 = .ok (.getfield 263, 3) := by decide +kernel
theorem dX12_moves_133 : decode cX12_moves 133 = .ok (.iload_n 1, 1) := by decide +kernel
theorem dX12_moves_134 : decode cX12_moves 134 = .ok (.aaload, 1) := by decide +kernel
theorem dX12_moves_135 : decode cX12_moves 135 = .ok (.iload 4, 2) := by decide +kernel
theorem dX12_moves_137 : decode cX12_moves 137 = .ok (.iaload, 1) := by decide +kernel
theorem dX12_moves_138 : decode cX12_moves 138 = .ok (.invokevirtual 368, 3) := by decide +kernel
theorem dX12_moves_141 : decode cX12_moves 141 = .ok (.goto 18, 3) := by decide +kernel
theorem dX12_moves_144 : decode cX12_moves 144 = .ok (.aload_n 0, 1) := by decide +kernel
theorem dX12_moves_145 : decode cX12_moves 145 = .ok (.getfield 263, 3) := by decide +kernel
theorem dX12_moves_148 : decode cX12_moves 148 = .ok (.iload_n 1, 1) := by decide +kernel
theorem dX12_moves_149 : decode cX12_moves 149 = .ok (.aaload, 1) := by decide +kernel
theorem dX12_moves_150 : decode cX12_moves 150 = .ok (.iload 4, 2) := by decide +kernel
theorem dX12_moves_152 : decode cX12_moves 152 = .ok (.aload_n 0, 1) := by decide +kernel
theorem dX12_moves_153 : decode cX12_moves 153 = .ok (.iload_n 1, 1) := by decide +kernel
theorem dX12_moves_154 : decode cX12_moves 154 = .ok (.iload_n 3, 1) := by decide +kernel
theorem dX12_moves_155 : decode cX12_moves 155 = .ok (.invokevirtual 399, 3) := by decide +kernel
theorem dX12_moves_158 : decode cX12_moves 158 = .ok (.iastore, 1) := by decide +kernel
theorem dX12_moves_159 : decode cX12_moves 159 = .ok (.aload_n 0, 1) := by decide +kernel
theorem dX12_moves_160 : decode cX12_moves 160 = .ok (.dup, 1) := by decide +kernel
theorem dX12_moves_161 : decode cX12_moves 161 = .ok (.getfield 393, 3) := by decide +kernel
theorem dX12_moves_164 : decode cX12_moves 164 = .ok (.iconst 1, 1) := by decide +kernel
theorem dX12_moves_165 : decode cX12_moves 165 = .ok (.iadd, 1) := by decide +kernel
theorem dX12_moves_166 : decode cX12_moves 166 = .ok (.putfield 393, 3) := by decide +kernel
theorem dX12_moves_169 : decode cX12_moves 169 = .ok (.iinc 2 1, 3) := by decide +kernel
theorem dX12_moves_172 : decode cX12_moves 172 = .ok (.goto (-165), 3) := by decide +kernel
theorem dX12_moves_175 : decode cX12_moves 175 = .ok (.aload_n 0, 1) := by decide +kernel
theorem dX12_moves_176 : decode cX12_moves 176 = .ok (.getfield 393, 3) := by decide +kernel
theorem dX12_moves_179 : decode cX12_moves 179 = .ok (.aload_n 0, 1) := by decide +kernel
theorem dX12_moves_180 : decode cX12_moves 180 = .ok (.getfield 344, 3) := by decide +kernel
theorem dX12_moves_183 : decode cX12_moves 183 = .ok (.iconst 3, 1) := by decide +kernel
theorem dX12_moves_184 : decode cX12_moves 184 = .ok (.if_icmp .ge 9, 3) := by decide +kernel
theorem dX12_moves_187 : decode cX12_moves 187 = .ok (.sipush 4096, 3) := by decide +kernel
theorem dX12_moves_190 : decode cX12_moves 190 = .ok (.goto 6, 3) := by decide +kernel
theorem dX12_moves_193 : decode cX12_moves 193 = .ok (.sipush 128, 3) := by decide +kernel
theorem dX12_moves_196 : decode cX12_moves 196 = .ok (.if_icmp .ne 8, 3) := by decide +kernel
theorem dX12_moves_199 : decode cX12_moves 199 = .ok (.aload_n 0, 1) := by decide +kernel
theorem dX12_moves_200 : decode cX12_moves 200 = .ok (.iload_n 1, 1) := by decide +kernel
theorem dX12_moves_201 : decode cX12_moves 201 = .ok (.invokevirtual 402, 3) := by decide +kernel
theorem dX12_moves_204 : decode cX12_moves 204 = .ok (.return_, 1) := by decide +kernel
theorem dX12_ends_0 : decode cX12_ends 0 = .ok (.aload_n 0, 1) := by decide +kernel
theorem dX12_ends_1 : decode cX12_ends 1 = .ok (.getfield 344, 3) := by decide +kernel
theorem dX12_ends_4 : decode cX12_ends 4 = .ok (.iconst 1, 1) := by decide +kernel
theorem dX12_ends_5 : decode cX12_ends 5 = .ok (.if_icmp .ne 24, 3) := by decide +kernel
theorem dX12_ends_8 : decode cX12_ends 8 = .ok (.aload_n 0, 1) := by decide +kernel
theorem dX12_ends_9 : decode cX12_ends 9 = .ok (.aload_n 0, 1) := by decide +kernel
theorem dX12_ends_10 : decode cX12_ends 10 = .ok (.getfield 396, 3) := by decide +kernel
theorem dX12_ends_13 : decode cX12_ends 13 = .ok (.invokevirtual 356, 3) := by decide +kernel
theorem dX12_ends_16 : decode cX12_ends 16 = .ok (.aload_n 0, 1) := by decide +kernel
theorem dX12_ends_17 : decode cX12_ends 17 = .ok (.dup, 1) := by decide +kernel
theorem dX12_ends_18 : decode cX12_ends 18 = .ok (.getfield 405, 3) := by decide +kernel
theorem dX12_ends_21 : decode cX12_ends 21 = .ok (.iconst 1, 1) := by decide +kernel
theorem dX12_ends_22 : decode cX12_ends 22 = .ok (.iadd, 1) := by decide +kernel
theorem dX12_ends_23 : decode cX12_ends 23 = .ok (.putfield 405, 3) := by decide +kernel
theorem dX12_ends_26 : decode cX12_ends 26 = .ok (.goto 118, 3) := by decide +kernel
theorem dX12_ends_29 : decode cX12_ends 29 = .ok (.aload_n 0, 1) := by decide +kernel
theorem dX12_ends_30 : decode cX12_ends 30 = .ok (.getfield 344, 3) := by decide +kernel
theorem dX12_ends_33 : decode cX12_ends 33 = .ok (.iconst 2, 1) := by decide +kernel
theorem dX12_ends_34 : decode cX12_ends 34 = .ok (.if_icmp .ne 56, 3) := by decide +kernel
theorem dX12_ends_37 : decode cX12_ends 37 = .ok (.aload_n 0, 1) := by decide +kernel
theorem dX12_ends_38 : decode cX12_ends 38 = .ok (.getfield 275, 3) := by decide +kernel
theorem dX12_ends_41 : decode cX12_ends 41 = .ok (.iload_n 1, 1) := by decide +kernel
theorem dX12_ends_42 : decode cX12_ends 42 = .ok (.aload_n 0, 1) := by decide +kernel
theorem dX12_ends_43 : decode cX12_ends 43 = .ok (.getfield 396, 3) := by decide +kernel
theorem dX12_ends_46 : decode cX12_ends 46 = .ok (.iastore, 1) := by decide +kernel
theorem dX12_ends_47 : decode cX12_ends 47 = .ok (.aload_n 0, 1) := by decide +kernel
theorem dX12_ends_48 : decode cX12_ends 48 = .ok (.getfield 266, 3) := by decide +kernel
theorem dX12_ends_51 : decode cX12_ends 51 = .ok (.aload_n 0, 1) := by decide +kernel
theorem dX12_ends_52 : decode cX12_ends 52 = .ok (.getfield 396, 3) := by decide +kernel
theorem dX12_ends_55 : decode cX12_ends 55 = .ok (.iload_n 1, 1) := by decide +kernel
theorem dX12_ends_56 : decode cX12_ends 56 = .ok (.iastore, 1) := by decide +kernel
theorem dX12_ends_57 : decode cX12_ends 57 = .ok (.aload_n 0, 1) := by decide +kernel
theorem dX12_ends_58 : decode cX12_ends 58 = .ok (.getfield 269, 3) := by decide +kernel
theorem dX12_ends_61 : decode cX12_ends 61 = .ok (.aload_n 0, 1) := by decide +kernel
theorem dX12_ends_62 : decode cX12_ends 62 = .ok (.getfield 396, 3) := by decide +kernel
theorem dX12_ends_65 : decode cX12_ends 65 = .ok (.iconst 0, 1) := by decide +kernel
theorem dX12_ends_66 : decode cX12_ends 66 = .ok (.bastore, 1) := by decide +kernel
theorem dX12_ends_67 : decode cX12_ends 67 = .ok (.aload_n 0, 1) := by decide +kernel
theorem dX12_ends_68 : decode cX12_ends 68 = .ok (.getfield 272, 3) := by decide +kernel
theorem dX12_ends_71 : decode cX12_ends 71 = .ok (.aload_n 0, 1) := by decide +kernel
theorem dX12_ends_72 : decode cX12_ends 72 = .ok (.getfield 396, 3) := by decide +kernel
theorem dX12_ends_75 : decode cX12_ends 75 = .ok (.iconst 0, 1) := by decide +kernel
theorem dX12_ends_76 : decode cX12_ends 76 = .ok (.bastore, 1) := by decide +kernel
theorem dX12_ends_77 : decode cX12_ends 77 = .ok (.aload_n 0, 1) := by decide +kernel
theorem dX12_ends_78 : decode cX12_ends 78 = .ok (.dup, 1) := by decide +kernel
theorem dX12_ends_79 : decode cX12_ends 79 = .ok (.getfield 408, 3) := by decide +kernel
theorem dX12_ends_82 : decode cX12_ends 82 = .ok (.iconst 1, 1) := by decide +kernel
theorem dX12_ends_83 : decode cX12_ends 83 = .ok (.iadd, 1) := by decide +kernel
theorem dX12_ends_84 : decode cX12_ends 84 = .ok (.putfield 408, 3) := by decide +kernel
theorem dX12_ends_87 : decode cX12_ends 87 = .ok (.goto 57, 3) := by decide +kernel
theorem dX12_ends_90 : decode cX12_ends 90 = .ok (.aload_n 0, 1) := by decide +kernel
theorem dX12_ends_91 : decode cX12_ends 91 = .ok (.getfield 281, 3) := by decide +kernel
theorem dX12_ends_94 : decode cX12_ends 94 = .ok (.iload_n 1, 1) := by decide +kernel
theorem dX12_ends_95 : decode cX12_ends 95 = .ok (.iconst 0, 1) := by decide +kernel
theorem dX12_ends_96 : decode cX12_ends 96 = .ok (.iastore, 1) := by decide +kernel
theorem dX12_ends_97 : decode cX12_ends 97 = .ok (.aload_n 0, 1) := by decide +kernel
theorem dX12_ends_98 : decode cX12_ends 98 = .ok (.getfield 296, 3) := by decide +kernel
theorem dX12_ends_101 : decode cX12_ends 101 = .ok (.iload_n 1, 1) := by decide +kernel
theorem dX12_ends_102 : decode cX12_ends 102 = .ok (.dup2, 1) := by decide +kernel
theorem dX12_ends_103 : decode cX12_ends 103 = .ok (.iaload, 1) := by decide +kernel
theorem dX12_ends_104 : decode cX12_ends 104 = .ok (.iconst 1, 1) := by decide +kernel
theorem dX12_ends_105 : decode cX12_ends 105 = .ok (.iadd, 1) := by decide +kernel
theorem dX12_ends_106 : decode cX12_ends 106 = .ok (.iastore, 1) := by decide +kernel
theorem dX12_ends_107 : decode cX12_ends 107 = .ok (.aload_n 0, 1) := by decide +kernel
theorem dX12_ends_108 : decode cX12_ends 108 = .ok (.dup, 1) := by decide +kernel
theorem dX12_ends_109 : decode cX12_ends 109 = .ok (.getfield 372, 3) := by decide +kernel
theorem dX12_ends_112 : decode cX12_ends 112 = .ok (.iconst 1, 1) := by decide +kernel
theorem dX12_ends_113 : decode cX12_ends 113 = .ok (.iadd, 1) := by decide +kernel
theorem dX12_ends_114 : decode cX12_ends 114 = .ok (.putfield 372, 3) := by decide +kernel
theorem dX12_ends_117 : decode cX12_ends 117 = .ok (.aload_n 0, 1) := by decide +kernel
theorem dX12_ends_118 : decode cX12_ends 118 = .ok (.dup, 1) := by decide +kernel
theorem dX12_ends_119 : decode cX12_ends 119 = .ok (.getfield 411, 3) := by decide +kernel
theorem dX12_ends_122 : decode cX12_ends 122 = .ok (.iconst 1, 1) := by decide +kernel
theorem dX12_ends_123 : decode cX12_ends 123 = .ok (.iadd, 1) := by decide +kernel
theorem dX12_ends_124 : decode cX12_ends 124 = .ok (.putfield 411, 3) := by decide +kernel
theorem dX12_ends_127 : decode cX12_ends 127 = .ok (.aload_n 0, 1) := by decide +kernel
theorem dX12_ends_128 : decode cX12_ends 128 = .ok (.getfield 272, 3) := by decide +kernel
theorem dX12_ends_131 : decode cX12_ends 131 = .ok (.aload_n 0, 1) := by decide +kernel
theorem dX12_ends_132 : decode cX12_ends 132 = .ok (.getfield 275, 3) := by decide +kernel
theorem dX12_ends_135 : decode cX12_ends 135 = .ok (.iload_n 1, 1) := by decide +kernel
theorem dX12_ends_136 : decode cX12_ends 136 = .ok (.iaload, 1) := by decide +kernel
theorem dX12_ends_137 : decode cX12_ends 137 = .ok (.iconst 1, 1) := by decide +kernel
theorem dX12_ends_138 : decode cX12_ends 138 = .ok (.bastore, 1) := by decide +kernel
theorem dX12_ends_139 : decode cX12_ends 139 = .ok (.aload_n 0, 1) := by decide +kernel
theorem dX12_ends_140 : decode cX12_ends 140 = .ok (.iload_n 1, 1) := by decide +kernel
theorem dX12_ends_141 : decode cX12_ends 141 = .ok (.invokevirtual 362, 3) := by decide +kernel
theorem dX12_ends_144 : decode cX12_ends 144 = .ok (.aload_n 0, 1) := by decide +kernel
theorem dX12_ends_145 : decode cX12_ends 145 = .ok (.aload_n 0, 1) := by decide +kernel
theorem dX12_ends_146 : decode cX12_ends 146 = .ok (.getfield 344, 3) := by decide +kernel
theorem dX12_ends_149 : decode cX12_ends 149 = .ok (.iconst 2, 1) := by decide +kernel
theorem dX12_ends_150 : decode cX12_ends 150 = .ok (.if_icmp .le 7, 3) := by decide +kernel
theorem dX12_ends_153 : decode cX12_ends 153 = .ok (.iconst 1, 1) := by decide +kernel
theorem dX12_ends_154 : decode cX12_ends 154 = .ok (.goto 4, 3) := by decide +kernel
theorem dX12_ends_157 : decode cX12_ends 157 = .ok (.iconst 0, 1) := by decide +kernel
theorem dX12_ends_158 : decode cX12_ends 158 = .ok (.putfield 414, 3) := by decide +kernel
theorem dX12_ends_161 : decode cX12_ends 161 = .ok (.aload_n 0, 1) := by decide +kernel
theorem dX12_ends_162 : decode cX12_ends 162 = .ok (.iconst 0, 1) := by decide +kernel
theorem dX12_ends_163 : decode cX12_ends 163 = .ok (.putfield 344, 3) := by decide +kernel
theorem dX12_ends_166 : decode cX12_ends 166 = .ok (.return_, 1) := by decide +kernel
theorem dX12_starts_0 : decode cX12_starts 0 = .ok (.aload_n 0, 1) := by decide +kernel
theorem dX12_starts_1 : decode cX12_starts 1 = .ok (.iload_n 1, 1) := by decide +kernel
theorem dX12_starts_2 : decode cX12_starts 2 = .ok (.putfield 344, 3) := by decide +kernel
theorem dX12_starts_5 : decode cX12_starts 5 = .ok (.aload_n 0, 1) := by decide +kernel
theorem dX12_starts_6 : decode cX12_starts 6 = .ok (.iload_n 2, 1) := by decide +kernel
theorem dX12_starts_7 : decode cX12_starts 7 = .ok (.putfield 347, 3) := by decide +kernel
theorem dX12_starts_10 : decode cX12_starts 10 = .ok (.aload_n 0, 1) := by decide +kernel
theorem dX12_starts_11 : decode cX12_starts 11 = .ok (.iload_n 3, 1) := by decide +kernel
theorem dX12_starts_12 : decode cX12_starts 12 = .ok (.putfield 396, 3) := by decide +kernel
theorem dX12_starts_15 : decode cX12_starts 15 = .ok (.aload_n 0, 1) := by decide +kernel
theorem dX12_starts_16 : decode cX12_starts 16 = .ok (.iconst 0, 1) := by decide +kernel
theorem dX12_starts_17 : decode cX12_starts 17 = .ok (.putfield 393, 3) := by decide +kernel
theorem dX12_starts_20 : decode cX12_starts 20 = .ok (.return_, 1) := by decide +kernel
theorem dX12_looksFor_0 : decode cX12_looksFor 0 = .ok (.aload_n 0, 1) := by decide +kernel
theorem dX12_looksFor_1 : decode cX12_looksFor 1 = .ok (.getfield 414, 3) := by decide +kernel
theorem dX12_looksFor_4 : decode cX12_looksFor 4 = .ok (.ifCond .eq 18, 3) := by decide +kernel
theorem dX12_looksFor_7 : decode cX12_looksFor 7 = .ok (.aload_n 0, 1) := by decide +kernel
theorem dX12_looksFor_8 : decode cX12_looksFor 8 = .ok (.invokevirtual 417, 3) := by decide +kernel
theorem dX12_looksFor_11 : decode cX12_looksFor 11 = .ok (.ifCond .ne 23, 3) := by decide +kernel
theorem dX12_looksFor_14 : decode cX12_looksFor 14 = .ok (.aload_n 0, 1) := by decide +kernel
theorem dX12_looksFor_15 : decode cX12_looksFor 15 = .ok (.invokevirtual 420, 3) := by decide +kernel
theorem dX12_looksFor_18 : decode cX12_looksFor 18 = .ok (.pop, 1) := by decide +kernel
theorem dX12_looksFor_19 : decode cX12_looksFor 19 = .ok (.goto 15, 3) := by decide +kernel
theorem dX12_looksFor_22 : decode cX12_looksFor 22 = .ok (.aload_n 0, 1) := by decide +kernel
theorem dX12_looksFor_23 : decode cX12_looksFor 23 = .ok (.invokevirtual 420, 3) := by decide +kernel
theorem dX12_looksFor_26 : decode cX12_looksFor 26 = .ok (.ifCond .ne 8, 3) := by decide +kernel
theorem dX12_looksFor_29 : decode cX12_looksFor 29 = .ok (.aload_n 0, 1) := by decide +kernel
theorem dX12_looksFor_30 : decode cX12_looksFor 30 = .ok (.invokevirtual 417, 3) := by decide +kernel
theorem dX12_looksFor_33 : decode cX12_looksFor 33 = .ok (.pop, 1) := by decide +kernel
theorem dX12_looksFor_34 : decode cX12_looksFor 34 = .ok (.return_, 1) := by decide +kernel
theorem dX12_blocksTask_0 : decode cX12_blocksTask 0 = .ok (.iconst (-1), 1) := by decide +kernel
theorem dX12_blocksTask_1 : decode cX12_blocksTask 1 = .ok (.istore_n 1, 1) := by decide +kernel
theorem dX12_blocksTask_2 : decode cX12_blocksTask 2 = .ok (.iconst 0, 1) := by decide +kernel
theorem dX12_blocksTask_3 : decode cX12_blocksTask 3 = .ok (.istore_n 2, 1) := by decide +kernel
theorem dX12_blocksTask_4 : decode cX12_blocksTask 4 = .ok (.iload_n 2, 1) := by decide +kernel
theorem dX12_blocksTask_5 : decode cX12_blocksTask 5 = .ok (.aload_n 0, 1) := by decide +kernel
theorem dX12_blocksTask_6 : decode cX12_blocksTask 6 = .ok (.getfield 243, 3) := by decide +kernel
theorem dX12_blocksTask_9 : decode cX12_blocksTask 9 = .ok (.if_icmp .ge 41, 3) := by decide +kernel
theorem dX12_blocksTask_12 : decode cX12_blocksTask 12 = .ok (.aload_n 0, 1) := by decide +kernel
theorem dX12_blocksTask_13 : decode cX12_blocksTask 13 = .ok (.getfield 278, 3) := by decide +kernel
theorem dX12_blocksTask_16 : decode cX12_blocksTask 16 = .ok (.iload_n 2, 1) := by decide +kernel
theorem dX12_blocksTask_17 : decode cX12_blocksTask 17 = .ok (.iaload, 1) := by decide +kernel
theorem dX12_blocksTask_18 : decode cX12_blocksTask 18 = .ok (.iconst 5, 1) := by decide +kernel
theorem dX12_blocksTask_19 : decode cX12_blocksTask 19 = .ok (.if_icmp .ne 25, 3) := by decide +kernel
theorem dX12_blocksTask_22 : decode cX12_blocksTask 22 = .ok (.iload_n 1, 1) := by decide +kernel
theorem dX12_blocksTask_23 : decode cX12_blocksTask 23 = .ok (.iconst (-1), 1) := by decide +kernel
theorem dX12_blocksTask_24 : decode cX12_blocksTask 24 = .ok (.if_icmp .eq 18, 3) := by decide +kernel
theorem dX12_blocksTask_27 : decode cX12_blocksTask 27 = .ok (.aload_n 0, 1) := by decide +kernel
theorem dX12_blocksTask_28 : decode cX12_blocksTask 28 = .ok (.getfield 326, 3) := by decide +kernel
theorem dX12_blocksTask_31 : decode cX12_blocksTask 31 = .ok (.iload_n 2, 1) := by decide +kernel
theorem dX12_blocksTask_32 : decode cX12_blocksTask 32 = .ok (.iaload, 1) := by decide +kernel
theorem dX12_blocksTask_33 : decode cX12_blocksTask 33 = .ok (.aload_n 0, 1) := by decide +kernel
theorem dX12_blocksTask_34 : decode cX12_blocksTask 34 = .ok (.getfield 326, 3) := by decide +kernel
theorem dX12_blocksTask_37 : decode cX12_blocksTask 37 = .ok (.iload_n 1, 1) := by decide +kernel
theorem dX12_blocksTask_38 : decode cX12_blocksTask 38 = .ok (.iaload, 1) := by decide +kernel
theorem dX12_blocksTask_39 : decode cX12_blocksTask 39 = .ok (.if_icmp .ge 5, 3) := by decide +kernel
theorem dX12_blocksTask_42 : decode cX12_blocksTask 42 = .ok (.iload_n 2, 1) := by decide +kernel
theorem dX12_blocksTask_43 : decode cX12_blocksTask 43 = .ok (.istore_n 1, 1) := by decide +kernel
theorem dX12_blocksTask_44 : decode cX12_blocksTask 44 = .ok (.iinc 2 1, 3) := by decide +kernel
theorem dX12_blocksTask_47 : decode cX12_blocksTask 47 = .ok (.goto (-43), 3) := by decide +kernel
theorem dX12_blocksTask_50 : decode cX12_blocksTask 50 = .ok (.iload_n 1, 1) := by decide +kernel
theorem dX12_blocksTask_51 : decode cX12_blocksTask 51 = .ok (.iconst (-1), 1) := by decide +kernel
theorem dX12_blocksTask_52 : decode cX12_blocksTask 52 = .ok (.if_icmp .eq 28, 3) := by decide +kernel
theorem dX12_blocksTask_55 : decode cX12_blocksTask 55 = .ok (.aload_n 0, 1) := by decide +kernel
theorem dX12_blocksTask_56 : decode cX12_blocksTask 56 = .ok (.aload_n 0, 1) := by decide +kernel
theorem dX12_blocksTask_57 : decode cX12_blocksTask 57 = .ok (.getfield 335, 3) := by decide +kernel
theorem dX12_blocksTask_60 : decode cX12_blocksTask 60 = .ok (.iload_n 1, 1) := by decide +kernel
theorem dX12_blocksTask_61 : decode cX12_blocksTask 61 = .ok (.baload, 1) := by decide +kernel
theorem dX12_blocksTask_62 : decode cX12_blocksTask 62 = .ok (.ifCond .eq 7, 3) := by decide +kernel
theorem dX12_blocksTask_65 : decode cX12_blocksTask 65 = .ok (.iconst 4, 1) := by decide +kernel
theorem dX12_blocksTask_66 : decode cX12_blocksTask 66 = .ok (.goto 4, 3) := by decide +kernel
theorem dX12_blocksTask_69 : decode cX12_blocksTask 69 = .ok (.iconst 3, 1) := by decide +kernel
theorem dX12_blocksTask_70 : decode cX12_blocksTask 70 = .ok (.iload_n 1, 1) := by decide +kernel
theorem dX12_blocksTask_71 : decode cX12_blocksTask 71 = .ok (.aload_n 0, 1) := by decide +kernel
theorem dX12_blocksTask_72 : decode cX12_blocksTask 72 = .ok (.getfield 275, 3) := by decide +kernel
theorem dX12_blocksTask_75 : decode cX12_blocksTask 75 = .ok (.iload_n 1, 1) := by decide +kernel
theorem dX12_blocksTask_76 : decode cX12_blocksTask 76 = .ok (.iaload, 1) := by decide +kernel
theorem dX12_blocksTask_77 : decode cX12_blocksTask 77 = .ok (.invokevirtual 423, 3) := by decide +kernel
theorem dX12_blocksTask_80 : decode cX12_blocksTask 80 = .ok (.iload_n 1, 1) := by decide +kernel
theorem dX12_blocksTask_81 : decode cX12_blocksTask 81 = .ok (.iconst (-1), 1) := by decide +kernel
theorem dX12_blocksTask_82 : decode cX12_blocksTask 82 = .ok (.if_icmp .eq 7, 3) := by decide +kernel
theorem dX12_blocksTask_85 : decode cX12_blocksTask 85 = .ok (.iconst 1, 1) := by decide +kernel
theorem dX12_blocksTask_86 : decode cX12_blocksTask 86 = .ok (.goto 4, 3) := by decide +kernel
theorem dX12_blocksTask_89 : decode cX12_blocksTask 89 = .ok (.iconst 0, 1) := by decide +kernel
theorem dX12_blocksTask_90 : decode cX12_blocksTask 90 = .ok (.ireturn, 1) := by decide +kernel
theorem dX12_queuesTask_0 : decode cX12_queuesTask 0 = .ok (.iconst (-1), 1) := by decide +kernel
theorem dX12_queuesTask_1 : decode cX12_queuesTask 1 = .ok (.istore_n 1, 1) := by decide +kernel
theorem dX12_queuesTask_2 : decode cX12_queuesTask 2 = .ok (.aload_n 0, 1) := by decide +kernel
theorem dX12_queuesTask_3 : decode cX12_queuesTask 3 = .ok (.getfield 338, 3) := by decide +kernel
theorem dX12_queuesTask_6 : decode cX12_queuesTask 6 = .ok (.iconst 1, 1) := by decide +kernel
theorem dX12_queuesTask_7 : decode cX12_queuesTask 7 = .ok (.isub, 1) := by decide +kernel
theorem dX12_queuesTask_8 : decode cX12_queuesTask 8 = .ok (.istore_n 2, 1) := by decide +kernel
theorem dX12_queuesTask_9 : decode cX12_queuesTask 9 = .ok (.iload_n 2, 1) := by decide +kernel
theorem dX12_queuesTask_10 : decode cX12_queuesTask 10 = .ok (.ifCond .lt 31, 3) := by decide +kernel
theorem dX12_queuesTask_13 : decode cX12_queuesTask 13 = .ok (.aload_n 0, 1) := by decide +kernel
theorem dX12_queuesTask_14 : decode cX12_queuesTask 14 = .ok (.getfield 275, 3) := by decide +kernel
theorem dX12_queuesTask_17 : decode cX12_queuesTask 17 = .ok (.aload_n 0, 1) := by decide +kernel
theorem dX12_queuesTask_18 : decode cX12_queuesTask 18 = .ok (.getfield 234, 3) := by decide +kernel
theorem dX12_queuesTask_21 : decode cX12_queuesTask 21 = .ok (.iload_n 2, 1) := by decide +kernel
theorem dX12_queuesTask_22 : decode cX12_queuesTask 22 = .ok (.iaload, 1) := by decide +kernel
theorem dX12_queuesTask_23 : decode cX12_queuesTask 23 = .ok (.iaload, 1) := by decide +kernel
theorem dX12_queuesTask_24 : decode cX12_queuesTask 24 = .ok (.iconst (-1), 1) := by decide +kernel
theorem dX12_queuesTask_25 : decode cX12_queuesTask 25 = .ok (.if_icmp .ne 10, 3) := by decide +kernel
theorem dX12_queuesTask_28 : decode cX12_queuesTask 28 = .ok (.aload_n 0, 1) := by decide +kernel
theorem dX12_queuesTask_29 : decode cX12_queuesTask 29 = .ok (.getfield 234, 3) := by decide +kernel
theorem dX12_queuesTask_32 : decode cX12_queuesTask 32 = .ok (.iload_n 2, 1) := by decide +kernel
theorem dX12_queuesTask_33 : decode cX12_queuesTask 33 = .ok (.iaload, 1) := by decide +kernel
theorem dX12_queuesTask_34 : decode cX12_queuesTask 34 = .ok (.istore_n 1, 1) := by decide +kernel
theorem dX12_queuesTask_35 : decode cX12_queuesTask 35 = .ok (.iinc 2 (-1), 3) := by decide +kernel
theorem dX12_queuesTask_38 : decode cX12_queuesTask 38 = .ok (.goto (-29), 3) := by decide +kernel
theorem dX12_queuesTask_41 : decode cX12_queuesTask 41 = .ok (.iload_n 1, 1) := by decide +kernel
theorem dX12_queuesTask_42 : decode cX12_queuesTask 42 = .ok (.iconst (-1), 1) := by decide +kernel
theorem dX12_queuesTask_43 : decode cX12_queuesTask 43 = .ok (.if_icmp .ne 5, 3) := by decide +kernel
theorem dX12_queuesTask_46 : decode cX12_queuesTask 46 = .ok (.iconst 0, 1) := by decide +kernel
theorem dX12_queuesTask_47 : decode cX12_queuesTask 47 = .ok (.ireturn, 1) := by decide +kernel
theorem dX12_queuesTask_48 : decode cX12_queuesTask 48 = .ok (.iconst (-1), 1) := by decide +kernel
theorem dX12_queuesTask_49 : decode cX12_queuesTask 49 = .ok (.istore_n 2, 1) := by decide +kernel
theorem dX12_queuesTask_50 : decode cX12_queuesTask 50 = .ok (.aload_n 0, 1) := by decide +kernel
theorem dX12_queuesTask_51 : decode cX12_queuesTask 51 = .ok (.getfield 246, 3) := by decide +kernel
theorem dX12_queuesTask_54 : decode cX12_queuesTask 54 = .ok (.iconst 1, 1) := by decide +kernel
theorem dX12_queuesTask_55 : decode cX12_queuesTask 55 = .ok (.isub, 1) := by decide +kernel
theorem dX12_queuesTask_56 : decode cX12_queuesTask 56 = .ok (.istore_n 3, 1) := by decide +kernel
theorem dX12_queuesTask_57 : decode cX12_queuesTask 57 = .ok (.iload_n 3, 1) := by decide +kernel
theorem dX12_queuesTask_58 : decode cX12_queuesTask 58 = .ok (.ifCond .lt 21, 3) := by decide +kernel
theorem dX12_queuesTask_61 : decode cX12_queuesTask 61 = .ok (.aload_n 0, 1) := by decide +kernel
theorem dX12_queuesTask_62 : decode cX12_queuesTask 62 = .ok (.getfield 266, 3) := by decide +kernel
theorem dX12_queuesTask_65 : decode cX12_queuesTask 65 = .ok (.iload_n 3, 1) := by decide +kernel
theorem dX12_queuesTask_66 : decode cX12_queuesTask 66 = .ok (.iaload, 1) := by decide +kernel
theorem dX12_queuesTask_67 : decode cX12_queuesTask 67 = .ok (.iconst (-1), 1) := by decide +kernel
theorem dX12_queuesTask_68 : decode cX12_queuesTask 68 = .ok (.if_icmp .ne 5, 3) := by decide +kernel
theorem dX12_queuesTask_71 : decode cX12_queuesTask 71 = .ok (.iload_n 3, 1) := by decide +kernel
theorem dX12_queuesTask_72 : decode cX12_queuesTask 72 = .ok (.istore_n 2, 1) := by decide +kernel
theorem dX12_queuesTask_73 : decode cX12_queuesTask 73 = .ok (.iinc 3 (-1), 3) := by decide +kernel
theorem dX12_queuesTask_76 : decode cX12_queuesTask 76 = .ok (.goto (-19), 3) := by decide +kernel
theorem dX12_queuesTask_79 : decode cX12_queuesTask 79 = .ok (.iload_n 2, 1) := by decide +kernel
theorem dX12_queuesTask_80 : decode cX12_queuesTask 80 = .ok (.iconst (-1), 1) := by decide +kernel
theorem dX12_queuesTask_81 : decode cX12_queuesTask 81 = .ok (.if_icmp .ne 8, 3) := by decide +kernel
theorem dX12_queuesTask_84 : decode cX12_queuesTask 84 = .ok (.aload_n 0, 1) := by decide +kernel
theorem dX12_queuesTask_85 : decode cX12_queuesTask 85 = .ok (.invokevirtual 426, 3) := by decide +kernel
theorem dX12_queuesTask_88 : decode cX12_queuesTask 88 = .ok (.istore_n 2, 1) := by decide +kernel
theorem dX12_queuesTask_89 : decode cX12_queuesTask 89 = .ok (.iload_n 2, 1) := by decide +kernel
theorem dX12_queuesTask_90 : decode cX12_queuesTask 90 = .ok (.iconst (-1), 1) := by decide +kernel
theorem dX12_queuesTask_91 : decode cX12_queuesTask 91 = .ok (.if_icmp .ne 5, 3) := by decide +kernel
theorem dX12_queuesTask_94 : decode cX12_queuesTask 94 = .ok (.iconst 0, 1) := by decide +kernel
theorem dX12_queuesTask_95 : decode cX12_queuesTask 95 = .ok (.ireturn, 1) := by decide +kernel
theorem dX12_queuesTask_96 : decode cX12_queuesTask 96 = .ok (.aload_n 0, 1) := by decide +kernel
theorem dX12_queuesTask_97 : decode cX12_queuesTask 97 = .ok (.getfield 266, 3) := by decide +kernel
theorem dX12_queuesTask_100 : decode cX12_queuesTask 100 = .ok (.iload_n 2, 1) := by decide +kernel
theorem dX12_queuesTask_101 : decode cX12_queuesTask 101 = .ok (.iaload, 1) := by decide +kernel
theorem dX12_queuesTask_102 : decode cX12_queuesTask 102 = .ok (.iconst (-1), 1) := by decide +kernel
theorem dX12_queuesTask_103 : decode cX12_queuesTask 103 = .ok (.if_icmp .eq 26, 3) := by decide +kernel
theorem dX12_queuesTask_106 : decode cX12_queuesTask 106 = .ok (.aload_n 0, 1) := by decide +kernel
theorem dX12_queuesTask_107 : decode cX12_queuesTask 107 = .ok (.getfield 269, 3) := by decide +kernel
theorem dX12_queuesTask_110 : decode cX12_queuesTask 110 = .ok (.iload_n 2, 1) := by decide +kernel
theorem dX12_queuesTask_111 : decode cX12_queuesTask 111 = .ok (.baload, 1) := by decide +kernel
theorem dX12_queuesTask_112 : decode cX12_queuesTask 112 = .ok (.ifCond .eq 17, 3) := by decide +kernel
theorem dX12_queuesTask_115 : decode cX12_queuesTask 115 = .ok (.aload_n 0, 1) := by decide +kernel
theorem dX12_queuesTask_116 : decode cX12_queuesTask 116 = .ok (.iconst 1, 1) := by decide +kernel
theorem dX12_queuesTask_117 : decode cX12_queuesTask 117 = .ok (.aload_n 0, 1) := by decide +kernel
theorem dX12_queuesTask_118 : decode cX12_queuesTask 118 = .ok (.getfield 266, 3) := by decide +kernel
theorem dX12_queuesTask_121 : decode cX12_queuesTask 121 = .ok (.iload_n 2, 1) := by decide +kernel
theorem dX12_queuesTask_122 : decode cX12_queuesTask 122 = .ok (.iaload, 1) := by decide +kernel
theorem dX12_queuesTask_123 : decode cX12_queuesTask 123 = .ok (.iload_n 2, 1) := by decide +kernel
theorem dX12_queuesTask_124 : decode cX12_queuesTask 124 = .ok (.invokevirtual 423, 3) := by decide +kernel
theorem dX12_queuesTask_127 : decode cX12_queuesTask 127 = .ok (.iconst 1, 1) := by decide +kernel
theorem dX12_queuesTask_128 : decode cX12_queuesTask 128 = .ok (.ireturn, 1) := by decide +kernel
theorem dX12_queuesTask_129 : decode cX12_queuesTask 129 = .ok (.aload_n 0, 1) := by decide +kernel
theorem dX12_queuesTask_130 : decode cX12_queuesTask 130 = .ok (.getfield 266, 3) := by decide +kernel
theorem dX12_queuesTask_133 : decode cX12_queuesTask 133 = .ok (.iload_n 2, 1) := by decide +kernel
theorem dX12_queuesTask_134 : decode cX12_queuesTask 134 = .ok (.iaload, 1) := by decide +kernel
theorem dX12_queuesTask_135 : decode cX12_queuesTask 135 = .ok (.iconst (-1), 1) := by decide +kernel
theorem dX12_queuesTask_136 : decode cX12_queuesTask 136 = .ok (.if_icmp .eq 8, 3) := by decide +kernel
theorem dX12_queuesTask_139 : decode cX12_queuesTask 139 = .ok (.aload_n 0, 1) := by decide +kernel
theorem dX12_queuesTask_140 : decode cX12_queuesTask 140 = .ok (.iload_n 2, 1) := by decide +kernel
theorem dX12_queuesTask_141 : decode cX12_queuesTask 141 = .ok (.invokevirtual 356, 3) := by decide +kernel
theorem dX12_queuesTask_144 : decode cX12_queuesTask 144 = .ok (.aload_n 0, 1) := by decide +kernel
theorem dX12_queuesTask_145 : decode cX12_queuesTask 145 = .ok (.iconst 2, 1) := by decide +kernel
theorem dX12_queuesTask_146 : decode cX12_queuesTask 146 = .ok (.iload_n 1, 1) := by decide +kernel
theorem dX12_queuesTask_147 : decode cX12_queuesTask 147 = .ok (.iload_n 2, 1) := by decide +kernel
theorem dX12_queuesTask_148 : decode cX12_queuesTask 148 = .ok (.invokevirtual 423, 3) := by decide +kernel
theorem dX12_queuesTask_151 : decode cX12_queuesTask 151 = .ok (.iconst 1, 1) := by decide +kernel
theorem dX12_queuesTask_152 : decode cX12_queuesTask 152 = .ok (.ireturn, 1) := by decide +kernel
theorem dX12_given_0 : decode cX12_given 0 = .ok (.iconst 0, 1) := by decide +kernel
theorem dX12_given_1 : decode cX12_given 1 = .ok (.istore_n 1, 1) := by decide +kernel
theorem dX12_given_2 : decode cX12_given 2 = .ok (.iload_n 1, 1) := by decide +kernel
theorem dX12_given_3 : decode cX12_given 3 = .ok (.aload_n 0, 1) := by decide +kernel
theorem dX12_given_4 : decode cX12_given 4 = .ok (.getfield 246, 3) := by decide +kernel
theorem dX12_given_7 : decode cX12_given 7 = .ok (.if_icmp .ge 41, 3) := by decide +kernel
theorem dX12_given_10 : decode cX12_given 10 = .ok (.aload_n 0, 1) := by decide +kernel
theorem dX12_given_11 : decode cX12_given 11 = .ok (.getfield 278, 3) := by decide +kernel
theorem dX12_given_14 : decode cX12_given 14 = .ok (.aload_n 0, 1) := by decide +kernel
theorem dX12_given_15 : decode cX12_given 15 = .ok (.getfield 266, 3) := by decide +kernel
theorem dX12_given_18 : decode cX12_given 18 = .ok (.iload_n 1, 1) := by decide +kernel
theorem dX12_given_19 : decode cX12_given 19 = .ok (.iaload, 1) := by decide +kernel
theorem dX12_given_20 : decode cX12_given 20 = .ok (.iaload, 1) := by decide +kernel
theorem dX12_given_21 : decode cX12_given 21 = .ok (.iconst 1, 1) := by decide +kernel
theorem dX12_given_22 : decode cX12_given 22 = .ok (.if_icmp .eq 20, 3) := by decide +kernel
theorem dX12_given_25 : decode cX12_given 25 = .ok (.aload_n 0, 1) := by decide +kernel
theorem dX12_given_26 : decode cX12_given 26 = .ok (.getfield 278, 3) := by decide +kernel
theorem dX12_given_29 : decode cX12_given 29 = .ok (.aload_n 0, 1) := by decide +kernel
theorem dX12_given_30 : decode cX12_given 30 = .ok (.getfield 266, 3) := by decide +kernel
theorem dX12_given_33 : decode cX12_given 33 = .ok (.iload_n 1, 1) := by decide +kernel
theorem dX12_given_34 : decode cX12_given 34 = .ok (.iaload, 1) := by decide +kernel
theorem dX12_given_35 : decode cX12_given 35 = .ok (.iaload, 1) := by decide +kernel
theorem dX12_given_36 : decode cX12_given 36 = .ok (.iconst 5, 1) := by decide +kernel
theorem dX12_given_37 : decode cX12_given 37 = .ok (.if_icmp .eq 5, 3) := by decide +kernel
theorem dX12_given_40 : decode cX12_given 40 = .ok (.iload_n 1, 1) := by decide +kernel
theorem dX12_given_41 : decode cX12_given 41 = .ok (.ireturn, 1) := by decide +kernel
theorem dX12_given_42 : decode cX12_given 42 = .ok (.iinc 1 1, 3) := by decide +kernel
theorem dX12_given_45 : decode cX12_given 45 = .ok (.goto (-43), 3) := by decide +kernel
theorem dX12_given_48 : decode cX12_given 48 = .ok (.iconst 0, 1) := by decide +kernel
theorem dX12_given_49 : decode cX12_given 49 = .ok (.istore_n 1, 1) := by decide +kernel
theorem dX12_given_50 : decode cX12_given 50 = .ok (.iload_n 1, 1) := by decide +kernel
theorem dX12_given_51 : decode cX12_given 51 = .ok (.aload_n 0, 1) := by decide +kernel
theorem dX12_given_52 : decode cX12_given 52 = .ok (.getfield 246, 3) := by decide +kernel
theorem dX12_given_55 : decode cX12_given 55 = .ok (.if_icmp .ge 48, 3) := by decide +kernel
theorem dX12_given_58 : decode cX12_given 58 = .ok (.aload_n 0, 1) := by decide +kernel
theorem dX12_given_59 : decode cX12_given 59 = .ok (.getfield 278, 3) := by decide +kernel
theorem dX12_given_62 : decode cX12_given 62 = .ok (.aload_n 0, 1) := by decide +kernel
theorem dX12_given_63 : decode cX12_given 63 = .ok (.getfield 266, 3) := by decide +kernel
theorem dX12_given_66 : decode cX12_given 66 = .ok (.iload_n 1, 1) := by decide +kernel
theorem dX12_given_67 : decode cX12_given 67 = .ok (.iaload, 1) := by decide +kernel
theorem dX12_given_68 : decode cX12_given 68 = .ok (.iaload, 1) := by decide +kernel
theorem dX12_given_69 : decode cX12_given 69 = .ok (.iconst 5, 1) := by decide +kernel
theorem dX12_given_70 : decode cX12_given 70 = .ok (.if_icmp .eq 27, 3) := by decide +kernel
theorem dX12_given_73 : decode cX12_given 73 = .ok (.aload_n 0, 1) := by decide +kernel
theorem dX12_given_74 : decode cX12_given 74 = .ok (.getfield 272, 3) := by decide +kernel
theorem dX12_given_77 : decode cX12_given 77 = .ok (.iload_n 1, 1) := by decide +kernel
theorem dX12_given_78 : decode cX12_given 78 = .ok (.baload, 1) := by decide +kernel
theorem dX12_given_79 : decode cX12_given 79 = .ok (.ifCond .eq 18, 3) := by decide +kernel
theorem dX12_given_82 : decode cX12_given 82 = .ok (.aload_n 0, 1) := by decide +kernel
theorem dX12_given_83 : decode cX12_given 83 = .ok (.getfield 266, 3) := by decide +kernel
theorem dX12_given_86 : decode cX12_given 86 = .ok (.iload_n 1, 1) := by decide +kernel
theorem dX12_given_87 : decode cX12_given 87 = .ok (.iaload, 1) := by decide +kernel
theorem dX12_given_88 : decode cX12_given 88 = .ok (.aload_n 0, 1) := by decide +kernel
theorem dX12_given_89 : decode cX12_given 89 = .ok (.getfield 237, 3) := by decide +kernel
theorem dX12_given_92 : decode cX12_given 92 = .ok (.if_icmp .eq 5, 3) := by decide +kernel
theorem dX12_given_95 : decode cX12_given 95 = .ok (.iload_n 1, 1) := by decide +kernel
theorem dX12_given_96 : decode cX12_given 96 = .ok (.ireturn, 1) := by decide +kernel
theorem dX12_given_97 : decode cX12_given 97 = .ok (.iinc 1 1, 3) := by decide +kernel
theorem dX12_given_100 : decode cX12_given 100 = .ok (.goto (-50), 3) := by decide +kernel
theorem dX12_given_103 : decode cX12_given 103 = .ok (.iconst (-1), 1) := by decide +kernel
theorem dX12_given_104 : decode cX12_given 104 = .ok (.ireturn, 1) := by decide +kernel
theorem dX12_processes_0 : decode cX12_processes 0 = .ok (.aload_n 0, 1) := by decide +kernel
theorem dX12_processes_1 : decode cX12_processes 1 = .ok (.getfield 237, 3) := by decide +kernel
theorem dX12_processes_4 : decode cX12_processes 4 = .ok (.iconst (-1), 1) := by decide +kernel
theorem dX12_processes_5 : decode cX12_processes 5 = .ok (.if_icmp .ne 100, 3) := by decide +kernel
theorem dX12_processes_8 : decode cX12_processes 8 = .ok (.iconst 0, 1) := by decide +kernel
theorem dX12_processes_9 : decode cX12_processes 9 = .ok (.istore_n 1, 1) := by decide +kernel
theorem dX12_processes_10 : decode cX12_processes 10 = .ok (.iload_n 1, 1) := by decide +kernel
theorem dX12_processes_11 : decode cX12_processes 11 = .ok (.aload_n 0, 1) := by decide +kernel
theorem dX12_processes_12 : decode cX12_processes 12 = .ok (.getfield 338, 3) := by decide +kernel
theorem dX12_processes_15 : decode cX12_processes 15 = .ok (.if_icmp .ge 55, 3) := by decide +kernel
theorem dX12_processes_18 : decode cX12_processes 18 = .ok (.aload_n 0, 1) := by decide +kernel
theorem dX12_processes_19 : decode cX12_processes 19 = .ok (.getfield 237, 3) := by decide +kernel
theorem dX12_processes_22 : decode cX12_processes 22 = .ok (.iconst (-1), 1) := by decide +kernel
theorem dX12_processes_23 : decode cX12_processes 23 = .ok (.if_icmp .ne 47, 3) := by decide +kernel
theorem dX12_processes_26 : decode cX12_processes 26 = .ok (.aload_n 0, 1) := by decide +kernel
theorem dX12_processes_27 : decode cX12_processes 27 = .ok (.getfield 234, 3) := by decide +kernel
theorem dX12_processes_30 : decode cX12_processes 30 = .ok (.iload_n 1, 1) := by decide +kernel
theorem dX12_processes_31 : decode cX12_processes 31 = .ok (.iaload, 1) := by decide +kernel
theorem dX12_processes_32 : decode cX12_processes 32 = .ok (.istore_n 2, 1) := by decide +kernel
theorem dX12_processes_33 : decode cX12_processes 33 = .ok (.aload_n 0, 1) := by decide +kernel
theorem dX12_processes_34 : decode cX12_processes 34 = .ok (.getfield 275, 3) := by decide +kernel
theorem dX12_processes_37 : decode cX12_processes 37 = .ok (.iload_n 2, 1) := by decide +kernel
theorem dX12_processes_38 : decode cX12_processes 38 = .ok (.iaload, 1) := by decide +kernel
theorem dX12_processes_39 : decode cX12_processes 39 = .ok (.iconst (-1), 1) := by decide +kernel
theorem dX12_processes_40 : decode cX12_processes 40 = .ok (.if_icmp .eq 24, 3) := by decide +kernel
theorem dX12_processes_43 : decode cX12_processes 43 = .ok (.aload_n 0, 1) := by decide +kernel
theorem dX12_processes_44 : decode cX12_processes 44 = .ok (.getfield 344, 3) := by decide +kernel
theorem dX12_processes_47 : decode cX12_processes 47 = .ok (.iconst 1, 1) := by decide +kernel
theorem dX12_processes_48 : decode cX12_processes 48 = .ok (.if_icmp .ne 11, 3) := by decide +kernel
theorem dX12_processes_51 : decode cX12_processes 51 = .ok (.aload_n 0, 1) := by decide +kernel
theorem dX12_processes_52 : decode cX12_processes 52 = .ok (.getfield 347, 3) := by decide +kernel
theorem dX12_processes_55 : decode cX12_processes 55 = .ok (.iload_n 2, 1) := by decide +kernel
theorem dX12_processes_56 : decode cX12_processes 56 = .ok (.if_icmp .eq 8, 3) := by decide +kernel
theorem dX12_processes_59 : decode cX12_processes 59 = .ok (.aload_n 0, 1) := by decide +kernel
theorem dX12_processes_60 : decode cX12_processes 60 = .ok (.iload_n 2, 1) := by decide +kernel
theorem dX12_processes_61 : decode cX12_processes 61 = .ok (.putfield 237, 3) := by decide +kernel
theorem dX12_processes_64 : decode cX12_processes 64 = .ok (.iinc 1 1, 3) := by decide +kernel
theorem dX12_processes_67 : decode cX12_processes 67 = .ok (.goto (-57), 3) := by decide +kernel
theorem dX12_processes_70 : decode cX12_processes 70 = .ok (.aload_n 0, 1) := by decide +kernel
theorem dX12_processes_71 : decode cX12_processes 71 = .ok (.getfield 237, 3) := by decide +kernel
theorem dX12_processes_74 : decode cX12_processes 74 = .ok (.iconst (-1), 1) := by decide +kernel
theorem dX12_processes_75 : decode cX12_processes 75 = .ok (.if_icmp .ne 14, 3) := by decide +kernel
theorem dX12_processes_78 : decode cX12_processes 78 = .ok (.aload_n 0, 1) := by decide +kernel
theorem dX12_processes_79 : decode cX12_processes 79 = .ok (.dup, 1) := by decide +kernel
theorem dX12_processes_80 : decode cX12_processes 80 = .ok (.getfield 429, 3) := by decide +kernel
theorem dX12_processes_83 : decode cX12_processes 83 = .ok (.iconst 1, 1) := by decide +kernel
theorem dX12_processes_84 : decode cX12_processes 84 = .ok (.iadd, 1) := by decide +kernel
theorem dX12_processes_85 : decode cX12_processes 85 = .ok (.putfield 429, 3) := by decide +kernel
theorem dX12_processes_88 : decode cX12_processes 88 = .ok (.return_, 1) := by decide +kernel
theorem dX12_processes_89 : decode cX12_processes 89 = .ok (.aload_n 0, 1) := by decide +kernel
theorem dX12_processes_90 : decode cX12_processes 90 = .ok (.aload_n 0, 1) := by decide +kernel
theorem dX12_processes_91 : decode cX12_processes 91 = .ok (.getfield 237, 3) := by decide +kernel
theorem dX12_processes_94 : decode cX12_processes 94 = .ok (.invokevirtual 365, 3) := by decide +kernel
theorem dX12_processes_97 : decode cX12_processes 97 = .ok (.aload_n 0, 1) := by decide +kernel
theorem dX12_processes_98 : decode cX12_processes 98 = .ok (.aload_n 0, 1) := by decide +kernel
theorem dX12_processes_99 : decode cX12_processes 99 = .ok (.getfield 249, 3) := by decide +kernel
theorem dX12_processes_102 : decode cX12_processes 102 = .ok (.putfield 432, 3) := by decide +kernel
theorem dX12_processes_105 : decode cX12_processes 105 = .ok (.aload_n 0, 1) := by decide +kernel
theorem dX12_processes_106 : decode cX12_processes 106 = .ok (.getfield 237, 3) := by decide +kernel
theorem dX12_processes_109 : decode cX12_processes 109 = .ok (.istore_n 1, 1) := by decide +kernel
theorem dX12_processes_110 : decode cX12_processes 110 = .ok (.aload_n 0, 1) := by decide +kernel
theorem dX12_processes_111 : decode cX12_processes 111 = .ok (.iload_n 1, 1) := by decide +kernel
theorem dX12_processes_112 : decode cX12_processes 112 = .ok (.invokevirtual 435, 3) := by decide +kernel
theorem dX12_processes_115 : decode cX12_processes 115 = .ok (.aload_n 0, 1) := by decide +kernel
theorem dX12_processes_116 : decode cX12_processes 116 = .ok (.dup, 1) := by decide +kernel
theorem dX12_processes_117 : decode cX12_processes 117 = .ok (.getfield 432, 3) := by decide +kernel
theorem dX12_processes_120 : decode cX12_processes 120 = .ok (.iconst 1, 1) := by decide +kernel
theorem dX12_processes_121 : decode cX12_processes 121 = .ok (.isub, 1) := by decide +kernel
theorem dX12_processes_122 : decode cX12_processes 122 = .ok (.putfield 432, 3) := by decide +kernel
theorem dX12_processes_125 : decode cX12_processes 125 = .ok (.aload_n 0, 1) := by decide +kernel
theorem dX12_processes_126 : decode cX12_processes 126 = .ok (.getfield 278, 3) := by decide +kernel
theorem dX12_processes_129 : decode cX12_processes 129 = .ok (.iload_n 1, 1) := by decide +kernel
theorem dX12_processes_130 : decode cX12_processes 130 = .ok (.iaload, 1) := by decide +kernel
theorem dX12_processes_131 : decode cX12_processes 131 = .ok (.iconst 1, 1) := by decide +kernel
theorem dX12_processes_132 : decode cX12_processes 132 = .ok (.if_icmp .eq 21, 3) := by decide +kernel
theorem dX12_processes_135 : decode cX12_processes 135 = .ok (.aload_n 0, 1) := by decide +kernel
theorem dX12_processes_136 : decode cX12_processes 136 = .ok (.getfield 272, 3) := by decide +kernel
theorem dX12_processes_139 : decode cX12_processes 139 = .ok (.aload_n 0, 1) := by decide +kernel
theorem dX12_processes_140 : decode cX12_processes 140 = .ok (.getfield 275, 3) := by decide +kernel
theorem dX12_processes_143 : decode cX12_processes 143 = .ok (.iload_n 1, 1) := by decide +kernel
theorem dX12_processes_144 : decode cX12_processes 144 = .ok (.iaload, 1) := by decide +kernel
theorem dX12_processes_145 : decode cX12_processes 145 = .ok (.iconst 1, 1) := by decide +kernel
theorem dX12_processes_146 : decode cX12_processes 146 = .ok (.bastore, 1) := by decide +kernel
theorem dX12_processes_147 : decode cX12_processes 147 = .ok (.aload_n 0, 1) := by decide +kernel
theorem dX12_processes_148 : decode cX12_processes 148 = .ok (.iconst (-1), 1) := by decide +kernel
theorem dX12_processes_149 : decode cX12_processes 149 = .ok (.putfield 237, 3) := by decide +kernel
theorem dX12_processes_152 : decode cX12_processes 152 = .ok (.return_, 1) := by decide +kernel
theorem dX12_processes_153 : decode cX12_processes 153 = .ok (.aload_n 0, 1) := by decide +kernel
theorem dX12_processes_154 : decode cX12_processes 154 = .ok (.getfield 432, 3) := by decide +kernel
theorem dX12_processes_157 : decode cX12_processes 157 = .ok (.ifCond .le 4, 3) := by decide +kernel
theorem dX12_processes_160 : decode cX12_processes 160 = .ok (.return_, 1) := by decide +kernel
theorem dX12_processes_161 : decode cX12_processes 161 = .ok (.aload_n 0, 1) := by decide +kernel
theorem dX12_processes_162 : decode cX12_processes 162 = .ok (.getfield 272, 3) := by decide +kernel
theorem dX12_processes_165 : decode cX12_processes 165 = .ok (.aload_n 0, 1) := by decide +kernel
theorem dX12_processes_166 : decode cX12_processes 166 = .ok (.getfield 275, 3) := by decide +kernel
theorem dX12_processes_169 : decode cX12_processes 169 = .ok (.iload_n 1, 1) := by decide +kernel
theorem dX12_processes_170 : decode cX12_processes 170 = .ok (.iaload, 1) := by decide +kernel
theorem dX12_processes_171 : decode cX12_processes 171 = .ok (.iconst 1, 1) := by decide +kernel
theorem dX12_processes_172 : decode cX12_processes 172 = .ok (.bastore, 1) := by decide +kernel
theorem dX12_processes_173 : decode cX12_processes 173 = .ok (.aload_n 0, 1) := by decide +kernel
theorem dX12_processes_174 : decode cX12_processes 174 = .ok (.getfield 338, 3) := by decide +kernel
theorem dX12_processes_177 : decode cX12_processes 177 = .ok (.ifCond .ne 12, 3) := by decide +kernel
theorem dX12_processes_180 : decode cX12_processes 180 = .ok (.aload_n 0, 1) := by decide +kernel
theorem dX12_processes_181 : decode cX12_processes 181 = .ok (.aload_n 0, 1) := by decide +kernel
theorem dX12_processes_182 : decode cX12_processes 182 = .ok (.getfield 249, 3) := by decide +kernel
theorem dX12_processes_185 : decode cX12_processes 185 = .ok (.putfield 432, 3) := by decide +kernel
theorem dX12_processes_188 : decode cX12_processes 188 = .ok (.return_, 1) := by decide +kernel
theorem dX12_processes_189 : decode cX12_processes 189 = .ok (.aload_n 0, 1) := by decide +kernel
theorem dX12_processes_190 : decode cX12_processes 190 = .ok (.iconst (-1), 1) := by decide +kernel
theorem dX12_processes_191 : decode cX12_processes 191 = .ok (.putfield 237, 3) := by decide +kernel
theorem dX12_processes_194 : decode cX12_processes 194 = .ok (.aload_n 0, 1) := by decide +kernel
theorem dX12_processes_195 : decode cX12_processes 195 = .ok (.iload_n 1, 1) := by decide +kernel
theorem dX12_processes_196 : decode cX12_processes 196 = .ok (.invokevirtual 362, 3) := by decide +kernel
theorem dX12_processes_199 : decode cX12_processes 199 = .ok (.return_, 1) := by decide +kernel
theorem dX12_word__0 : decode cX12_word_ 0 = .ok (.aload_n 0, 1) := by decide +kernel
theorem dX12_word__1 : decode cX12_word_ 1 = .ok (.iload_n 1, 1) := by decide +kernel
theorem dX12_word__2 : decode cX12_word_ 2 = .ok (.aload_n 0, 1) := by decide +kernel
theorem dX12_word__3 : decode cX12_word_ 3 = .ok (.getfield 287, 3) := by decide +kernel
theorem dX12_word__6 : decode cX12_word_ 6 = .ok (.iload_n 1, 1) := by decide +kernel
theorem dX12_word__7 : decode cX12_word_ 7 = .ok (.iaload, 1) := by decide +kernel
theorem dX12_word__8 : decode cX12_word_ 8 = .ok (.invokevirtual 399, 3) := by decide +kernel
theorem dX12_word__11 : decode cX12_word_ 11 = .ok (.istore_n 2, 1) := by decide +kernel
theorem dX12_word__12 : decode cX12_word_ 12 = .ok (.aload_n 0, 1) := by decide +kernel
theorem dX12_word__13 : decode cX12_word_ 13 = .ok (.getfield 287, 3) := by decide +kernel
theorem dX12_word__16 : decode cX12_word_ 16 = .ok (.iload_n 1, 1) := by decide +kernel
theorem dX12_word__17 : decode cX12_word_ 17 = .ok (.aload_n 0, 1) := by decide +kernel
theorem dX12_word__18 : decode cX12_word_ 18 = .ok (.getfield 287, 3) := by decide +kernel
theorem dX12_word__21 : decode cX12_word_ 21 = .ok (.iload_n 1, 1) := by decide +kernel
theorem dX12_word__22 : decode cX12_word_ 22 = .ok (.iaload, 1) := by decide +kernel
theorem dX12_word__23 : decode cX12_word_ 23 = .ok (.iconst 1, 1) := by decide +kernel
theorem dX12_word__24 : decode cX12_word_ 24 = .ok (.iadd, 1) := by decide +kernel
theorem dX12_word__25 : decode cX12_word_ 25 = .ok (.sipush 4095, 3) := by decide +kernel
theorem dX12_word__28 : decode cX12_word_ 28 = .ok (.iand, 1) := by decide +kernel
theorem dX12_word__29 : decode cX12_word_ 29 = .ok (.iastore, 1) := by decide +kernel
theorem dX12_word__30 : decode cX12_word_ 30 = .ok (.iload_n 2, 1) := by decide +kernel
theorem dX12_word__31 : decode cX12_word_ 31 = .ok (.ireturn, 1) := by decide +kernel
theorem dX12_step_0 : decode cX12_step 0 = .ok (.aload_n 0, 1) := by decide +kernel
theorem dX12_step_1 : decode cX12_step 1 = .ok (.getfield 287, 3) := by decide +kernel
theorem dX12_step_4 : decode cX12_step 4 = .ok (.iload_n 1, 1) := by decide +kernel
theorem dX12_step_5 : decode cX12_step 5 = .ok (.iaload, 1) := by decide +kernel
theorem dX12_step_6 : decode cX12_step 6 = .ok (.istore_n 2, 1) := by decide +kernel
theorem dX12_step_7 : decode cX12_step 7 = .ok (.aload_n 0, 1) := by decide +kernel
theorem dX12_step_8 : decode cX12_step 8 = .ok (.aload_n 0, 1) := by decide +kernel
theorem dX12_step_9 : decode cX12_step 9 = .ok (.iload_n 1, 1) := by decide +kernel
theorem dX12_step_10 : decode cX12_step 10 = .ok (.iload_n 2, 1) := by decide +kernel
theorem dX12_step_11 : decode cX12_step 11 = .ok (.invokevirtual 399, 3) := by decide +kernel
theorem dX12_step_14 : decode cX12_step 14 = .ok (.putfield 438, 3) := by decide +kernel
theorem dX12_step_17 : decode cX12_step 17 = .ok (.aload_n 0, 1) := by decide +kernel
theorem dX12_step_18 : decode cX12_step 18 = .ok (.invokevirtual 441, 3) := by decide +kernel
theorem dX12_step_21 : decode cX12_step 21 = .ok (.ifCond .eq 12, 3) := by decide +kernel
theorem dX12_step_24 : decode cX12_step 24 = .ok (.aload_n 0, 1) := by decide +kernel
theorem dX12_step_25 : decode cX12_step 25 = .ok (.getfield 278, 3) := by decide +kernel
theorem dX12_step_28 : decode cX12_step 28 = .ok (.iload_n 1, 1) := by decide +kernel
theorem dX12_step_29 : decode cX12_step 29 = .ok (.bipush 7, 2) := by decide +kernel
theorem dX12_step_31 : decode cX12_step 31 = .ok (.iastore, 1) := by decide +kernel
theorem dX12_step_32 : decode cX12_step 32 = .ok (.return_, 1) := by decide +kernel
theorem dX12_step_33 : decode cX12_step 33 = .ok (.aload_n 0, 1) := by decide +kernel
theorem dX12_step_34 : decode cX12_step 34 = .ok (.iload_n 1, 1) := by decide +kernel
theorem dX12_step_35 : decode cX12_step 35 = .ok (.invokevirtual 444, 3) := by decide +kernel
theorem dX12_step_38 : decode cX12_step 38 = .ok (.ifCond .eq 4, 3) := by decide +kernel
theorem dX12_step_41 : decode cX12_step 41 = .ok (.return_, 1) := by decide +kernel
theorem dX12_step_42 : decode cX12_step 42 = .ok (.aload_n 0, 1) := by decide +kernel
theorem dX12_step_43 : decode cX12_step 43 = .ok (.getfield 287, 3) := by decide +kernel
theorem dX12_step_46 : decode cX12_step 46 = .ok (.iload_n 1, 1) := by decide +kernel
theorem dX12_step_47 : decode cX12_step 47 = .ok (.iload_n 2, 1) := by decide +kernel
theorem dX12_step_48 : decode cX12_step 48 = .ok (.iconst 1, 1) := by decide +kernel
theorem dX12_step_49 : decode cX12_step 49 = .ok (.iadd, 1) := by decide +kernel
theorem dX12_step_50 : decode cX12_step 50 = .ok (.sipush 4095, 3) := by decide +kernel
theorem dX12_step_53 : decode cX12_step 53 = .ok (.iand, 1) := by decide +kernel
theorem dX12_step_54 : decode cX12_step 54 = .ok (.iastore, 1) := by decide +kernel
theorem dX12_step_55 : decode cX12_step 55 = .ok (.aload_n 0, 1) := by decide +kernel
theorem dX12_step_56 : decode cX12_step 56 = .ok (.getfield 438, 3) := by decide +kernel
theorem dX12_step_59 : decode cX12_step 59 = .ok (.bipush 9, 2) := by decide +kernel
theorem dX12_step_61 : decode cX12_step 61 = .ok (.ishr, 1) := by decide +kernel
theorem dX12_step_62 : decode cX12_step 62 = .ok (.istore_n 3, 1) := by decide +kernel
theorem dX12_step_63 : decode cX12_step 63 = .ok (.iconst 1, 1) := by decide +kernel
theorem dX12_step_64 : decode cX12_step 64 = .ok (.istore 4, 2) := by decide +kernel
theorem dX12_step_66 : decode cX12_step 66 = .ok (.iload_n 3, 1) := by decide +kernel
theorem dX12_step_67 : decode cX12_step 67 = .ok (.bipush 6, 2) := by decide +kernel
theorem dX12_step_69 : decode cX12_step 69 = .ok (.if_icmp .ge 13, 3) := by decide +kernel
theorem dX12_step_72 : decode cX12_step 72 = .ok (.aload_n 0, 1) := by decide +kernel
theorem dX12_step_73 : decode cX12_step 73 = .ok (.iload_n 1, 1) := by decide +kernel
theorem dX12_step_74 : decode cX12_step 74 = .ok (.iload_n 3, 1) := by decide +kernel
theorem dX12_step_75 : decode cX12_step 75 = .ok (.iload_n 2, 1) := by decide +kernel
theorem dX12_step_76 : decode cX12_step 76 = .ok (.invokevirtual 447, 3) := by decide +kernel
theorem dX12_step_79 : decode cX12_step 79 = .ok (.goto 60, 3) := by decide +kernel
theorem dX12_step_82 : decode cX12_step 82 = .ok (.iload_n 3, 1) := by decide +kernel
theorem dX12_step_83 : decode cX12_step 83 = .ok (.bipush 6, 2) := by decide +kernel
theorem dX12_step_85 : decode cX12_step 85 = .ok (.if_icmp .ne 13, 3) := by decide +kernel
theorem dX12_step_88 : decode cX12_step 88 = .ok (.aload_n 0, 1) := by decide +kernel
theorem dX12_step_89 : decode cX12_step 89 = .ok (.iload_n 1, 1) := by decide +kernel
theorem dX12_step_90 : decode cX12_step 90 = .ok (.invokevirtual 449, 3) := by decide +kernel
theorem dX12_step_93 : decode cX12_step 93 = .ok (.istore 4, 2) := by decide +kernel
theorem dX12_step_95 : decode cX12_step 95 = .ok (.goto 44, 3) := by decide +kernel
theorem dX12_step_98 : decode cX12_step 98 = .ok (.aload_n 0, 1) := by decide +kernel
theorem dX12_step_99 : decode cX12_step 99 = .ok (.getfield 438, 3) := by decide +kernel
theorem dX12_step_102 : decode cX12_step 102 = .ok (.sipush 256, 3) := by decide +kernel
theorem dX12_step_105 : decode cX12_step 105 = .ok (.iand, 1) := by decide +kernel
theorem dX12_step_106 : decode cX12_step 106 = .ok (.ifCond .ne 11, 3) := by decide +kernel
theorem dX12_step_109 : decode cX12_step 109 = .ok (.aload_n 0, 1) := by decide +kernel
theorem dX12_step_110 : decode cX12_step 110 = .ok (.iload_n 1, 1) := by decide +kernel
theorem dX12_step_111 : decode cX12_step 111 = .ok (.invokevirtual 452, 3) := by decide +kernel
theorem dX12_step_114 : decode cX12_step 114 = .ok (.goto 25, 3) := by decide +kernel
theorem dX12_step_117 : decode cX12_step 117 = .ok (.aload_n 0, 1) := by decide +kernel
theorem dX12_step_118 : decode cX12_step 118 = .ok (.getfield 438, 3) := by decide +kernel
theorem dX12_step_121 : decode cX12_step 121 = .ok (.iconst 1, 1) := by decide +kernel
theorem dX12_step_122 : decode cX12_step 122 = .ok (.iand, 1) := by decide +kernel
theorem dX12_step_123 : decode cX12_step 123 = .ok (.ifCond .ne 11, 3) := by decide +kernel
theorem dX12_step_126 : decode cX12_step 126 = .ok (.aload_n 0, 1) := by decide +kernel
theorem dX12_step_127 : decode cX12_step 127 = .ok (.iload_n 1, 1) := by decide +kernel
theorem dX12_step_128 : decode cX12_step 128 = .ok (.invokevirtual 455, 3) := by decide +kernel
theorem dX12_step_131 : decode cX12_step 131 = .ok (.goto 8, 3) := by decide +kernel
theorem dX12_step_134 : decode cX12_step 134 = .ok (.aload_n 0, 1) := by decide +kernel
theorem dX12_step_135 : decode cX12_step 135 = .ok (.iload_n 1, 1) := by decide +kernel
theorem dX12_step_136 : decode cX12_step 136 = .ok (.invokevirtual 457, 3) := by decide +kernel
theorem dX12_step_139 : decode cX12_step 139 = .ok (.iload 4, 2) := by decide +kernel
theorem dX12_step_141 : decode cX12_step 141 = .ok (.ifCond .ne 4, 3) := by decide +kernel
theorem dX12_step_144 : decode cX12_step 144 = .ok (.return_, 1) := by decide +kernel
theorem dX12_step_145 : decode cX12_step 145 = .ok (.aload_n 0, 1) := by decide +kernel
theorem dX12_step_146 : decode cX12_step 146 = .ok (.getfield 296, 3) := by decide +kernel
theorem dX12_step_149 : decode cX12_step 149 = .ok (.iload_n 1, 1) := by decide +kernel
theorem dX12_step_150 : decode cX12_step 150 = .ok (.dup2, 1) := by decide +kernel
theorem dX12_step_151 : decode cX12_step 151 = .ok (.iaload, 1) := by decide +kernel
theorem dX12_step_152 : decode cX12_step 152 = .ok (.iconst 1, 1) := by decide +kernel
theorem dX12_step_153 : decode cX12_step 153 = .ok (.iadd, 1) := by decide +kernel
theorem dX12_step_154 : decode cX12_step 154 = .ok (.iastore, 1) := by decide +kernel
theorem dX12_step_155 : decode cX12_step 155 = .ok (.aload_n 0, 1) := by decide +kernel
theorem dX12_step_156 : decode cX12_step 156 = .ok (.dup, 1) := by decide +kernel
theorem dX12_step_157 : decode cX12_step 157 = .ok (.getfield 372, 3) := by decide +kernel
theorem dX12_step_160 : decode cX12_step 160 = .ok (.iconst 1, 1) := by decide +kernel
theorem dX12_step_161 : decode cX12_step 161 = .ok (.iadd, 1) := by decide +kernel
theorem dX12_step_162 : decode cX12_step 162 = .ok (.putfield 372, 3) := by decide +kernel
theorem dX12_step_165 : decode cX12_step 165 = .ok (.return_, 1) := by decide +kernel
theorem dX12_isWrong_0 : decode cX12_isWrong 0 = .ok (.aload_n 0, 1) := by decide +kernel
theorem dX12_isWrong_1 : decode cX12_isWrong 1 = .ok (.getfield 438, 3) := by decide +kernel
theorem dX12_isWrong_4 : decode cX12_isWrong 4 = .ok (.bipush 9, 2) := by decide +kernel
theorem dX12_isWrong_6 : decode cX12_isWrong 6 = .ok (.ishr, 1) := by decide +kernel
theorem dX12_isWrong_7 : decode cX12_isWrong 7 = .ok (.bipush 7, 2) := by decide +kernel
theorem dX12_isWrong_9 : decode cX12_isWrong 9 = .ok (.if_icmp .ne 46, 3) := by decide +kernel
theorem dX12_isWrong_12 : decode cX12_isWrong 12 = .ok (.aload_n 0, 1) := by decide +kernel
theorem dX12_isWrong_13 : decode cX12_isWrong 13 = .ok (.getfield 438, 3) := by decide +kernel
theorem dX12_isWrong_16 : decode cX12_isWrong 16 = .ok (.sipush 257, 3) := by decide +kernel
theorem dX12_isWrong_19 : decode cX12_isWrong 19 = .ok (.iand, 1) := by decide +kernel
theorem dX12_isWrong_20 : decode cX12_isWrong 20 = .ok (.sipush 257, 3) := by decide +kernel
theorem dX12_isWrong_23 : decode cX12_isWrong 23 = .ok (.if_icmp .ne 32, 3) := by decide +kernel
theorem dX12_isWrong_26 : decode cX12_isWrong 26 = .ok (.aload_n 0, 1) := by decide +kernel
theorem dX12_isWrong_27 : decode cX12_isWrong 27 = .ok (.getfield 438, 3) := by decide +kernel
theorem dX12_isWrong_30 : decode cX12_isWrong 30 = .ok (.bipush 14, 2) := by decide +kernel
theorem dX12_isWrong_32 : decode cX12_isWrong 32 = .ok (.iand, 1) := by decide +kernel
theorem dX12_isWrong_33 : decode cX12_isWrong 33 = .ok (.iconst 2, 1) := by decide +kernel
theorem dX12_isWrong_34 : decode cX12_isWrong 34 = .ok (.if_icmp .eq 15, 3) := by decide +kernel
theorem dX12_isWrong_37 : decode cX12_isWrong 37 = .ok (.aload_n 0, 1) := by decide +kernel
theorem dX12_isWrong_38 : decode cX12_isWrong 38 = .ok (.getfield 438, 3) := by decide +kernel
theorem dX12_isWrong_41 : decode cX12_isWrong 41 = .ok (.bipush 14, 2) := by decide +kernel
theorem dX12_isWrong_43 : decode cX12_isWrong 43 = .ok (.iand, 1) := by decide +kernel
theorem dX12_isWrong_44 : decode cX12_isWrong 44 = .ok (.bipush 8, 2) := by decide +kernel
theorem dX12_isWrong_46 : decode cX12_isWrong 46 = .ok (.if_icmp .ne 7, 3) := by decide +kernel
theorem dX12_isWrong_49 : decode cX12_isWrong 49 = .ok (.iconst 1, 1) := by decide +kernel
theorem dX12_isWrong_50 : decode cX12_isWrong 50 = .ok (.goto 4, 3) := by decide +kernel
theorem dX12_isWrong_53 : decode cX12_isWrong 53 = .ok (.iconst 0, 1) := by decide +kernel
theorem dX12_isWrong_54 : decode cX12_isWrong 54 = .ok (.ireturn, 1) := by decide +kernel
theorem dX12_isWrong_55 : decode cX12_isWrong 55 = .ok (.aload_n 0, 1) := by decide +kernel
theorem dX12_isWrong_56 : decode cX12_isWrong 56 = .ok (.getfield 438, 3) := by decide +kernel
theorem dX12_isWrong_59 : decode cX12_isWrong 59 = .ok (.bipush 9, 2) := by decide +kernel
theorem dX12_isWrong_61 : decode cX12_isWrong 61 = .ok (.ishr, 1) := by decide +kernel
theorem dX12_isWrong_62 : decode cX12_isWrong 62 = .ok (.bipush 6, 2) := by decide +kernel
theorem dX12_isWrong_64 : decode cX12_isWrong 64 = .ok (.if_icmp .eq 5, 3) := by decide +kernel
theorem dX12_isWrong_67 : decode cX12_isWrong 67 = .ok (.iconst 0, 1) := by decide +kernel
theorem dX12_isWrong_68 : decode cX12_isWrong 68 = .ok (.ireturn, 1) := by decide +kernel
theorem dX12_isWrong_69 : decode cX12_isWrong 69 = .ok (.aload_n 0, 1) := by decide +kernel
theorem dX12_isWrong_70 : decode cX12_isWrong 70 = .ok (.getfield 438, 3) := by decide +kernel
theorem dX12_isWrong_73 : decode cX12_isWrong 73 = .ok (.lookupswitch 157 #[(3097, 155), (3098, 155), (3100, 155), (3102, 155), (3105, 155), (3106, 155), (3108, 155), (3110, 155), (3201, 155), (3202, 155), (3203, 155), (3212, 155), (3220, 155), (3228, 155), (3343, 155), (3344, 155), (3360, 155), (3361, 155)], 155) := by decide +kernel
theorem dX12_isWrong_228 : decode cX12_isWrong 228 = .ok (.iconst 0, 1) := by decide +kernel
theorem dX12_isWrong_229 : decode cX12_isWrong 229 = .ok (.ireturn, 1) := by decide +kernel
theorem dX12_isWrong_230 : decode cX12_isWrong 230 = .ok (.iconst 1, 1) := by decide +kernel
theorem dX12_isWrong_231 : decode cX12_isWrong 231 = .ok (.ireturn, 1) := by decide +kernel
theorem dX12_mustWait_0 : decode cX12_mustWait 0 = .ok (.aload_n 0, 1) := by decide +kernel
theorem dX12_mustWait_1 : decode cX12_mustWait 1 = .ok (.getfield 438, 3) := by decide +kernel
theorem dX12_mustWait_4 : decode cX12_mustWait 4 = .ok (.sipush 3100, 3) := by decide +kernel
theorem dX12_mustWait_7 : decode cX12_mustWait 7 = .ok (.if_icmp .eq 13, 3) := by decide +kernel
theorem dX12_mustWait_10 : decode cX12_mustWait 10 = .ok (.aload_n 0, 1) := by decide +kernel
theorem dX12_mustWait_11 : decode cX12_mustWait 11 = .ok (.getfield 438, 3) := by decide +kernel
theorem dX12_mustWait_14 : decode cX12_mustWait 14 = .ok (.sipush 3102, 3) := by decide +kernel
theorem dX12_mustWait_17 : decode cX12_mustWait 17 = .ok (.if_icmp .ne 19, 3) := by decide +kernel
theorem dX12_mustWait_20 : decode cX12_mustWait 20 = .ok (.aload_n 0, 1) := by decide +kernel
theorem dX12_mustWait_21 : decode cX12_mustWait 21 = .ok (.getfield 302, 3) := by decide +kernel
theorem dX12_mustWait_24 : decode cX12_mustWait 24 = .ok (.iload_n 1, 1) := by decide +kernel
theorem dX12_mustWait_25 : decode cX12_mustWait 25 = .ok (.iaload, 1) := by decide +kernel
theorem dX12_mustWait_26 : decode cX12_mustWait 26 = .ok (.ifCond .ne 10, 3) := by decide +kernel
theorem dX12_mustWait_29 : decode cX12_mustWait 29 = .ok (.aload_n 0, 1) := by decide +kernel
theorem dX12_mustWait_30 : decode cX12_mustWait 30 = .ok (.getfield 278, 3) := by decide +kernel
theorem dX12_mustWait_33 : decode cX12_mustWait 33 = .ok (.iload_n 1, 1) := by decide +kernel
theorem dX12_mustWait_34 : decode cX12_mustWait 34 = .ok (.iconst 2, 1) := by decide +kernel
theorem dX12_mustWait_35 : decode cX12_mustWait 35 = .ok (.iastore, 1) := by decide +kernel
theorem dX12_mustWait_36 : decode cX12_mustWait 36 = .ok (.aload_n 0, 1) := by decide +kernel
theorem dX12_mustWait_37 : decode cX12_mustWait 37 = .ok (.getfield 438, 3) := by decide +kernel
theorem dX12_mustWait_40 : decode cX12_mustWait 40 = .ok (.sipush 3108, 3) := by decide +kernel
theorem dX12_mustWait_43 : decode cX12_mustWait 43 = .ok (.if_icmp .eq 13, 3) := by decide +kernel
theorem dX12_mustWait_46 : decode cX12_mustWait 46 = .ok (.aload_n 0, 1) := by decide +kernel
theorem dX12_mustWait_47 : decode cX12_mustWait 47 = .ok (.getfield 438, 3) := by decide +kernel
theorem dX12_mustWait_50 : decode cX12_mustWait 50 = .ok (.sipush 3110, 3) := by decide +kernel
theorem dX12_mustWait_53 : decode cX12_mustWait 53 = .ok (.if_icmp .ne 21, 3) := by decide +kernel
theorem dX12_mustWait_56 : decode cX12_mustWait 56 = .ok (.aload_n 0, 1) := by decide +kernel
theorem dX12_mustWait_57 : decode cX12_mustWait 57 = .ok (.getfield 311, 3) := by decide +kernel
theorem dX12_mustWait_60 : decode cX12_mustWait 60 = .ok (.iload_n 1, 1) := by decide +kernel
theorem dX12_mustWait_61 : decode cX12_mustWait 61 = .ok (.iaload, 1) := by decide +kernel
theorem dX12_mustWait_62 : decode cX12_mustWait 62 = .ok (.bipush 16, 2) := by decide +kernel
theorem dX12_mustWait_64 : decode cX12_mustWait 64 = .ok (.if_icmp .ne 10, 3) := by decide +kernel
theorem dX12_mustWait_67 : decode cX12_mustWait 67 = .ok (.aload_n 0, 1) := by decide +kernel
theorem dX12_mustWait_68 : decode cX12_mustWait 68 = .ok (.getfield 278, 3) := by decide +kernel
theorem dX12_mustWait_71 : decode cX12_mustWait 71 = .ok (.iload_n 1, 1) := by decide +kernel
theorem dX12_mustWait_72 : decode cX12_mustWait 72 = .ok (.iconst 3, 1) := by decide +kernel
theorem dX12_mustWait_73 : decode cX12_mustWait 73 = .ok (.iastore, 1) := by decide +kernel
theorem dX12_mustWait_74 : decode cX12_mustWait 74 = .ok (.aload_n 0, 1) := by decide +kernel
theorem dX12_mustWait_75 : decode cX12_mustWait 75 = .ok (.getfield 278, 3) := by decide +kernel
theorem dX12_mustWait_78 : decode cX12_mustWait 78 = .ok (.iload_n 1, 1) := by decide +kernel
theorem dX12_mustWait_79 : decode cX12_mustWait 79 = .ok (.iaload, 1) := by decide +kernel
theorem dX12_mustWait_80 : decode cX12_mustWait 80 = .ok (.iconst 1, 1) := by decide +kernel
theorem dX12_mustWait_81 : decode cX12_mustWait 81 = .ok (.if_icmp .eq 7, 3) := by decide +kernel
theorem dX12_mustWait_84 : decode cX12_mustWait 84 = .ok (.iconst 1, 1) := by decide +kernel
theorem dX12_mustWait_85 : decode cX12_mustWait 85 = .ok (.goto 4, 3) := by decide +kernel
theorem dX12_mustWait_88 : decode cX12_mustWait 88 = .ok (.iconst 0, 1) := by decide +kernel
theorem dX12_mustWait_89 : decode cX12_mustWait 89 = .ok (.ireturn, 1) := by decide +kernel
theorem dX12_memory__0 : decode cX12_memory_ 0 = .ok (.aload_n 0, 1) := by decide +kernel
theorem dX12_memory__1 : decode cX12_memory_ 1 = .ok (.getfield 438, 3) := by decide +kernel
theorem dX12_memory__4 : decode cX12_memory_ 4 = .ok (.bipush 127, 2) := by decide +kernel
theorem dX12_memory__6 : decode cX12_memory_ 6 = .ok (.iand, 1) := by decide +kernel
theorem dX12_memory__7 : decode cX12_memory_ 7 = .ok (.aload_n 0, 1) := by decide +kernel
theorem dX12_memory__8 : decode cX12_memory_ 8 = .ok (.getfield 438, 3) := by decide +kernel
theorem dX12_memory__11 : decode cX12_memory_ 11 = .ok (.sipush 128, 3) := by decide +kernel
theorem dX12_memory__14 : decode cX12_memory_ 14 = .ok (.iand, 1) := by decide +kernel
theorem dX12_memory__15 : decode cX12_memory_ 15 = .ok (.ifCond .ne 7, 3) := by decide +kernel
theorem dX12_memory__18 : decode cX12_memory_ 18 = .ok (.iconst 0, 1) := by decide +kernel
theorem dX12_memory__19 : decode cX12_memory_ 19 = .ok (.goto 8, 3) := by decide +kernel
theorem dX12_memory__22 : decode cX12_memory_ 22 = .ok (.iload_n 3, 1) := by decide +kernel
theorem dX12_memory__23 : decode cX12_memory_ 23 = .ok (.sipush 3968, 3) := by decide +kernel
theorem dX12_memory__26 : decode cX12_memory_ 26 = .ok (.iand, 1) := by decide +kernel
theorem dX12_memory__27 : decode cX12_memory_ 27 = .ok (.ior, 1) := by decide +kernel
theorem dX12_memory__28 : decode cX12_memory_ 28 = .ok (.istore 4, 2) := by decide +kernel
theorem dX12_memory__30 : decode cX12_memory_ 30 = .ok (.aload_n 0, 1) := by decide +kernel
theorem dX12_memory__31 : decode cX12_memory_ 31 = .ok (.getfield 438, 3) := by decide +kernel
theorem dX12_memory__34 : decode cX12_memory_ 34 = .ok (.sipush 256, 3) := by decide +kernel
theorem dX12_memory__37 : decode cX12_memory_ 37 = .ok (.iand, 1) := by decide +kernel
theorem dX12_memory__38 : decode cX12_memory_ 38 = .ok (.ifCond .eq 40, 3) := by decide +kernel
theorem dX12_memory__41 : decode cX12_memory_ 41 = .ok (.iload 4, 2) := by decide +kernel
theorem dX12_memory__43 : decode cX12_memory_ 43 = .ok (.bipush 8, 2) := by decide +kernel
theorem dX12_memory__45 : decode cX12_memory_ 45 = .ok (.bipush 15, 2) := by decide +kernel
theorem dX12_memory__47 : decode cX12_memory_ 47 = .ok (.invokestatic 15, 3) := by decide +kernel
theorem dX12_memory__50 : decode cX12_memory_ 50 = .ok (.ifCond .eq 19, 3) := by decide +kernel
theorem dX12_memory__53 : decode cX12_memory_ 53 = .ok (.aload_n 0, 1) := by decide +kernel
theorem dX12_memory__54 : decode cX12_memory_ 54 = .ok (.iload_n 1, 1) := by decide +kernel
theorem dX12_memory__55 : decode cX12_memory_ 55 = .ok (.iload 4, 2) := by decide +kernel
theorem dX12_memory__57 : decode cX12_memory_ 57 = .ok (.aload_n 0, 1) := by decide +kernel
theorem dX12_memory__58 : decode cX12_memory_ 58 = .ok (.iload_n 1, 1) := by decide +kernel
theorem dX12_memory__59 : decode cX12_memory_ 59 = .ok (.iload 4, 2) := by decide +kernel
theorem dX12_memory__61 : decode cX12_memory_ 61 = .ok (.invokevirtual 399, 3) := by decide +kernel
theorem dX12_memory__64 : decode cX12_memory_ 64 = .ok (.iconst 1, 1) := by decide +kernel
theorem dX12_memory__65 : decode cX12_memory_ 65 = .ok (.iadd, 1) := by decide +kernel
theorem dX12_memory__66 : decode cX12_memory_ 66 = .ok (.invokevirtual 368, 3) := by decide +kernel
theorem dX12_memory__69 : decode cX12_memory_ 69 = .ok (.aload_n 0, 1) := by decide +kernel
theorem dX12_memory__70 : decode cX12_memory_ 70 = .ok (.iload_n 1, 1) := by decide +kernel
theorem dX12_memory__71 : decode cX12_memory_ 71 = .ok (.iload 4, 2) := by decide +kernel
theorem dX12_memory__73 : decode cX12_memory_ 73 = .ok (.invokevirtual 399, 3) := by decide +kernel
theorem dX12_memory__76 : decode cX12_memory_ 76 = .ok (.istore 4, 2) := by decide +kernel
theorem dX12_memory__78 : decode cX12_memory_ 78 = .ok (.iload_n 2, 1) := by decide +kernel
theorem dX12_memory__79 : decode cX12_memory_ 79 = .ok (.tableswitch 192 0 4 #[33, 52, 105, 139, 162], 33) := by decide +kernel
theorem dX12_memory__112 : decode cX12_memory_ 112 = .ok (.aload_n 0, 1) := by decide +kernel
theorem dX12_memory__113 : decode cX12_memory_ 113 = .ok (.getfield 281, 3) := by decide +kernel
theorem dX12_memory__116 : decode cX12_memory_ 116 = .ok (.iload_n 1, 1) := by decide +kernel
theorem dX12_memory__117 : decode cX12_memory_ 117 = .ok (.dup2, 1) := by decide +kernel
theorem dX12_memory__118 : decode cX12_memory_ 118 = .ok (.iaload, 1) := by decide +kernel
theorem dX12_memory__119 : decode cX12_memory_ 119 = .ok (.aload_n 0, 1) := by decide +kernel
theorem dX12_memory__120 : decode cX12_memory_ 120 = .ok (.iload_n 1, 1) := by decide +kernel
theorem dX12_memory__121 : decode cX12_memory_ 121 = .ok (.iload 4, 2) := by decide +kernel
theorem dX12_memory__123 : decode cX12_memory_ 123 = .ok (.invokevirtual 399, 3) := by decide +kernel
theorem dX12_memory__126 : decode cX12_memory_ 126 = .ok (.iand, 1) := by decide +kernel
theorem dX12_memory__127 : decode cX12_memory_ 127 = .ok (.iastore, 1) := by decide +kernel
theorem dX12_memory__128 : decode cX12_memory_ 128 = .ok (.goto 151, 3) := by decide +kernel
theorem dX12_memory__131 : decode cX12_memory_ 131 = .ok (.aload_n 0, 1) := by decide +kernel
theorem dX12_memory__132 : decode cX12_memory_ 132 = .ok (.getfield 281, 3) := by decide +kernel
theorem dX12_memory__135 : decode cX12_memory_ 135 = .ok (.iload_n 1, 1) := by decide +kernel
