theorem dX12_user_139 : decode cX12_user 139 = .ok (.ireturn, 1) := by decide +kernel
theorem dX12_user_140 : decode cX12_user 140 = .ok (.aload_n 0, 1) := by decide +kernel
theorem dX12_user_141 : decode cX12_user 141 = .ok (.getfield 317, 3) := by decide +kernel
theorem dX12_user_144 : decode cX12_user 144 = .ok (.iload_n 1, 1) := by decide +kernel
theorem dX12_user_145 : decode cX12_user 145 = .ok (.iaload, 1) := by decide +kernel
theorem dX12_user_146 : decode cX12_user 146 = .ok (.ireturn, 1) := by decide +kernel
theorem dX12_user_147 : decode cX12_user 147 = .ok (.aload_n 0, 1) := by decide +kernel
theorem dX12_user_148 : decode cX12_user 148 = .ok (.getfield 275, 3) := by decide +kernel
theorem dX12_user_151 : decode cX12_user 151 = .ok (.iload_n 1, 1) := by decide +kernel
theorem dX12_user_152 : decode cX12_user 152 = .ok (.iaload, 1) := by decide +kernel
theorem dX12_user_153 : decode cX12_user 153 = .ok (.ireturn, 1) := by decide +kernel
theorem dX12_user_154 : decode cX12_user 154 = .ok (.iconst 0, 1) := by decide +kernel
theorem dX12_user_155 : decode cX12_user 155 = .ok (.istore_n 3, 1) := by decide +kernel
theorem dX12_user_156 : decode cX12_user 156 = .ok (.iload_n 3, 1) := by decide +kernel
theorem dX12_user_157 : decode cX12_user 157 = .ok (.aload_n 0, 1) := by decide +kernel
theorem dX12_user_158 : decode cX12_user 158 = .ok (.getfield 338, 3) := by decide +kernel
theorem dX12_user_161 : decode cX12_user 161 = .ok (.if_icmp .ge 21, 3) := by decide +kernel
theorem dX12_user_164 : decode cX12_user 164 = .ok (.aload_n 0, 1) := by decide +kernel
theorem dX12_user_165 : decode cX12_user 165 = .ok (.getfield 234, 3) := by decide +kernel
theorem dX12_user_168 : decode cX12_user 168 = .ok (.iload_n 3, 1) := by decide +kernel
theorem dX12_user_169 : decode cX12_user 169 = .ok (.iaload, 1) := by decide +kernel
theorem dX12_user_170 : decode cX12_user 170 = .ok (.iload_n 1, 1) := by decide +kernel
theorem dX12_user_171 : decode cX12_user 171 = .ok (.if_icmp .ne 5, 3) := by decide +kernel
theorem dX12_user_174 : decode cX12_user 174 = .ok (.iload_n 3, 1) := by decide +kernel
theorem dX12_user_175 : decode cX12_user 175 = .ok (.ireturn, 1) := by decide +kernel
theorem dX12_user_176 : decode cX12_user 176 = .ok (.iinc 3 1, 3) := by decide +kernel
theorem dX12_user_179 : decode cX12_user 179 = .ok (.goto (-23), 3) := by decide +kernel
theorem dX12_user_182 : decode cX12_user 182 = .ok (.iconst (-1), 1) := by decide +kernel
theorem dX12_user_183 : decode cX12_user 183 = .ok (.ireturn, 1) := by decide +kernel
theorem dX12_user_184 : decode cX12_user 184 = .ok (.aload_n 0, 1) := by decide +kernel
theorem dX12_user_185 : decode cX12_user 185 = .ok (.getfield 305, 3) := by decide +kernel
theorem dX12_user_188 : decode cX12_user 188 = .ok (.iload_n 1, 1) := by decide +kernel
theorem dX12_user_189 : decode cX12_user 189 = .ok (.iaload, 1) := by decide +kernel
theorem dX12_user_190 : decode cX12_user 190 = .ok (.ireturn, 1) := by decide +kernel
theorem dX12_user_191 : decode cX12_user 191 = .ok (.aload_n 0, 1) := by decide +kernel
theorem dX12_user_192 : decode cX12_user 192 = .ok (.getfield 293, 3) := by decide +kernel
theorem dX12_user_195 : decode cX12_user 195 = .ok (.iload_n 1, 1) := by decide +kernel
theorem dX12_user_196 : decode cX12_user 196 = .ok (.iaload, 1) := by decide +kernel
theorem dX12_user_197 : decode cX12_user 197 = .ok (.ireturn, 1) := by decide +kernel
theorem dX12_user_198 : decode cX12_user 198 = .ok (.aload_n 0, 1) := by decide +kernel
theorem dX12_user_199 : decode cX12_user 199 = .ok (.getfield 278, 3) := by decide +kernel
theorem dX12_user_202 : decode cX12_user 202 = .ok (.iload_n 1, 1) := by decide +kernel
theorem dX12_user_203 : decode cX12_user 203 = .ok (.iaload, 1) := by decide +kernel
theorem dX12_user_204 : decode cX12_user 204 = .ok (.iconst 4, 1) := by decide +kernel
theorem dX12_user_205 : decode cX12_user 205 = .ok (.if_icmp .ne 12, 3) := by decide +kernel
theorem dX12_user_208 : decode cX12_user 208 = .ok (.aload_n 0, 1) := by decide +kernel
theorem dX12_user_209 : decode cX12_user 209 = .ok (.getfield 323, 3) := by decide +kernel
theorem dX12_user_212 : decode cX12_user 212 = .ok (.iload_n 1, 1) := by decide +kernel
theorem dX12_user_213 : decode cX12_user 213 = .ok (.iaload, 1) := by decide +kernel
theorem dX12_user_214 : decode cX12_user 214 = .ok (.goto 4, 3) := by decide +kernel
theorem dX12_user_217 : decode cX12_user 217 = .ok (.iconst (-1), 1) := by decide +kernel
theorem dX12_user_218 : decode cX12_user 218 = .ok (.ireturn, 1) := by decide +kernel
theorem dX12_user_219 : decode cX12_user 219 = .ok (.aload_n 0, 1) := by decide +kernel
theorem dX12_user_220 : decode cX12_user 220 = .ok (.getfield 237, 3) := by decide +kernel
theorem dX12_user_223 : decode cX12_user 223 = .ok (.iload_n 1, 1) := by decide +kernel
theorem dX12_user_224 : decode cX12_user 224 = .ok (.if_icmp .ne 10, 3) := by decide +kernel
theorem dX12_user_227 : decode cX12_user 227 = .ok (.aload_n 0, 1) := by decide +kernel
theorem dX12_user_228 : decode cX12_user 228 = .ok (.getfield 432, 3) := by decide +kernel
theorem dX12_user_231 : decode cX12_user 231 = .ok (.goto 4, 3) := by decide +kernel
theorem dX12_user_234 : decode cX12_user 234 = .ok (.iconst (-1), 1) := by decide +kernel
theorem dX12_user_235 : decode cX12_user 235 = .ok (.ireturn, 1) := by decide +kernel
theorem dX12_user_236 : decode cX12_user 236 = .ok (.iconst (-1), 1) := by decide +kernel
theorem dX12_user_237 : decode cX12_user 237 = .ok (.ireturn, 1) := by decide +kernel
theorem dX12_look__0 : decode cX12_look_ 0 = .ok (.iload_n 1, 1) := by decide +kernel
theorem dX12_look__1 : decode cX12_look_ 1 = .ok (.tableswitch 165 0 12 #[67, 72, 77, 82, 98, 114, 130, 135, 140, 145, 150, 155, 160], 67) := by decide +kernel
theorem dX12_look__68 : decode cX12_look_ 68 = .ok (.aload_n 0, 1) := by decide +kernel
theorem dX12_look__69 : decode cX12_look_ 69 = .ok (.getfield 378, 3) := by decide +kernel
theorem dX12_look__72 : decode cX12_look_ 72 = .ok (.ireturn, 1) := by decide +kernel
theorem dX12_look__73 : decode cX12_look_ 73 = .ok (.aload_n 0, 1) := by decide +kernel
theorem dX12_look__74 : decode cX12_look_ 74 = .ok (.getfield 237, 3) := by decide +kernel
theorem dX12_look__77 : decode cX12_look_ 77 = .ok (.ireturn, 1) := by decide +kernel
theorem dX12_look__78 : decode cX12_look_ 78 = .ok (.aload_n 0, 1) := by decide +kernel
theorem dX12_look__79 : decode cX12_look_ 79 = .ok (.getfield 344, 3) := by decide +kernel
theorem dX12_look__82 : decode cX12_look_ 82 = .ok (.ireturn, 1) := by decide +kernel
theorem dX12_look__83 : decode cX12_look_ 83 = .ok (.aload_n 0, 1) := by decide +kernel
theorem dX12_look__84 : decode cX12_look_ 84 = .ok (.getfield 344, 3) := by decide +kernel
theorem dX12_look__87 : decode cX12_look_ 87 = .ok (.ifCond .ne 7, 3) := by decide +kernel
theorem dX12_look__90 : decode cX12_look_ 90 = .ok (.iconst (-1), 1) := by decide +kernel
theorem dX12_look__91 : decode cX12_look_ 91 = .ok (.goto 7, 3) := by decide +kernel
theorem dX12_look__94 : decode cX12_look_ 94 = .ok (.aload_n 0, 1) := by decide +kernel
theorem dX12_look__95 : decode cX12_look_ 95 = .ok (.getfield 347, 3) := by decide +kernel
theorem dX12_look__98 : decode cX12_look_ 98 = .ok (.ireturn, 1) := by decide +kernel
theorem dX12_look__99 : decode cX12_look_ 99 = .ok (.aload_n 0, 1) := by decide +kernel
theorem dX12_look__100 : decode cX12_look_ 100 = .ok (.getfield 344, 3) := by decide +kernel
theorem dX12_look__103 : decode cX12_look_ 103 = .ok (.ifCond .ne 7, 3) := by decide +kernel
theorem dX12_look__106 : decode cX12_look_ 106 = .ok (.iconst 0, 1) := by decide +kernel
theorem dX12_look__107 : decode cX12_look_ 107 = .ok (.goto 7, 3) := by decide +kernel
theorem dX12_look__110 : decode cX12_look_ 110 = .ok (.aload_n 0, 1) := by decide +kernel
theorem dX12_look__111 : decode cX12_look_ 111 = .ok (.getfield 393, 3) := by decide +kernel
theorem dX12_look__114 : decode cX12_look_ 114 = .ok (.ireturn, 1) := by decide +kernel
theorem dX12_look__115 : decode cX12_look_ 115 = .ok (.aload_n 0, 1) := by decide +kernel
theorem dX12_look__116 : decode cX12_look_ 116 = .ok (.getfield 344, 3) := by decide +kernel
theorem dX12_look__119 : decode cX12_look_ 119 = .ok (.ifCond .ne 7, 3) := by decide +kernel
theorem dX12_look__122 : decode cX12_look_ 122 = .ok (.iconst (-1), 1) := by decide +kernel
theorem dX12_look__123 : decode cX12_look_ 123 = .ok (.goto 7, 3) := by decide +kernel
theorem dX12_look__126 : decode cX12_look_ 126 = .ok (.aload_n 0, 1) := by decide +kernel
theorem dX12_look__127 : decode cX12_look_ 127 = .ok (.getfield 396, 3) := by decide +kernel
theorem dX12_look__130 : decode cX12_look_ 130 = .ok (.ireturn, 1) := by decide +kernel
theorem dX12_look__131 : decode cX12_look_ 131 = .ok (.aload_n 0, 1) := by decide +kernel
theorem dX12_look__132 : decode cX12_look_ 132 = .ok (.getfield 408, 3) := by decide +kernel
theorem dX12_look__135 : decode cX12_look_ 135 = .ok (.ireturn, 1) := by decide +kernel
theorem dX12_look__136 : decode cX12_look_ 136 = .ok (.aload_n 0, 1) := by decide +kernel
theorem dX12_look__137 : decode cX12_look_ 137 = .ok (.getfield 405, 3) := by decide +kernel
theorem dX12_look__140 : decode cX12_look_ 140 = .ok (.ireturn, 1) := by decide +kernel
theorem dX12_look__141 : decode cX12_look_ 141 = .ok (.aload_n 0, 1) := by decide +kernel
theorem dX12_look__142 : decode cX12_look_ 142 = .ok (.getfield 429, 3) := by decide +kernel
theorem dX12_look__145 : decode cX12_look_ 145 = .ok (.ireturn, 1) := by decide +kernel
theorem dX12_look__146 : decode cX12_look_ 146 = .ok (.aload_n 0, 1) := by decide +kernel
theorem dX12_look__147 : decode cX12_look_ 147 = .ok (.getfield 338, 3) := by decide +kernel
theorem dX12_look__150 : decode cX12_look_ 150 = .ok (.ireturn, 1) := by decide +kernel
theorem dX12_look__151 : decode cX12_look_ 151 = .ok (.aload_n 0, 1) := by decide +kernel
theorem dX12_look__152 : decode cX12_look_ 152 = .ok (.getfield 372, 3) := by decide +kernel
theorem dX12_look__155 : decode cX12_look_ 155 = .ok (.ireturn, 1) := by decide +kernel
theorem dX12_look__156 : decode cX12_look_ 156 = .ok (.aload_n 0, 1) := by decide +kernel
theorem dX12_look__157 : decode cX12_look_ 157 = .ok (.getfield 7, 3) := by decide +kernel
theorem dX12_look__160 : decode cX12_look_ 160 = .ok (.ireturn, 1) := by decide +kernel
theorem dX12_look__161 : decode cX12_look_ 161 = .ok (.aload_n 0, 1) := by decide +kernel
theorem dX12_look__162 : decode cX12_look_ 162 = .ok (.getfield 411, 3) := by decide +kernel
theorem dX12_look__165 : decode cX12_look_ 165 = .ok (.ireturn, 1) := by decide +kernel
theorem dX12_look__166 : decode cX12_look_ 166 = .ok (.iconst (-1), 1) := by decide +kernel
theorem dX12_look__167 : decode cX12_look_ 167 = .ok (.ireturn, 1) := by decide +kernel
theorem dX12_word___0 : decode cX12_word__ 0 = .ok (.aload_n 0, 1) := by decide +kernel
theorem dX12_word___1 : decode cX12_word__ 1 = .ok (.iload_n 1, 1) := by decide +kernel
theorem dX12_word___2 : decode cX12_word__ 2 = .ok (.invokevirtual 341, 3) := by decide +kernel
theorem dX12_word___5 : decode cX12_word__ 5 = .ok (.ifCond .eq 10, 3) := by decide +kernel
theorem dX12_word___8 : decode cX12_word__ 8 = .ok (.iload_n 2, 1) := by decide +kernel
theorem dX12_word___9 : decode cX12_word__ 9 = .ok (.invokestatic 359, 3) := by decide +kernel
theorem dX12_word___12 : decode cX12_word__ 12 = .ok (.ifCond .ne 5, 3) := by decide +kernel
theorem dX12_word___15 : decode cX12_word__ 15 = .ok (.iconst (-1), 1) := by decide +kernel
theorem dX12_word___16 : decode cX12_word__ 16 = .ok (.ireturn, 1) := by decide +kernel
theorem dX12_word___17 : decode cX12_word__ 17 = .ok (.aload_n 0, 1) := by decide +kernel
theorem dX12_word___18 : decode cX12_word__ 18 = .ok (.getfield 275, 3) := by decide +kernel
theorem dX12_word___21 : decode cX12_word__ 21 = .ok (.iload_n 1, 1) := by decide +kernel
theorem dX12_word___22 : decode cX12_word__ 22 = .ok (.iaload, 1) := by decide +kernel
theorem dX12_word___23 : decode cX12_word__ 23 = .ok (.iconst (-1), 1) := by decide +kernel
theorem dX12_word___24 : decode cX12_word__ 24 = .ok (.if_icmp .ne 14, 3) := by decide +kernel
theorem dX12_word___27 : decode cX12_word__ 27 = .ok (.aload_n 0, 1) := by decide +kernel
theorem dX12_word___28 : decode cX12_word__ 28 = .ok (.getfield 260, 3) := by decide +kernel
theorem dX12_word___31 : decode cX12_word__ 31 = .ok (.iload_n 1, 1) := by decide +kernel
theorem dX12_word___32 : decode cX12_word__ 32 = .ok (.aaload, 1) := by decide +kernel
theorem dX12_word___33 : decode cX12_word__ 33 = .ok (.iload_n 2, 1) := by decide +kernel
theorem dX12_word___34 : decode cX12_word__ 34 = .ok (.iaload, 1) := by decide +kernel
theorem dX12_word___35 : decode cX12_word__ 35 = .ok (.goto 16, 3) := by decide +kernel
theorem dX12_word___38 : decode cX12_word__ 38 = .ok (.aload_n 0, 1) := by decide +kernel
theorem dX12_word___39 : decode cX12_word__ 39 = .ok (.getfield 257, 3) := by decide +kernel
theorem dX12_word___42 : decode cX12_word__ 42 = .ok (.aload_n 0, 1) := by decide +kernel
theorem dX12_word___43 : decode cX12_word__ 43 = .ok (.getfield 275, 3) := by decide +kernel
theorem dX12_word___46 : decode cX12_word__ 46 = .ok (.iload_n 1, 1) := by decide +kernel
theorem dX12_word___47 : decode cX12_word__ 47 = .ok (.iaload, 1) := by decide +kernel
theorem dX12_word___48 : decode cX12_word__ 48 = .ok (.aaload, 1) := by decide +kernel
theorem dX12_word___49 : decode cX12_word__ 49 = .ok (.iload_n 2, 1) := by decide +kernel
theorem dX12_word___50 : decode cX12_word__ 50 = .ok (.iaload, 1) := by decide +kernel
theorem dX12_word___51 : decode cX12_word__ 51 = .ok (.ireturn, 1) := by decide +kernel
theorem dX12_core_0 : decode cX12_core 0 = .ok (.iload_n 1, 1) := by decide +kernel
theorem dX12_core_1 : decode cX12_core 1 = .ok (.iconst 0, 1) := by decide +kernel
theorem dX12_core_2 : decode cX12_core 2 = .ok (.aload_n 0, 1) := by decide +kernel
theorem dX12_core_3 : decode cX12_core 3 = .ok (.getfield 246, 3) := by decide +kernel
theorem dX12_core_6 : decode cX12_core 6 = .ok (.iconst 1, 1) := by decide +kernel
theorem dX12_core_7 : decode cX12_core 7 = .ok (.isub, 1) := by decide +kernel
theorem dX12_core_8 : decode cX12_core 8 = .ok (.invokestatic 15, 3) := by decide +kernel
theorem dX12_core_11 : decode cX12_core 11 = .ok (.ifCond .eq 21, 3) := by decide +kernel
theorem dX12_core_14 : decode cX12_core 14 = .ok (.iload_n 2, 1) := by decide +kernel
theorem dX12_core_15 : decode cX12_core 15 = .ok (.invokestatic 359, 3) := by decide +kernel
theorem dX12_core_18 : decode cX12_core 18 = .ok (.ifCond .eq 14, 3) := by decide +kernel
theorem dX12_core_21 : decode cX12_core 21 = .ok (.aload_n 0, 1) := by decide +kernel
theorem dX12_core_22 : decode cX12_core 22 = .ok (.getfield 257, 3) := by decide +kernel
theorem dX12_core_25 : decode cX12_core 25 = .ok (.iload_n 1, 1) := by decide +kernel
theorem dX12_core_26 : decode cX12_core 26 = .ok (.aaload, 1) := by decide +kernel
theorem dX12_core_27 : decode cX12_core 27 = .ok (.iload_n 2, 1) := by decide +kernel
theorem dX12_core_28 : decode cX12_core 28 = .ok (.iaload, 1) := by decide +kernel
theorem dX12_core_29 : decode cX12_core 29 = .ok (.goto 4, 3) := by decide +kernel
theorem dX12_core_32 : decode cX12_core 32 = .ok (.iconst (-1), 1) := by decide +kernel
theorem dX12_core_33 : decode cX12_core 33 = .ok (.ireturn, 1) := by decide +kernel
theorem dX12_drum_0 : decode cX12_drum 0 = .ok (.aload_n 0, 1) := by decide +kernel
theorem dX12_drum_1 : decode cX12_drum 1 = .ok (.iload_n 1, 1) := by decide +kernel
theorem dX12_drum_2 : decode cX12_drum 2 = .ok (.invokevirtual 341, 3) := by decide +kernel
theorem dX12_drum_5 : decode cX12_drum 5 = .ok (.ifCond .eq 21, 3) := by decide +kernel
theorem dX12_drum_8 : decode cX12_drum 8 = .ok (.iload_n 2, 1) := by decide +kernel
theorem dX12_drum_9 : decode cX12_drum 9 = .ok (.invokestatic 359, 3) := by decide +kernel
theorem dX12_drum_12 : decode cX12_drum 12 = .ok (.ifCond .eq 14, 3) := by decide +kernel
theorem dX12_drum_15 : decode cX12_drum 15 = .ok (.aload_n 0, 1) := by decide +kernel
theorem dX12_drum_16 : decode cX12_drum 16 = .ok (.getfield 260, 3) := by decide +kernel
theorem dX12_drum_19 : decode cX12_drum 19 = .ok (.iload_n 1, 1) := by decide +kernel
theorem dX12_drum_20 : decode cX12_drum 20 = .ok (.aaload, 1) := by decide +kernel
theorem dX12_drum_21 : decode cX12_drum 21 = .ok (.iload_n 2, 1) := by decide +kernel
theorem dX12_drum_22 : decode cX12_drum 22 = .ok (.iaload, 1) := by decide +kernel
theorem dX12_drum_23 : decode cX12_drum 23 = .ok (.goto 4, 3) := by decide +kernel
theorem dX12_drum_26 : decode cX12_drum 26 = .ok (.iconst (-1), 1) := by decide +kernel
theorem dX12_drum_27 : decode cX12_drum 27 = .ok (.ireturn, 1) := by decide +kernel
theorem dX12_slot_0 : decode cX12_slot 0 = .ok (.iload_n 1, 1) := by decide +kernel
theorem dX12_slot_1 : decode cX12_slot 1 = .ok (.iconst 0, 1) := by decide +kernel
theorem dX12_slot_2 : decode cX12_slot 2 = .ok (.aload_n 0, 1) := by decide +kernel
theorem dX12_slot_3 : decode cX12_slot 3 = .ok (.getfield 246, 3) := by decide +kernel
theorem dX12_slot_6 : decode cX12_slot 6 = .ok (.iconst 1, 1) := by decide +kernel
theorem dX12_slot_7 : decode cX12_slot 7 = .ok (.isub, 1) := by decide +kernel
theorem dX12_slot_8 : decode cX12_slot 8 = .ok (.invokestatic 15, 3) := by decide +kernel
theorem dX12_slot_11 : decode cX12_slot 11 = .ok (.ifCond .ne 5, 3) := by decide +kernel
theorem dX12_slot_14 : decode cX12_slot 14 = .ok (.iconst (-1), 1) := by decide +kernel
theorem dX12_slot_15 : decode cX12_slot 15 = .ok (.ireturn, 1) := by decide +kernel
theorem dX12_slot_16 : decode cX12_slot 16 = .ok (.iload_n 2, 1) := by decide +kernel
theorem dX12_slot_17 : decode cX12_slot 17 = .ok (.tableswitch 64 0 2 #[27, 34, 49], 27) := by decide +kernel
theorem dX12_slot_44 : decode cX12_slot 44 = .ok (.aload_n 0, 1) := by decide +kernel
theorem dX12_slot_45 : decode cX12_slot 45 = .ok (.getfield 266, 3) := by decide +kernel
theorem dX12_slot_48 : decode cX12_slot 48 = .ok (.iload_n 1, 1) := by decide +kernel
theorem dX12_slot_49 : decode cX12_slot 49 = .ok (.iaload, 1) := by decide +kernel
theorem dX12_slot_50 : decode cX12_slot 50 = .ok (.ireturn, 1) := by decide +kernel
theorem dX12_slot_51 : decode cX12_slot 51 = .ok (.aload_n 0, 1) := by decide +kernel
theorem dX12_slot_52 : decode cX12_slot 52 = .ok (.getfield 269, 3) := by decide +kernel
theorem dX12_slot_55 : decode cX12_slot 55 = .ok (.iload_n 1, 1) := by decide +kernel
theorem dX12_slot_56 : decode cX12_slot 56 = .ok (.baload, 1) := by decide +kernel
theorem dX12_slot_57 : decode cX12_slot 57 = .ok (.ifCond .eq 7, 3) := by decide +kernel
theorem dX12_slot_60 : decode cX12_slot 60 = .ok (.iconst 1, 1) := by decide +kernel
theorem dX12_slot_61 : decode cX12_slot 61 = .ok (.goto 4, 3) := by decide +kernel
theorem dX12_slot_64 : decode cX12_slot 64 = .ok (.iconst 0, 1) := by decide +kernel
theorem dX12_slot_65 : decode cX12_slot 65 = .ok (.ireturn, 1) := by decide +kernel
theorem dX12_slot_66 : decode cX12_slot 66 = .ok (.aload_n 0, 1) := by decide +kernel
theorem dX12_slot_67 : decode cX12_slot 67 = .ok (.getfield 272, 3) := by decide +kernel
theorem dX12_slot_70 : decode cX12_slot 70 = .ok (.iload_n 1, 1) := by decide +kernel
theorem dX12_slot_71 : decode cX12_slot 71 = .ok (.baload, 1) := by decide +kernel
theorem dX12_slot_72 : decode cX12_slot 72 = .ok (.ifCond .eq 7, 3) := by decide +kernel
theorem dX12_slot_75 : decode cX12_slot 75 = .ok (.iconst 1, 1) := by decide +kernel
theorem dX12_slot_76 : decode cX12_slot 76 = .ok (.goto 4, 3) := by decide +kernel
theorem dX12_slot_79 : decode cX12_slot 79 = .ok (.iconst 0, 1) := by decide +kernel
theorem dX12_slot_80 : decode cX12_slot 80 = .ok (.ireturn, 1) := by decide +kernel
theorem dX12_slot_81 : decode cX12_slot 81 = .ok (.iconst (-1), 1) := by decide +kernel
theorem dX12_slot_82 : decode cX12_slot 82 = .ok (.ireturn, 1) := by decide +kernel
theorem dX12_block_0 : decode cX12_block 0 = .ok (.aload_n 0, 1) := by decide +kernel
theorem dX12_block_1 : decode cX12_block 1 = .ok (.iload_n 1, 1) := by decide +kernel
theorem dX12_block_2 : decode cX12_block 2 = .ok (.invokevirtual 341, 3) := by decide +kernel
theorem dX12_block_5 : decode cX12_block 5 = .ok (.ifCond .eq 40, 3) := by decide +kernel
theorem dX12_block_8 : decode cX12_block 8 = .ok (.iload_n 2, 1) := by decide +kernel
theorem dX12_block_9 : decode cX12_block 9 = .ok (.iconst 0, 1) := by decide +kernel
theorem dX12_block_10 : decode cX12_block 10 = .ok (.bipush 7, 2) := by decide +kernel
theorem dX12_block_12 : decode cX12_block 12 = .ok (.invokestatic 15, 3) := by decide +kernel
theorem dX12_block_15 : decode cX12_block 15 = .ok (.ifCond .eq 30, 3) := by decide +kernel
theorem dX12_block_18 : decode cX12_block 18 = .ok (.iload_n 3, 1) := by decide +kernel
theorem dX12_block_19 : decode cX12_block 19 = .ok (.iconst 0, 1) := by decide +kernel
theorem dX12_block_20 : decode cX12_block 20 = .ok (.bipush 127, 2) := by decide +kernel
theorem dX12_block_22 : decode cX12_block 22 = .ok (.invokestatic 15, 3) := by decide +kernel
theorem dX12_block_25 : decode cX12_block 25 = .ok (.ifCond .eq 20, 3) := by decide +kernel
theorem dX12_block_28 : decode cX12_block 28 = .ok (.aload_n 0, 1) := by decide +kernel
theorem dX12_block_29 : decode cX12_block 29 = .ok (.getfield 263, 3) := by decide +kernel
theorem dX12_block_32 : decode cX12_block 32 = .ok (.iload_n 1, 1) := by decide +kernel
theorem dX12_block_33 : decode cX12_block 33 = .ok (.aaload, 1) := by decide +kernel
theorem dX12_block_34 : decode cX12_block 34 = .ok (.sipush 128, 3) := by decide +kernel
theorem dX12_block_37 : decode cX12_block 37 = .ok (.iload_n 2, 1) := by decide +kernel
theorem dX12_block_38 : decode cX12_block 38 = .ok (.imul, 1) := by decide +kernel
theorem dX12_block_39 : decode cX12_block 39 = .ok (.iload_n 3, 1) := by decide +kernel
theorem dX12_block_40 : decode cX12_block 40 = .ok (.iadd, 1) := by decide +kernel
theorem dX12_block_41 : decode cX12_block 41 = .ok (.iaload, 1) := by decide +kernel
theorem dX12_block_42 : decode cX12_block 42 = .ok (.goto 4, 3) := by decide +kernel
theorem dX12_block_45 : decode cX12_block 45 = .ok (.iconst (-1), 1) := by decide +kernel
theorem dX12_block_46 : decode cX12_block 46 = .ok (.ireturn, 1) := by decide +kernel
theorem dX12_paper_0 : decode cX12_paper 0 = .ok (.aload_n 0, 1) := by decide +kernel
theorem dX12_paper_1 : decode cX12_paper 1 = .ok (.iload_n 1, 1) := by decide +kernel
theorem dX12_paper_2 : decode cX12_paper 2 = .ok (.invokevirtual 341, 3) := by decide +kernel
theorem dX12_paper_5 : decode cX12_paper 5 = .ok (.ifCond .eq 36, 3) := by decide +kernel
theorem dX12_paper_8 : decode cX12_paper 8 = .ok (.iload_n 2, 1) := by decide +kernel
theorem dX12_paper_9 : decode cX12_paper 9 = .ok (.iconst 0, 1) := by decide +kernel
theorem dX12_paper_10 : decode cX12_paper 10 = .ok (.aload_n 0, 1) := by decide +kernel
theorem dX12_paper_11 : decode cX12_paper 11 = .ok (.getfield 317, 3) := by decide +kernel
theorem dX12_paper_14 : decode cX12_paper 14 = .ok (.iload_n 1, 1) := by decide +kernel
theorem dX12_paper_15 : decode cX12_paper 15 = .ok (.iaload, 1) := by decide +kernel
theorem dX12_paper_16 : decode cX12_paper 16 = .ok (.sipush 500, 3) := by decide +kernel
theorem dX12_paper_19 : decode cX12_paper 19 = .ok (.invokestatic 475, 3) := by decide +kernel
theorem dX12_paper_22 : decode cX12_paper 22 = .ok (.iconst 1, 1) := by decide +kernel
theorem dX12_paper_23 : decode cX12_paper 23 = .ok (.isub, 1) := by decide +kernel
theorem dX12_paper_24 : decode cX12_paper 24 = .ok (.invokestatic 15, 3) := by decide +kernel
theorem dX12_paper_27 : decode cX12_paper 27 = .ok (.ifCond .eq 14, 3) := by decide +kernel
theorem dX12_paper_30 : decode cX12_paper 30 = .ok (.aload_n 0, 1) := by decide +kernel
theorem dX12_paper_31 : decode cX12_paper 31 = .ok (.getfield 314, 3) := by decide +kernel
theorem dX12_paper_34 : decode cX12_paper 34 = .ok (.iload_n 1, 1) := by decide +kernel
theorem dX12_paper_35 : decode cX12_paper 35 = .ok (.aaload, 1) := by decide +kernel
theorem dX12_paper_36 : decode cX12_paper 36 = .ok (.iload_n 2, 1) := by decide +kernel
theorem dX12_paper_37 : decode cX12_paper 37 = .ok (.iaload, 1) := by decide +kernel
theorem dX12_paper_38 : decode cX12_paper 38 = .ok (.goto 4, 3) := by decide +kernel
theorem dX12_paper_41 : decode cX12_paper 41 = .ok (.iconst (-1), 1) := by decide +kernel
theorem dX12_paper_42 : decode cX12_paper 42 = .ok (.ireturn, 1) := by decide +kernel
