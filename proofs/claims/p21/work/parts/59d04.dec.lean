theorem dX3_step_93 : decode cX3_step 93 = .ok (.iload 4, 2) := by decide +kernel
theorem dX3_step_95 : decode cX3_step 95 = .ok (.invokestatic 37, 3) := by decide +kernel
theorem dX3_step_98 : decode cX3_step 98 = .ok (.iconst 1, 1) := by decide +kernel
theorem dX3_step_99 : decode cX3_step 99 = .ok (.ireturn, 1) := by decide +kernel
theorem dX3_step_100 : decode cX3_step 100 = .ok (.iload 4, 2) := by decide +kernel
theorem dX3_step_102 : decode cX3_step 102 = .ok (.iconst 1, 1) := by decide +kernel
theorem dX3_step_103 : decode cX3_step 103 = .ok (.iand, 1) := by decide +kernel
theorem dX3_step_104 : decode cX3_step 104 = .ok (.ifCond .ne 11, 3) := by decide +kernel
theorem dX3_step_107 : decode cX3_step 107 = .ok (.aload_n 1, 1) := by decide +kernel
theorem dX3_step_108 : decode cX3_step 108 = .ok (.iload 4, 2) := by decide +kernel
theorem dX3_step_110 : decode cX3_step 110 = .ok (.invokestatic 41, 3) := by decide +kernel
theorem dX3_step_113 : decode cX3_step 113 = .ok (.iconst 1, 1) := by decide +kernel
theorem dX3_step_114 : decode cX3_step 114 = .ok (.ireturn, 1) := by decide +kernel
theorem dX3_step_115 : decode cX3_step 115 = .ok (.aload_n 0, 1) := by decide +kernel
theorem dX3_step_116 : decode cX3_step 116 = .ok (.aload_n 1, 1) := by decide +kernel
theorem dX3_step_117 : decode cX3_step 117 = .ok (.aload_n 2, 1) := by decide +kernel
theorem dX3_step_118 : decode cX3_step 118 = .ok (.iload 4, 2) := by decide +kernel
theorem dX3_step_120 : decode cX3_step 120 = .ok (.invokevirtual 44, 3) := by decide +kernel
theorem dX3_step_123 : decode cX3_step 123 = .ok (.ireturn, 1) := by decide +kernel
theorem dX3_addressOf_0 : decode cX3_addressOf 0 = .ok (.iload_n 2, 1) := by decide +kernel
theorem dX3_addressOf_1 : decode cX3_addressOf 1 = .ok (.bipush 127, 2) := by decide +kernel
theorem dX3_addressOf_3 : decode cX3_addressOf 3 = .ok (.iand, 1) := by decide +kernel
theorem dX3_addressOf_4 : decode cX3_addressOf 4 = .ok (.istore_n 3, 1) := by decide +kernel
theorem dX3_addressOf_5 : decode cX3_addressOf 5 = .ok (.iload_n 2, 1) := by decide +kernel
theorem dX3_addressOf_6 : decode cX3_addressOf 6 = .ok (.sipush 128, 3) := by decide +kernel
theorem dX3_addressOf_9 : decode cX3_addressOf 9 = .ok (.iand, 1) := by decide +kernel
theorem dX3_addressOf_10 : decode cX3_addressOf 10 = .ok (.ifCond .eq 14, 3) := by decide +kernel
theorem dX3_addressOf_13 : decode cX3_addressOf 13 = .ok (.iload_n 3, 1) := by decide +kernel
theorem dX3_addressOf_14 : decode cX3_addressOf 14 = .ok (.aload_n 0, 1) := by decide +kernel
theorem dX3_addressOf_15 : decode cX3_addressOf 15 = .ok (.getfield 15, 3) := by decide +kernel
theorem dX3_addressOf_18 : decode cX3_addressOf 18 = .ok (.sipush 3968, 3) := by decide +kernel
theorem dX3_addressOf_21 : decode cX3_addressOf 21 = .ok (.iand, 1) := by decide +kernel
theorem dX3_addressOf_22 : decode cX3_addressOf 22 = .ok (.ior, 1) := by decide +kernel
theorem dX3_addressOf_23 : decode cX3_addressOf 23 = .ok (.istore_n 3, 1) := by decide +kernel
theorem dX3_addressOf_24 : decode cX3_addressOf 24 = .ok (.iload_n 2, 1) := by decide +kernel
theorem dX3_addressOf_25 : decode cX3_addressOf 25 = .ok (.sipush 256, 3) := by decide +kernel
theorem dX3_addressOf_28 : decode cX3_addressOf 28 = .ok (.iand, 1) := by decide +kernel
theorem dX3_addressOf_29 : decode cX3_addressOf 29 = .ok (.ifCond .ne 5, 3) := by decide +kernel
theorem dX3_addressOf_32 : decode cX3_addressOf 32 = .ok (.iload_n 3, 1) := by decide +kernel
theorem dX3_addressOf_33 : decode cX3_addressOf 33 = .ok (.ireturn, 1) := by decide +kernel
theorem dX3_addressOf_34 : decode cX3_addressOf 34 = .ok (.iload_n 3, 1) := by decide +kernel
theorem dX3_addressOf_35 : decode cX3_addressOf 35 = .ok (.bipush 8, 2) := by decide +kernel
theorem dX3_addressOf_37 : decode cX3_addressOf 37 = .ok (.if_icmp .lt 26, 3) := by decide +kernel
theorem dX3_addressOf_40 : decode cX3_addressOf 40 = .ok (.iload_n 3, 1) := by decide +kernel
theorem dX3_addressOf_41 : decode cX3_addressOf 41 = .ok (.bipush 15, 2) := by decide +kernel
theorem dX3_addressOf_43 : decode cX3_addressOf 43 = .ok (.if_icmp .gt 20, 3) := by decide +kernel
theorem dX3_addressOf_46 : decode cX3_addressOf 46 = .ok (.aload_n 1, 1) := by decide +kernel
theorem dX3_addressOf_47 : decode cX3_addressOf 47 = .ok (.iload_n 3, 1) := by decide +kernel
theorem dX3_addressOf_48 : decode cX3_addressOf 48 = .ok (.aload_n 1, 1) := by decide +kernel
theorem dX3_addressOf_49 : decode cX3_addressOf 49 = .ok (.getfield 23, 3) := by decide +kernel
theorem dX3_addressOf_52 : decode cX3_addressOf 52 = .ok (.iload_n 3, 1) := by decide +kernel
theorem dX3_addressOf_53 : decode cX3_addressOf 53 = .ok (.iaload, 1) := by decide +kernel
theorem dX3_addressOf_54 : decode cX3_addressOf 54 = .ok (.iconst 1, 1) := by decide +kernel
theorem dX3_addressOf_55 : decode cX3_addressOf 55 = .ok (.iadd, 1) := by decide +kernel
theorem dX3_addressOf_56 : decode cX3_addressOf 56 = .ok (.sipush 4095, 3) := by decide +kernel
theorem dX3_addressOf_59 : decode cX3_addressOf 59 = .ok (.iand, 1) := by decide +kernel
theorem dX3_addressOf_60 : decode cX3_addressOf 60 = .ok (.invokevirtual 48, 3) := by decide +kernel
theorem dX3_addressOf_63 : decode cX3_addressOf 63 = .ok (.aload_n 1, 1) := by decide +kernel
theorem dX3_addressOf_64 : decode cX3_addressOf 64 = .ok (.getfield 23, 3) := by decide +kernel
theorem dX3_addressOf_67 : decode cX3_addressOf 67 = .ok (.iload_n 3, 1) := by decide +kernel
theorem dX3_addressOf_68 : decode cX3_addressOf 68 = .ok (.iaload, 1) := by decide +kernel
theorem dX3_addressOf_69 : decode cX3_addressOf 69 = .ok (.sipush 4095, 3) := by decide +kernel
theorem dX3_addressOf_72 : decode cX3_addressOf 72 = .ok (.iand, 1) := by decide +kernel
theorem dX3_addressOf_73 : decode cX3_addressOf 73 = .ok (.ireturn, 1) := by decide +kernel
theorem dX3_refer_0 : decode cX3_refer 0 = .ok (.aload_n 0, 1) := by decide +kernel
theorem dX3_refer_1 : decode cX3_refer 1 = .ok (.aload_n 2, 1) := by decide +kernel
theorem dX3_refer_2 : decode cX3_refer 2 = .ok (.iload 4, 2) := by decide +kernel
theorem dX3_refer_4 : decode cX3_refer 4 = .ok (.invokevirtual 52, 3) := by decide +kernel
theorem dX3_refer_7 : decode cX3_refer 7 = .ok (.istore 5, 2) := by decide +kernel
theorem dX3_refer_9 : decode cX3_refer 9 = .ok (.iload_n 3, 1) := by decide +kernel
theorem dX3_refer_10 : decode cX3_refer 10 = .ok (.tableswitch 177 0 4 #[34, 53, 94, 134, 152], 34) := by decide +kernel
theorem dX3_refer_44 : decode cX3_refer 44 = .ok (.aload_n 1, 1) := by decide +kernel
theorem dX3_refer_45 : decode cX3_refer 45 = .ok (.dup, 1) := by decide +kernel
theorem dX3_refer_46 : decode cX3_refer 46 = .ok (.getfield 56, 3) := by decide +kernel
theorem dX3_refer_49 : decode cX3_refer 49 = .ok (.aload_n 2, 1) := by decide +kernel
theorem dX3_refer_50 : decode cX3_refer 50 = .ok (.getfield 23, 3) := by decide +kernel
theorem dX3_refer_53 : decode cX3_refer 53 = .ok (.iload 5, 2) := by decide +kernel
theorem dX3_refer_55 : decode cX3_refer 55 = .ok (.iaload, 1) := by decide +kernel
theorem dX3_refer_56 : decode cX3_refer 56 = .ok (.iand, 1) := by decide +kernel
theorem dX3_refer_57 : decode cX3_refer 57 = .ok (.putfield 56, 3) := by decide +kernel
theorem dX3_refer_60 : decode cX3_refer 60 = .ok (.goto 133, 3) := by decide +kernel
theorem dX3_refer_63 : decode cX3_refer 63 = .ok (.aload_n 1, 1) := by decide +kernel
theorem dX3_refer_64 : decode cX3_refer 64 = .ok (.getfield 56, 3) := by decide +kernel
theorem dX3_refer_67 : decode cX3_refer 67 = .ok (.aload_n 2, 1) := by decide +kernel
theorem dX3_refer_68 : decode cX3_refer 68 = .ok (.getfield 23, 3) := by decide +kernel
theorem dX3_refer_71 : decode cX3_refer 71 = .ok (.iload 5, 2) := by decide +kernel
theorem dX3_refer_73 : decode cX3_refer 73 = .ok (.iaload, 1) := by decide +kernel
theorem dX3_refer_74 : decode cX3_refer 74 = .ok (.iadd, 1) := by decide +kernel
theorem dX3_refer_75 : decode cX3_refer 75 = .ok (.istore 6, 2) := by decide +kernel
theorem dX3_refer_77 : decode cX3_refer 77 = .ok (.aload_n 1, 1) := by decide +kernel
theorem dX3_refer_78 : decode cX3_refer 78 = .ok (.iload 6, 2) := by decide +kernel
theorem dX3_refer_80 : decode cX3_refer 80 = .ok (.sipush 4095, 3) := by decide +kernel
theorem dX3_refer_83 : decode cX3_refer 83 = .ok (.iand, 1) := by decide +kernel
theorem dX3_refer_84 : decode cX3_refer 84 = .ok (.putfield 56, 3) := by decide +kernel
theorem dX3_refer_87 : decode cX3_refer 87 = .ok (.aload_n 1, 1) := by decide +kernel
theorem dX3_refer_88 : decode cX3_refer 88 = .ok (.dup, 1) := by decide +kernel
theorem dX3_refer_89 : decode cX3_refer 89 = .ok (.getfield 59, 3) := by decide +kernel
theorem dX3_refer_92 : decode cX3_refer 92 = .ok (.iload 6, 2) := by decide +kernel
theorem dX3_refer_94 : decode cX3_refer 94 = .ok (.bipush 12, 2) := by decide +kernel
theorem dX3_refer_96 : decode cX3_refer 96 = .ok (.ishr, 1) := by decide +kernel
theorem dX3_refer_97 : decode cX3_refer 97 = .ok (.ixor, 1) := by decide +kernel
theorem dX3_refer_98 : decode cX3_refer 98 = .ok (.putfield 59, 3) := by decide +kernel
theorem dX3_refer_101 : decode cX3_refer 101 = .ok (.goto 92, 3) := by decide +kernel
theorem dX3_refer_104 : decode cX3_refer 104 = .ok (.aload_n 2, 1) := by decide +kernel
theorem dX3_refer_105 : decode cX3_refer 105 = .ok (.getfield 23, 3) := by decide +kernel
theorem dX3_refer_108 : decode cX3_refer 108 = .ok (.iload 5, 2) := by decide +kernel
theorem dX3_refer_110 : decode cX3_refer 110 = .ok (.iaload, 1) := by decide +kernel
theorem dX3_refer_111 : decode cX3_refer 111 = .ok (.iconst 1, 1) := by decide +kernel
theorem dX3_refer_112 : decode cX3_refer 112 = .ok (.iadd, 1) := by decide +kernel
theorem dX3_refer_113 : decode cX3_refer 113 = .ok (.sipush 4095, 3) := by decide +kernel
theorem dX3_refer_116 : decode cX3_refer 116 = .ok (.iand, 1) := by decide +kernel
theorem dX3_refer_117 : decode cX3_refer 117 = .ok (.istore 7, 2) := by decide +kernel
theorem dX3_refer_119 : decode cX3_refer 119 = .ok (.aload_n 2, 1) := by decide +kernel
theorem dX3_refer_120 : decode cX3_refer 120 = .ok (.iload 5, 2) := by decide +kernel
theorem dX3_refer_122 : decode cX3_refer 122 = .ok (.iload 7, 2) := by decide +kernel
theorem dX3_refer_124 : decode cX3_refer 124 = .ok (.invokevirtual 48, 3) := by decide +kernel
theorem dX3_refer_127 : decode cX3_refer 127 = .ok (.aload_n 1, 1) := by decide +kernel
theorem dX3_refer_128 : decode cX3_refer 128 = .ok (.iload 7, 2) := by decide +kernel
theorem dX3_refer_130 : decode cX3_refer 130 = .ok (.ifCond .ne 7, 3) := by decide +kernel
theorem dX3_refer_133 : decode cX3_refer 133 = .ok (.iconst 1, 1) := by decide +kernel
theorem dX3_refer_134 : decode cX3_refer 134 = .ok (.goto 4, 3) := by decide +kernel
theorem dX3_refer_137 : decode cX3_refer 137 = .ok (.iconst 0, 1) := by decide +kernel
theorem dX3_refer_138 : decode cX3_refer 138 = .ok (.invokestatic 62, 3) := by decide +kernel
theorem dX3_refer_141 : decode cX3_refer 141 = .ok (.goto 52, 3) := by decide +kernel
theorem dX3_refer_144 : decode cX3_refer 144 = .ok (.aload_n 2, 1) := by decide +kernel
theorem dX3_refer_145 : decode cX3_refer 145 = .ok (.iload 5, 2) := by decide +kernel
theorem dX3_refer_147 : decode cX3_refer 147 = .ok (.aload_n 1, 1) := by decide +kernel
theorem dX3_refer_148 : decode cX3_refer 148 = .ok (.getfield 56, 3) := by decide +kernel
theorem dX3_refer_151 : decode cX3_refer 151 = .ok (.invokevirtual 48, 3) := by decide +kernel
theorem dX3_refer_154 : decode cX3_refer 154 = .ok (.aload_n 1, 1) := by decide +kernel
theorem dX3_refer_155 : decode cX3_refer 155 = .ok (.iconst 0, 1) := by decide +kernel
theorem dX3_refer_156 : decode cX3_refer 156 = .ok (.putfield 56, 3) := by decide +kernel
theorem dX3_refer_159 : decode cX3_refer 159 = .ok (.goto 34, 3) := by decide +kernel
theorem dX3_refer_162 : decode cX3_refer 162 = .ok (.aload_n 2, 1) := by decide +kernel
theorem dX3_refer_163 : decode cX3_refer 163 = .ok (.iload 5, 2) := by decide +kernel
theorem dX3_refer_165 : decode cX3_refer 165 = .ok (.aload_n 1, 1) := by decide +kernel
theorem dX3_refer_166 : decode cX3_refer 166 = .ok (.getfield 18, 3) := by decide +kernel
theorem dX3_refer_169 : decode cX3_refer 169 = .ok (.invokevirtual 48, 3) := by decide +kernel
theorem dX3_refer_172 : decode cX3_refer 172 = .ok (.aload_n 1, 1) := by decide +kernel
theorem dX3_refer_173 : decode cX3_refer 173 = .ok (.iload 5, 2) := by decide +kernel
theorem dX3_refer_175 : decode cX3_refer 175 = .ok (.iconst 1, 1) := by decide +kernel
theorem dX3_refer_176 : decode cX3_refer 176 = .ok (.iadd, 1) := by decide +kernel
theorem dX3_refer_177 : decode cX3_refer 177 = .ok (.sipush 4095, 3) := by decide +kernel
theorem dX3_refer_180 : decode cX3_refer 180 = .ok (.iand, 1) := by decide +kernel
theorem dX3_refer_181 : decode cX3_refer 181 = .ok (.putfield 18, 3) := by decide +kernel
theorem dX3_refer_184 : decode cX3_refer 184 = .ok (.goto 9, 3) := by decide +kernel
theorem dX3_refer_187 : decode cX3_refer 187 = .ok (.aload_n 1, 1) := by decide +kernel
theorem dX3_refer_188 : decode cX3_refer 188 = .ok (.iload 5, 2) := by decide +kernel
theorem dX3_refer_190 : decode cX3_refer 190 = .ok (.putfield 18, 3) := by decide +kernel
theorem dX3_refer_193 : decode cX3_refer 193 = .ok (.return_, 1) := by decide +kernel
theorem dX3_skipIf_0 : decode cX3_skipIf 0 = .ok (.iload_n 1, 1) := by decide +kernel
theorem dX3_skipIf_1 : decode cX3_skipIf 1 = .ok (.ifCond .eq 17, 3) := by decide +kernel
theorem dX3_skipIf_4 : decode cX3_skipIf 4 = .ok (.aload_n 0, 1) := by decide +kernel
theorem dX3_skipIf_5 : decode cX3_skipIf 5 = .ok (.aload_n 0, 1) := by decide +kernel
theorem dX3_skipIf_6 : decode cX3_skipIf 6 = .ok (.getfield 18, 3) := by decide +kernel
theorem dX3_skipIf_9 : decode cX3_skipIf 9 = .ok (.iconst 1, 1) := by decide +kernel
theorem dX3_skipIf_10 : decode cX3_skipIf 10 = .ok (.iadd, 1) := by decide +kernel
theorem dX3_skipIf_11 : decode cX3_skipIf 11 = .ok (.sipush 4095, 3) := by decide +kernel
theorem dX3_skipIf_14 : decode cX3_skipIf 14 = .ok (.iand, 1) := by decide +kernel
theorem dX3_skipIf_15 : decode cX3_skipIf 15 = .ok (.putfield 18, 3) := by decide +kernel
theorem dX3_skipIf_18 : decode cX3_skipIf 18 = .ok (.return_, 1) := by decide +kernel
theorem dX3_operate_0 : decode cX3_operate 0 = .ok (.iload_n 1, 1) := by decide +kernel
theorem dX3_operate_1 : decode cX3_operate 1 = .ok (.sipush 128, 3) := by decide +kernel
theorem dX3_operate_4 : decode cX3_operate 4 = .ok (.iand, 1) := by decide +kernel
theorem dX3_operate_5 : decode cX3_operate 5 = .ok (.ifCond .eq 8, 3) := by decide +kernel
theorem dX3_operate_8 : decode cX3_operate 8 = .ok (.aload_n 0, 1) := by decide +kernel
theorem dX3_operate_9 : decode cX3_operate 9 = .ok (.iconst 0, 1) := by decide +kernel
theorem dX3_operate_10 : decode cX3_operate 10 = .ok (.putfield 56, 3) := by decide +kernel
theorem dX3_operate_13 : decode cX3_operate 13 = .ok (.iload_n 1, 1) := by decide +kernel
theorem dX3_operate_14 : decode cX3_operate 14 = .ok (.bipush 64, 2) := by decide +kernel
theorem dX3_operate_16 : decode cX3_operate 16 = .ok (.iand, 1) := by decide +kernel
theorem dX3_operate_17 : decode cX3_operate 17 = .ok (.ifCond .eq 8, 3) := by decide +kernel
theorem dX3_operate_20 : decode cX3_operate 20 = .ok (.aload_n 0, 1) := by decide +kernel
theorem dX3_operate_21 : decode cX3_operate 21 = .ok (.iconst 0, 1) := by decide +kernel
theorem dX3_operate_22 : decode cX3_operate 22 = .ok (.putfield 59, 3) := by decide +kernel
theorem dX3_operate_25 : decode cX3_operate 25 = .ok (.iload_n 1, 1) := by decide +kernel
theorem dX3_operate_26 : decode cX3_operate 26 = .ok (.bipush 32, 2) := by decide +kernel
theorem dX3_operate_28 : decode cX3_operate 28 = .ok (.iand, 1) := by decide +kernel
theorem dX3_operate_29 : decode cX3_operate 29 = .ok (.ifCond .eq 15, 3) := by decide +kernel
theorem dX3_operate_32 : decode cX3_operate 32 = .ok (.aload_n 0, 1) := by decide +kernel
theorem dX3_operate_33 : decode cX3_operate 33 = .ok (.dup, 1) := by decide +kernel
theorem dX3_operate_34 : decode cX3_operate 34 = .ok (.getfield 56, 3) := by decide +kernel
theorem dX3_operate_37 : decode cX3_operate 37 = .ok (.sipush 4095, 3) := by decide +kernel
theorem dX3_operate_40 : decode cX3_operate 40 = .ok (.ixor, 1) := by decide +kernel
theorem dX3_operate_41 : decode cX3_operate 41 = .ok (.putfield 56, 3) := by decide +kernel
theorem dX3_operate_44 : decode cX3_operate 44 = .ok (.iload_n 1, 1) := by decide +kernel
theorem dX3_operate_45 : decode cX3_operate 45 = .ok (.bipush 16, 2) := by decide +kernel
theorem dX3_operate_47 : decode cX3_operate 47 = .ok (.iand, 1) := by decide +kernel
theorem dX3_operate_48 : decode cX3_operate 48 = .ok (.ifCond .eq 13, 3) := by decide +kernel
theorem dX3_operate_51 : decode cX3_operate 51 = .ok (.aload_n 0, 1) := by decide +kernel
theorem dX3_operate_52 : decode cX3_operate 52 = .ok (.dup, 1) := by decide +kernel
theorem dX3_operate_53 : decode cX3_operate 53 = .ok (.getfield 59, 3) := by decide +kernel
theorem dX3_operate_56 : decode cX3_operate 56 = .ok (.iconst 1, 1) := by decide +kernel
theorem dX3_operate_57 : decode cX3_operate 57 = .ok (.ixor, 1) := by decide +kernel
theorem dX3_operate_58 : decode cX3_operate 58 = .ok (.putfield 59, 3) := by decide +kernel
theorem dX3_operate_61 : decode cX3_operate 61 = .ok (.iload_n 1, 1) := by decide +kernel
theorem dX3_operate_62 : decode cX3_operate 62 = .ok (.iconst 1, 1) := by decide +kernel
theorem dX3_operate_63 : decode cX3_operate 63 = .ok (.iand, 1) := by decide +kernel
theorem dX3_operate_64 : decode cX3_operate 64 = .ok (.ifCond .eq 13, 3) := by decide +kernel
theorem dX3_operate_67 : decode cX3_operate 67 = .ok (.aload_n 0, 1) := by decide +kernel
theorem dX3_operate_68 : decode cX3_operate 68 = .ok (.aload_n 0, 1) := by decide +kernel
theorem dX3_operate_69 : decode cX3_operate 69 = .ok (.invokestatic 66, 3) := by decide +kernel
theorem dX3_operate_72 : decode cX3_operate 72 = .ok (.iconst 1, 1) := by decide +kernel
theorem dX3_operate_73 : decode cX3_operate 73 = .ok (.iadd, 1) := by decide +kernel
theorem dX3_operate_74 : decode cX3_operate 74 = .ok (.invokestatic 70, 3) := by decide +kernel
theorem dX3_operate_77 : decode cX3_operate 77 = .ok (.aload_n 0, 1) := by decide +kernel
theorem dX3_operate_78 : decode cX3_operate 78 = .ok (.iload_n 1, 1) := by decide +kernel
theorem dX3_operate_79 : decode cX3_operate 79 = .ok (.invokestatic 73, 3) := by decide +kernel
theorem dX3_operate_82 : decode cX3_operate 82 = .ok (.return_, 1) := by decide +kernel
theorem dX3_both_0 : decode cX3_both 0 = .ok (.aload_n 0, 1) := by decide +kernel
theorem dX3_both_1 : decode cX3_both 1 = .ok (.getfield 59, 3) := by decide +kernel
theorem dX3_both_4 : decode cX3_both 4 = .ok (.bipush 12, 2) := by decide +kernel
theorem dX3_both_6 : decode cX3_both 6 = .ok (.ishl, 1) := by decide +kernel
theorem dX3_both_7 : decode cX3_both 7 = .ok (.aload_n 0, 1) := by decide +kernel
theorem dX3_both_8 : decode cX3_both 8 = .ok (.getfield 56, 3) := by decide +kernel
theorem dX3_both_11 : decode cX3_both 11 = .ok (.ior, 1) := by decide +kernel
theorem dX3_both_12 : decode cX3_both 12 = .ok (.ireturn, 1) := by decide +kernel
theorem dX3_setBoth_0 : decode cX3_setBoth 0 = .ok (.aload_n 0, 1) := by decide +kernel
theorem dX3_setBoth_1 : decode cX3_setBoth 1 = .ok (.iload_n 1, 1) := by decide +kernel
theorem dX3_setBoth_2 : decode cX3_setBoth 2 = .ok (.sipush 4095, 3) := by decide +kernel
theorem dX3_setBoth_5 : decode cX3_setBoth 5 = .ok (.iand, 1) := by decide +kernel
theorem dX3_setBoth_6 : decode cX3_setBoth 6 = .ok (.putfield 56, 3) := by decide +kernel
theorem dX3_setBoth_9 : decode cX3_setBoth 9 = .ok (.aload_n 0, 1) := by decide +kernel
theorem dX3_setBoth_10 : decode cX3_setBoth 10 = .ok (.iload_n 1, 1) := by decide +kernel
theorem dX3_setBoth_11 : decode cX3_setBoth 11 = .ok (.bipush 12, 2) := by decide +kernel
theorem dX3_setBoth_13 : decode cX3_setBoth 13 = .ok (.ishr, 1) := by decide +kernel
theorem dX3_setBoth_14 : decode cX3_setBoth 14 = .ok (.iconst 1, 1) := by decide +kernel
theorem dX3_setBoth_15 : decode cX3_setBoth 15 = .ok (.iand, 1) := by decide +kernel
theorem dX3_setBoth_16 : decode cX3_setBoth 16 = .ok (.putfield 59, 3) := by decide +kernel
theorem dX3_setBoth_19 : decode cX3_setBoth 19 = .ok (.return_, 1) := by decide +kernel
theorem dX3_turn_0 : decode cX3_turn 0 = .ok (.iload_n 1, 1) := by decide +kernel
theorem dX3_turn_1 : decode cX3_turn 1 = .ok (.iconst 2, 1) := by decide +kernel
theorem dX3_turn_2 : decode cX3_turn 2 = .ok (.iand, 1) := by decide +kernel
theorem dX3_turn_3 : decode cX3_turn 3 = .ok (.ifCond .eq 7, 3) := by decide +kernel
theorem dX3_turn_6 : decode cX3_turn 6 = .ok (.iconst 2, 1) := by decide +kernel
theorem dX3_turn_7 : decode cX3_turn 7 = .ok (.goto 4, 3) := by decide +kernel
theorem dX3_turn_10 : decode cX3_turn 10 = .ok (.iconst 1, 1) := by decide +kernel
theorem dX3_turn_11 : decode cX3_turn 11 = .ok (.istore_n 2, 1) := by decide +kernel
theorem dX3_turn_12 : decode cX3_turn 12 = .ok (.iload_n 1, 1) := by decide +kernel
theorem dX3_turn_13 : decode cX3_turn 13 = .ok (.bipush 12, 2) := by decide +kernel
theorem dX3_turn_15 : decode cX3_turn 15 = .ok (.iand, 1) := by decide +kernel
theorem dX3_turn_16 : decode cX3_turn 16 = .ok (.lookupswitch 114 #[(0, 83), (4, 58), (8, 36)], 36) := by decide +kernel
theorem dX3_turn_52 : decode cX3_turn 52 = .ok (.aload_n 0, 1) := by decide +kernel
theorem dX3_turn_53 : decode cX3_turn 53 = .ok (.invokestatic 66, 3) := by decide +kernel
theorem dX3_turn_56 : decode cX3_turn 56 = .ok (.istore_n 3, 1) := by decide +kernel
theorem dX3_turn_57 : decode cX3_turn 57 = .ok (.aload_n 0, 1) := by decide +kernel
theorem dX3_turn_58 : decode cX3_turn 58 = .ok (.iload_n 3, 1) := by decide +kernel
theorem dX3_turn_59 : decode cX3_turn 59 = .ok (.iload_n 2, 1) := by decide +kernel
theorem dX3_turn_60 : decode cX3_turn 60 = .ok (.ishr, 1) := by decide +kernel
theorem dX3_turn_61 : decode cX3_turn 61 = .ok (.iload_n 3, 1) := by decide +kernel
theorem dX3_turn_62 : decode cX3_turn 62 = .ok (.bipush 13, 2) := by decide +kernel
theorem dX3_turn_64 : decode cX3_turn 64 = .ok (.iload_n 2, 1) := by decide +kernel
theorem dX3_turn_65 : decode cX3_turn 65 = .ok (.isub, 1) := by decide +kernel
theorem dX3_turn_66 : decode cX3_turn 66 = .ok (.ishl, 1) := by decide +kernel
theorem dX3_turn_67 : decode cX3_turn 67 = .ok (.ior, 1) := by decide +kernel
theorem dX3_turn_68 : decode cX3_turn 68 = .ok (.invokestatic 70, 3) := by decide +kernel
theorem dX3_turn_71 : decode cX3_turn 71 = .ok (.goto 59, 3) := by decide +kernel
theorem dX3_turn_74 : decode cX3_turn 74 = .ok (.aload_n 0, 1) := by decide +kernel
theorem dX3_turn_75 : decode cX3_turn 75 = .ok (.invokestatic 66, 3) := by decide +kernel
theorem dX3_turn_78 : decode cX3_turn 78 = .ok (.istore 4, 2) := by decide +kernel
theorem dX3_turn_80 : decode cX3_turn 80 = .ok (.aload_n 0, 1) := by decide +kernel
theorem dX3_turn_81 : decode cX3_turn 81 = .ok (.iload 4, 2) := by decide +kernel
theorem dX3_turn_83 : decode cX3_turn 83 = .ok (.iload_n 2, 1) := by decide +kernel
theorem dX3_turn_84 : decode cX3_turn 84 = .ok (.ishl, 1) := by decide +kernel
theorem dX3_turn_85 : decode cX3_turn 85 = .ok (.iload 4, 2) := by decide +kernel
theorem dX3_turn_87 : decode cX3_turn 87 = .ok (.bipush 13, 2) := by decide +kernel
theorem dX3_turn_89 : decode cX3_turn 89 = .ok (.iload_n 2, 1) := by decide +kernel
theorem dX3_turn_90 : decode cX3_turn 90 = .ok (.isub, 1) := by decide +kernel
theorem dX3_turn_91 : decode cX3_turn 91 = .ok (.ishr, 1) := by decide +kernel
theorem dX3_turn_92 : decode cX3_turn 92 = .ok (.ior, 1) := by decide +kernel
theorem dX3_turn_93 : decode cX3_turn 93 = .ok (.invokestatic 70, 3) := by decide +kernel
theorem dX3_turn_96 : decode cX3_turn 96 = .ok (.goto 34, 3) := by decide +kernel
theorem dX3_turn_99 : decode cX3_turn 99 = .ok (.iload_n 2, 1) := by decide +kernel
theorem dX3_turn_100 : decode cX3_turn 100 = .ok (.iconst 2, 1) := by decide +kernel
theorem dX3_turn_101 : decode cX3_turn 101 = .ok (.if_icmp .ne 29, 3) := by decide +kernel
theorem dX3_turn_104 : decode cX3_turn 104 = .ok (.aload_n 0, 1) := by decide +kernel
theorem dX3_turn_105 : decode cX3_turn 105 = .ok (.aload_n 0, 1) := by decide +kernel
theorem dX3_turn_106 : decode cX3_turn 106 = .ok (.getfield 56, 3) := by decide +kernel
theorem dX3_turn_109 : decode cX3_turn 109 = .ok (.bipush 6, 2) := by decide +kernel
theorem dX3_turn_111 : decode cX3_turn 111 = .ok (.ishr, 1) := by decide +kernel
theorem dX3_turn_112 : decode cX3_turn 112 = .ok (.aload_n 0, 1) := by decide +kernel
theorem dX3_turn_113 : decode cX3_turn 113 = .ok (.getfield 56, 3) := by decide +kernel
theorem dX3_turn_116 : decode cX3_turn 116 = .ok (.bipush 6, 2) := by decide +kernel
theorem dX3_turn_118 : decode cX3_turn 118 = .ok (.ishl, 1) := by decide +kernel
theorem dX3_turn_119 : decode cX3_turn 119 = .ok (.ior, 1) := by decide +kernel
theorem dX3_turn_120 : decode cX3_turn 120 = .ok (.sipush 4095, 3) := by decide +kernel
theorem dX3_turn_123 : decode cX3_turn 123 = .ok (.iand, 1) := by decide +kernel
theorem dX3_turn_124 : decode cX3_turn 124 = .ok (.putfield 56, 3) := by decide +kernel
theorem dX3_turn_127 : decode cX3_turn 127 = .ok (.goto 3, 3) := by decide +kernel
theorem dX3_turn_130 : decode cX3_turn 130 = .ok (.return_, 1) := by decide +kernel
theorem dX3_skipOrStop_0 : decode cX3_skipOrStop 0 = .ok (.iload_n 1, 1) := by decide +kernel
theorem dX3_skipOrStop_1 : decode cX3_skipOrStop 1 = .ok (.bipush 64, 2) := by decide +kernel
theorem dX3_skipOrStop_3 : decode cX3_skipOrStop 3 = .ok (.iand, 1) := by decide +kernel
theorem dX3_skipOrStop_4 : decode cX3_skipOrStop 4 = .ok (.ifCond .eq 14, 3) := by decide +kernel
theorem dX3_skipOrStop_7 : decode cX3_skipOrStop 7 = .ok (.aload_n 0, 1) := by decide +kernel
theorem dX3_skipOrStop_8 : decode cX3_skipOrStop 8 = .ok (.getfield 56, 3) := by decide +kernel
theorem dX3_skipOrStop_11 : decode cX3_skipOrStop 11 = .ok (.sipush 2048, 3) := by decide +kernel
theorem dX3_skipOrStop_14 : decode cX3_skipOrStop 14 = .ok (.iand, 1) := by decide +kernel
theorem dX3_skipOrStop_15 : decode cX3_skipOrStop 15 = .ok (.ifCond .ne 32, 3) := by decide +kernel
theorem dX3_skipOrStop_18 : decode cX3_skipOrStop 18 = .ok (.iload_n 1, 1) := by decide +kernel
theorem dX3_skipOrStop_19 : decode cX3_skipOrStop 19 = .ok (.bipush 32, 2) := by decide +kernel
theorem dX3_skipOrStop_21 : decode cX3_skipOrStop 21 = .ok (.iand, 1) := by decide +kernel
theorem dX3_skipOrStop_22 : decode cX3_skipOrStop 22 = .ok (.ifCond .eq 10, 3) := by decide +kernel
theorem dX3_skipOrStop_25 : decode cX3_skipOrStop 25 = .ok (.aload_n 0, 1) := by decide +kernel
theorem dX3_skipOrStop_26 : decode cX3_skipOrStop 26 = .ok (.getfield 56, 3) := by decide +kernel
theorem dX3_skipOrStop_29 : decode cX3_skipOrStop 29 = .ok (.ifCond .eq 18, 3) := by decide +kernel
theorem dX3_skipOrStop_32 : decode cX3_skipOrStop 32 = .ok (.iload_n 1, 1) := by decide +kernel
theorem dX3_skipOrStop_33 : decode cX3_skipOrStop 33 = .ok (.bipush 16, 2) := by decide +kernel
theorem dX3_skipOrStop_35 : decode cX3_skipOrStop 35 = .ok (.iand, 1) := by decide +kernel
theorem dX3_skipOrStop_36 : decode cX3_skipOrStop 36 = .ok (.ifCond .eq 15, 3) := by decide +kernel
theorem dX3_skipOrStop_39 : decode cX3_skipOrStop 39 = .ok (.aload_n 0, 1) := by decide +kernel
theorem dX3_skipOrStop_40 : decode cX3_skipOrStop 40 = .ok (.getfield 59, 3) := by decide +kernel
theorem dX3_skipOrStop_43 : decode cX3_skipOrStop 43 = .ok (.iconst 1, 1) := by decide +kernel
theorem dX3_skipOrStop_44 : decode cX3_skipOrStop 44 = .ok (.if_icmp .ne 7, 3) := by decide +kernel
theorem dX3_skipOrStop_47 : decode cX3_skipOrStop 47 = .ok (.iconst 1, 1) := by decide +kernel
theorem dX3_skipOrStop_48 : decode cX3_skipOrStop 48 = .ok (.goto 4, 3) := by decide +kernel
theorem dX3_skipOrStop_51 : decode cX3_skipOrStop 51 = .ok (.iconst 0, 1) := by decide +kernel
theorem dX3_skipOrStop_52 : decode cX3_skipOrStop 52 = .ok (.istore_n 2, 1) := by decide +kernel
theorem dX3_skipOrStop_53 : decode cX3_skipOrStop 53 = .ok (.aload_n 0, 1) := by decide +kernel
theorem dX3_skipOrStop_54 : decode cX3_skipOrStop 54 = .ok (.iload_n 2, 1) := by decide +kernel
theorem dX3_skipOrStop_55 : decode cX3_skipOrStop 55 = .ok (.iload_n 1, 1) := by decide +kernel
theorem dX3_skipOrStop_56 : decode cX3_skipOrStop 56 = .ok (.bipush 8, 2) := by decide +kernel
theorem dX3_skipOrStop_58 : decode cX3_skipOrStop 58 = .ok (.iand, 1) := by decide +kernel
theorem dX3_skipOrStop_59 : decode cX3_skipOrStop 59 = .ok (.ifCond .eq 7, 3) := by decide +kernel
theorem dX3_skipOrStop_62 : decode cX3_skipOrStop 62 = .ok (.iconst 1, 1) := by decide +kernel
theorem dX3_skipOrStop_63 : decode cX3_skipOrStop 63 = .ok (.goto 4, 3) := by decide +kernel
theorem dX3_skipOrStop_66 : decode cX3_skipOrStop 66 = .ok (.iconst 0, 1) := by decide +kernel
theorem dX3_skipOrStop_67 : decode cX3_skipOrStop 67 = .ok (.if_icmp .eq 7, 3) := by decide +kernel
theorem dX3_skipOrStop_70 : decode cX3_skipOrStop 70 = .ok (.iconst 1, 1) := by decide +kernel
theorem dX3_skipOrStop_71 : decode cX3_skipOrStop 71 = .ok (.goto 4, 3) := by decide +kernel
theorem dX3_skipOrStop_74 : decode cX3_skipOrStop 74 = .ok (.iconst 0, 1) := by decide +kernel
theorem dX3_skipOrStop_75 : decode cX3_skipOrStop 75 = .ok (.invokestatic 62, 3) := by decide +kernel
theorem dX3_skipOrStop_78 : decode cX3_skipOrStop 78 = .ok (.iload_n 1, 1) := by decide +kernel
theorem dX3_skipOrStop_79 : decode cX3_skipOrStop 79 = .ok (.sipush 128, 3) := by decide +kernel
theorem dX3_skipOrStop_82 : decode cX3_skipOrStop 82 = .ok (.iand, 1) := by decide +kernel
theorem dX3_skipOrStop_83 : decode cX3_skipOrStop 83 = .ok (.ifCond .eq 8, 3) := by decide +kernel
theorem dX3_skipOrStop_86 : decode cX3_skipOrStop 86 = .ok (.aload_n 0, 1) := by decide +kernel
theorem dX3_skipOrStop_87 : decode cX3_skipOrStop 87 = .ok (.iconst 0, 1) := by decide +kernel
theorem dX3_skipOrStop_88 : decode cX3_skipOrStop 88 = .ok (.putfield 56, 3) := by decide +kernel
theorem dX3_skipOrStop_91 : decode cX3_skipOrStop 91 = .ok (.iload_n 1, 1) := by decide +kernel
theorem dX3_skipOrStop_92 : decode cX3_skipOrStop 92 = .ok (.iconst 4, 1) := by decide +kernel
theorem dX3_skipOrStop_93 : decode cX3_skipOrStop 93 = .ok (.iand, 1) := by decide +kernel
theorem dX3_skipOrStop_94 : decode cX3_skipOrStop 94 = .ok (.ifCond .eq 16, 3) := by decide +kernel
theorem dX3_skipOrStop_97 : decode cX3_skipOrStop 97 = .ok (.aload_n 0, 1) := by decide +kernel
theorem dX3_skipOrStop_98 : decode cX3_skipOrStop 98 = .ok (.dup, 1) := by decide +kernel
theorem dX3_skipOrStop_99 : decode cX3_skipOrStop 99 = .ok (.getfield 56, 3) := by decide +kernel
theorem dX3_skipOrStop_102 : decode cX3_skipOrStop 102 = .ok (.aload_n 0, 1) := by decide +kernel
theorem dX3_skipOrStop_103 : decode cX3_skipOrStop 103 = .ok (.getfield 76, 3) := by decide +kernel
theorem dX3_skipOrStop_106 : decode cX3_skipOrStop 106 = .ok (.ior, 1) := by decide +kernel
theorem dX3_skipOrStop_107 : decode cX3_skipOrStop 107 = .ok (.putfield 56, 3) := by decide +kernel
theorem dX3_skipOrStop_110 : decode cX3_skipOrStop 110 = .ok (.iload_n 1, 1) := by decide +kernel
theorem dX3_skipOrStop_111 : decode cX3_skipOrStop 111 = .ok (.iconst 2, 1) := by decide +kernel
theorem dX3_skipOrStop_112 : decode cX3_skipOrStop 112 = .ok (.iand, 1) := by decide +kernel
theorem dX3_skipOrStop_113 : decode cX3_skipOrStop 113 = .ok (.ifCond .eq 9, 3) := by decide +kernel
theorem dX3_skipOrStop_116 : decode cX3_skipOrStop 116 = .ok (.aload_n 0, 1) := by decide +kernel
theorem dX3_skipOrStop_117 : decode cX3_skipOrStop 117 = .ok (.bipush 6, 2) := by decide +kernel
theorem dX3_skipOrStop_119 : decode cX3_skipOrStop 119 = .ok (.putfield 79, 3) := by decide +kernel
theorem dX3_skipOrStop_122 : decode cX3_skipOrStop 122 = .ok (.return_, 1) := by decide +kernel
theorem dX3_extend_0 : decode cX3_extend 0 = .ok (.iload_n 3, 1) := by decide +kernel
theorem dX3_extend_1 : decode cX3_extend 1 = .ok (.bipush 14, 2) := by decide +kernel
theorem dX3_extend_3 : decode cX3_extend 3 = .ok (.iand, 1) := by decide +kernel
theorem dX3_extend_4 : decode cX3_extend 4 = .ok (.istore 4, 2) := by decide +kernel
theorem dX3_extend_6 : decode cX3_extend 6 = .ok (.iload 4, 2) := by decide +kernel
theorem dX3_extend_8 : decode cX3_extend 8 = .ok (.iconst 2, 1) := by decide +kernel
theorem dX3_extend_9 : decode cX3_extend 9 = .ok (.if_icmp .eq 10, 3) := by decide +kernel
theorem dX3_extend_12 : decode cX3_extend 12 = .ok (.iload 4, 2) := by decide +kernel
theorem dX3_extend_14 : decode cX3_extend 14 = .ok (.bipush 8, 2) := by decide +kernel
theorem dX3_extend_16 : decode cX3_extend 16 = .ok (.if_icmp .ne 9, 3) := by decide +kernel
theorem dX3_extend_19 : decode cX3_extend 19 = .ok (.aload_n 0, 1) := by decide +kernel
theorem dX3_extend_20 : decode cX3_extend 20 = .ok (.aload_n 1, 1) := by decide +kernel
theorem dX3_extend_21 : decode cX3_extend 21 = .ok (.invokevirtual 82, 3) := by decide +kernel
theorem dX3_extend_24 : decode cX3_extend 24 = .ok (.ireturn, 1) := by decide +kernel
theorem dX3_extend_25 : decode cX3_extend 25 = .ok (.iload_n 3, 1) := by decide +kernel
theorem dX3_extend_26 : decode cX3_extend 26 = .ok (.sipush 128, 3) := by decide +kernel
theorem dX3_extend_29 : decode cX3_extend 29 = .ok (.iand, 1) := by decide +kernel
theorem dX3_extend_30 : decode cX3_extend 30 = .ok (.ifCond .eq 8, 3) := by decide +kernel
theorem dX3_extend_33 : decode cX3_extend 33 = .ok (.aload_n 1, 1) := by decide +kernel
theorem dX3_extend_34 : decode cX3_extend 34 = .ok (.iconst 0, 1) := by decide +kernel
theorem dX3_extend_35 : decode cX3_extend 35 = .ok (.putfield 56, 3) := by decide +kernel
theorem dX3_extend_38 : decode cX3_extend 38 = .ok (.aload_n 1, 1) := by decide +kernel
theorem dX3_extend_39 : decode cX3_extend 39 = .ok (.getfield 56, 3) := by decide +kernel
theorem dX3_extend_42 : decode cX3_extend 42 = .ok (.istore 5, 2) := by decide +kernel
theorem dX3_extend_44 : decode cX3_extend 44 = .ok (.iload_n 3, 1) := by decide +kernel
theorem dX3_extend_45 : decode cX3_extend 45 = .ok (.bipush 80, 2) := by decide +kernel
theorem dX3_extend_47 : decode cX3_extend 47 = .ok (.iand, 1) := by decide +kernel
theorem dX3_extend_48 : decode cX3_extend 48 = .ok (.lookupswitch 83 #[(16, 69), (64, 53), (80, 36)], 36) := by decide +kernel
theorem dX3_extend_84 : decode cX3_extend 84 = .ok (.aload_n 1, 1) := by decide +kernel
theorem dX3_extend_85 : decode cX3_extend 85 = .ok (.aload_n 1, 1) := by decide +kernel
theorem dX3_extend_86 : decode cX3_extend 86 = .ok (.getfield 86, 3) := by decide +kernel
theorem dX3_extend_89 : decode cX3_extend 89 = .ok (.putfield 56, 3) := by decide +kernel
theorem dX3_extend_92 : decode cX3_extend 92 = .ok (.aload_n 1, 1) := by decide +kernel
theorem dX3_extend_93 : decode cX3_extend 93 = .ok (.iload 5, 2) := by decide +kernel
theorem dX3_extend_95 : decode cX3_extend 95 = .ok (.putfield 86, 3) := by decide +kernel
theorem dX3_extend_98 : decode cX3_extend 98 = .ok (.goto 33, 3) := by decide +kernel
theorem dX3_extend_101 : decode cX3_extend 101 = .ok (.aload_n 1, 1) := by decide +kernel
theorem dX3_extend_102 : decode cX3_extend 102 = .ok (.dup, 1) := by decide +kernel
theorem dX3_extend_103 : decode cX3_extend 103 = .ok (.getfield 56, 3) := by decide +kernel
theorem dX3_extend_106 : decode cX3_extend 106 = .ok (.aload_n 1, 1) := by decide +kernel
theorem dX3_extend_107 : decode cX3_extend 107 = .ok (.getfield 86, 3) := by decide +kernel
theorem dX3_extend_110 : decode cX3_extend 110 = .ok (.ior, 1) := by decide +kernel
theorem dX3_extend_111 : decode cX3_extend 111 = .ok (.putfield 56, 3) := by decide +kernel
theorem dX3_extend_114 : decode cX3_extend 114 = .ok (.goto 17, 3) := by decide +kernel
theorem dX3_extend_117 : decode cX3_extend 117 = .ok (.aload_n 1, 1) := by decide +kernel
theorem dX3_extend_118 : decode cX3_extend 118 = .ok (.iload 5, 2) := by decide +kernel
theorem dX3_extend_120 : decode cX3_extend 120 = .ok (.putfield 86, 3) := by decide +kernel
theorem dX3_extend_123 : decode cX3_extend 123 = .ok (.aload_n 1, 1) := by decide +kernel
theorem dX3_extend_124 : decode cX3_extend 124 = .ok (.iconst 0, 1) := by decide +kernel
theorem dX3_extend_125 : decode cX3_extend 125 = .ok (.putfield 56, 3) := by decide +kernel
theorem dX3_extend_128 : decode cX3_extend 128 = .ok (.goto 3, 3) := by decide +kernel
theorem dX3_extend_131 : decode cX3_extend 131 = .ok (.iload 4, 2) := by decide +kernel
theorem dX3_extend_133 : decode cX3_extend 133 = .ok (.ifCond .eq 40, 3) := by decide +kernel
theorem dX3_extend_136 : decode cX3_extend 136 = .ok (.aload_n 2, 1) := by decide +kernel
theorem dX3_extend_137 : decode cX3_extend 137 = .ok (.getfield 23, 3) := by decide +kernel
theorem dX3_extend_140 : decode cX3_extend 140 = .ok (.aload_n 1, 1) := by decide +kernel
theorem dX3_extend_141 : decode cX3_extend 141 = .ok (.getfield 18, 3) := by decide +kernel
theorem dX3_extend_144 : decode cX3_extend 144 = .ok (.sipush 4095, 3) := by decide +kernel
theorem dX3_extend_147 : decode cX3_extend 147 = .ok (.iand, 1) := by decide +kernel
theorem dX3_extend_148 : decode cX3_extend 148 = .ok (.iaload, 1) := by decide +kernel
theorem dX3_extend_149 : decode cX3_extend 149 = .ok (.istore 6, 2) := by decide +kernel
theorem dX3_extend_151 : decode cX3_extend 151 = .ok (.aload_n 1, 1) := by decide +kernel
theorem dX3_extend_152 : decode cX3_extend 152 = .ok (.aload_n 1, 1) := by decide +kernel
theorem dX3_extend_153 : decode cX3_extend 153 = .ok (.getfield 18, 3) := by decide +kernel
theorem dX3_extend_156 : decode cX3_extend 156 = .ok (.iconst 1, 1) := by decide +kernel
theorem dX3_extend_157 : decode cX3_extend 157 = .ok (.iadd, 1) := by decide +kernel
theorem dX3_extend_158 : decode cX3_extend 158 = .ok (.sipush 4095, 3) := by decide +kernel
theorem dX3_extend_161 : decode cX3_extend 161 = .ok (.iand, 1) := by decide +kernel
theorem dX3_extend_162 : decode cX3_extend 162 = .ok (.putfield 18, 3) := by decide +kernel
theorem dX3_extend_165 : decode cX3_extend 165 = .ok (.aload_n 1, 1) := by decide +kernel
theorem dX3_extend_166 : decode cX3_extend 166 = .ok (.iload 4, 2) := by decide +kernel
theorem dX3_extend_168 : decode cX3_extend 168 = .ok (.iload 6, 2) := by decide +kernel
theorem dX3_extend_170 : decode cX3_extend 170 = .ok (.invokestatic 89, 3) := by decide +kernel
theorem dX3_extend_173 : decode cX3_extend 173 = .ok (.iconst 1, 1) := by decide +kernel
theorem dX3_extend_174 : decode cX3_extend 174 = .ok (.ireturn, 1) := by decide +kernel
theorem dX3_reckon_0 : decode cX3_reckon 0 = .ok (.iload_n 1, 1) := by decide +kernel
theorem dX3_reckon_1 : decode cX3_reckon 1 = .ok (.lookupswitch 58 #[(4, 27), (6, 50)], 27) := by decide +kernel
theorem dX3_reckon_28 : decode cX3_reckon 28 = .ok (.aload_n 0, 1) := by decide +kernel
theorem dX3_reckon_29 : decode cX3_reckon 29 = .ok (.iload_n 2, 1) := by decide +kernel
theorem dX3_reckon_30 : decode cX3_reckon 30 = .ok (.aload_n 0, 1) := by decide +kernel
theorem dX3_reckon_31 : decode cX3_reckon 31 = .ok (.getfield 86, 3) := by decide +kernel
theorem dX3_reckon_34 : decode cX3_reckon 34 = .ok (.imul, 1) := by decide +kernel
theorem dX3_reckon_35 : decode cX3_reckon 35 = .ok (.aload_n 0, 1) := by decide +kernel
theorem dX3_reckon_36 : decode cX3_reckon 36 = .ok (.getfield 56, 3) := by decide +kernel
theorem dX3_reckon_39 : decode cX3_reckon 39 = .ok (.iadd, 1) := by decide +kernel
theorem dX3_reckon_40 : decode cX3_reckon 40 = .ok (.invokestatic 93, 3) := by decide +kernel
theorem dX3_reckon_43 : decode cX3_reckon 43 = .ok (.aload_n 0, 1) := by decide +kernel
theorem dX3_reckon_44 : decode cX3_reckon 44 = .ok (.iconst 0, 1) := by decide +kernel
theorem dX3_reckon_45 : decode cX3_reckon 45 = .ok (.putfield 59, 3) := by decide +kernel
theorem dX3_reckon_48 : decode cX3_reckon 48 = .ok (.goto 22, 3) := by decide +kernel
theorem dX3_reckon_51 : decode cX3_reckon 51 = .ok (.aload_n 0, 1) := by decide +kernel
theorem dX3_reckon_52 : decode cX3_reckon 52 = .ok (.iload_n 2, 1) := by decide +kernel
theorem dX3_reckon_53 : decode cX3_reckon 53 = .ok (.invokestatic 96, 3) := by decide +kernel
theorem dX3_reckon_56 : decode cX3_reckon 56 = .ok (.goto 14, 3) := by decide +kernel
theorem dX3_reckon_59 : decode cX3_reckon 59 = .ok (.aload_n 0, 1) := by decide +kernel
theorem dX3_reckon_60 : decode cX3_reckon 60 = .ok (.iload_n 1, 1) := by decide +kernel
theorem dX3_reckon_61 : decode cX3_reckon 61 = .ok (.iload_n 2, 1) := by decide +kernel
theorem dX3_reckon_62 : decode cX3_reckon 62 = .ok (.bipush 31, 2) := by decide +kernel
theorem dX3_reckon_64 : decode cX3_reckon 64 = .ok (.iand, 1) := by decide +kernel
theorem dX3_reckon_65 : decode cX3_reckon 65 = .ok (.iconst 1, 1) := by decide +kernel
theorem dX3_reckon_66 : decode cX3_reckon 66 = .ok (.iadd, 1) := by decide +kernel
theorem dX3_reckon_67 : decode cX3_reckon 67 = .ok (.invokestatic 99, 3) := by decide +kernel
theorem dX3_reckon_70 : decode cX3_reckon 70 = .ok (.return_, 1) := by decide +kernel
theorem dX3_setLong_0 : decode cX3_setLong 0 = .ok (.aload_n 0, 1) := by decide +kernel
theorem dX3_setLong_1 : decode cX3_setLong 1 = .ok (.iload_n 1, 1) := by decide +kernel
theorem dX3_setLong_2 : decode cX3_setLong 2 = .ok (.bipush 12, 2) := by decide +kernel
theorem dX3_setLong_4 : decode cX3_setLong 4 = .ok (.ishr, 1) := by decide +kernel
theorem dX3_setLong_5 : decode cX3_setLong 5 = .ok (.sipush 4095, 3) := by decide +kernel
theorem dX3_setLong_8 : decode cX3_setLong 8 = .ok (.iand, 1) := by decide +kernel
theorem dX3_setLong_9 : decode cX3_setLong 9 = .ok (.putfield 56, 3) := by decide +kernel
theorem dX3_setLong_12 : decode cX3_setLong 12 = .ok (.aload_n 0, 1) := by decide +kernel
theorem dX3_setLong_13 : decode cX3_setLong 13 = .ok (.iload_n 1, 1) := by decide +kernel
theorem dX3_setLong_14 : decode cX3_setLong 14 = .ok (.sipush 4095, 3) := by decide +kernel
theorem dX3_setLong_17 : decode cX3_setLong 17 = .ok (.iand, 1) := by decide +kernel
theorem dX3_setLong_18 : decode cX3_setLong 18 = .ok (.putfield 86, 3) := by decide +kernel
theorem dX3_setLong_21 : decode cX3_setLong 21 = .ok (.return_, 1) := by decide +kernel
theorem dX3_divide_0 : decode cX3_divide 0 = .ok (.iload_n 1, 1) := by decide +kernel
theorem dX3_divide_1 : decode cX3_divide 1 = .ok (.ifCond .le 11, 3) := by decide +kernel
theorem dX3_divide_4 : decode cX3_divide 4 = .ok (.aload_n 0, 1) := by decide +kernel
theorem dX3_divide_5 : decode cX3_divide 5 = .ok (.getfield 56, 3) := by decide +kernel
theorem dX3_divide_8 : decode cX3_divide 8 = .ok (.iload_n 1, 1) := by decide +kernel
theorem dX3_divide_9 : decode cX3_divide 9 = .ok (.if_icmp .lt 9, 3) := by decide +kernel
theorem dX3_divide_12 : decode cX3_divide 12 = .ok (.aload_n 0, 1) := by decide +kernel
theorem dX3_divide_13 : decode cX3_divide 13 = .ok (.iconst 1, 1) := by decide +kernel
theorem dX3_divide_14 : decode cX3_divide 14 = .ok (.putfield 59, 3) := by decide +kernel
theorem dX3_divide_17 : decode cX3_divide 17 = .ok (.return_, 1) := by decide +kernel
theorem dX3_divide_18 : decode cX3_divide 18 = .ok (.aload_n 0, 1) := by decide +kernel
theorem dX3_divide_19 : decode cX3_divide 19 = .ok (.getfield 56, 3) := by decide +kernel
theorem dX3_divide_22 : decode cX3_divide 22 = .ok (.bipush 12, 2) := by decide +kernel
theorem dX3_divide_24 : decode cX3_divide 24 = .ok (.ishl, 1) := by decide +kernel
theorem dX3_divide_25 : decode cX3_divide 25 = .ok (.aload_n 0, 1) := by decide +kernel
theorem dX3_divide_26 : decode cX3_divide 26 = .ok (.getfield 86, 3) := by decide +kernel
theorem dX3_divide_29 : decode cX3_divide 29 = .ok (.ior, 1) := by decide +kernel
theorem dX3_divide_30 : decode cX3_divide 30 = .ok (.istore_n 2, 1) := by decide +kernel
theorem dX3_divide_31 : decode cX3_divide 31 = .ok (.aload_n 0, 1) := by decide +kernel
theorem dX3_divide_32 : decode cX3_divide 32 = .ok (.iload_n 2, 1) := by decide +kernel
theorem dX3_divide_33 : decode cX3_divide 33 = .ok (.iload_n 1, 1) := by decide +kernel
theorem dX3_divide_34 : decode cX3_divide 34 = .ok (.idiv, 1) := by decide +kernel
theorem dX3_divide_35 : decode cX3_divide 35 = .ok (.putfield 86, 3) := by decide +kernel
theorem dX3_divide_38 : decode cX3_divide 38 = .ok (.aload_n 0, 1) := by decide +kernel
theorem dX3_divide_39 : decode cX3_divide 39 = .ok (.iload_n 2, 1) := by decide +kernel
theorem dX3_divide_40 : decode cX3_divide 40 = .ok (.iload_n 1, 1) := by decide +kernel
theorem dX3_divide_41 : decode cX3_divide 41 = .ok (.irem, 1) := by decide +kernel
theorem dX3_divide_42 : decode cX3_divide 42 = .ok (.putfield 56, 3) := by decide +kernel
theorem dX3_divide_45 : decode cX3_divide 45 = .ok (.aload_n 0, 1) := by decide +kernel
theorem dX3_divide_46 : decode cX3_divide 46 = .ok (.iconst 0, 1) := by decide +kernel
theorem dX3_divide_47 : decode cX3_divide 47 = .ok (.putfield 59, 3) := by decide +kernel
theorem dX3_divide_50 : decode cX3_divide 50 = .ok (.return_, 1) := by decide +kernel
theorem dX3_shift_0 : decode cX3_shift 0 = .ok (.aload_n 0, 1) := by decide +kernel
theorem dX3_shift_1 : decode cX3_shift 1 = .ok (.getfield 56, 3) := by decide +kernel
theorem dX3_shift_4 : decode cX3_shift 4 = .ok (.bipush 12, 2) := by decide +kernel
theorem dX3_shift_6 : decode cX3_shift 6 = .ok (.ishl, 1) := by decide +kernel
theorem dX3_shift_7 : decode cX3_shift 7 = .ok (.aload_n 0, 1) := by decide +kernel
theorem dX3_shift_8 : decode cX3_shift 8 = .ok (.getfield 86, 3) := by decide +kernel
theorem dX3_shift_11 : decode cX3_shift 11 = .ok (.ior, 1) := by decide +kernel
theorem dX3_shift_12 : decode cX3_shift 12 = .ok (.istore_n 3, 1) := by decide +kernel
theorem dX3_shift_13 : decode cX3_shift 13 = .ok (.iload_n 1, 1) := by decide +kernel
theorem dX3_shift_14 : decode cX3_shift 14 = .ok (.bipush 12, 2) := by decide +kernel
theorem dX3_shift_16 : decode cX3_shift 16 = .ok (.if_icmp .ne 13, 3) := by decide +kernel
theorem dX3_shift_19 : decode cX3_shift 19 = .ok (.aload_n 0, 1) := by decide +kernel
theorem dX3_shift_20 : decode cX3_shift 20 = .ok (.getfield 56, 3) := by decide +kernel
theorem dX3_shift_23 : decode cX3_shift 23 = .ok (.bipush 11, 2) := by decide +kernel
theorem dX3_shift_25 : decode cX3_shift 25 = .ok (.ishr, 1) := by decide +kernel
theorem dX3_shift_26 : decode cX3_shift 26 = .ok (.goto 4, 3) := by decide +kernel
theorem dX3_shift_29 : decode cX3_shift 29 = .ok (.iconst 0, 1) := by decide +kernel
theorem dX3_shift_30 : decode cX3_shift 30 = .ok (.istore 4, 2) := by decide +kernel
theorem dX3_shift_32 : decode cX3_shift 32 = .ok (.iload_n 1, 1) := by decide +kernel
theorem dX3_shift_33 : decode cX3_shift 33 = .ok (.bipush 10, 2) := by decide +kernel
theorem dX3_shift_35 : decode cX3_shift 35 = .ok (.if_icmp .eq 9, 3) := by decide +kernel
theorem dX3_shift_38 : decode cX3_shift 38 = .ok (.aload_n 0, 1) := by decide +kernel
theorem dX3_shift_39 : decode cX3_shift 39 = .ok (.iload 4, 2) := by decide +kernel
theorem dX3_shift_41 : decode cX3_shift 41 = .ok (.putfield 59, 3) := by decide +kernel
theorem dX3_shift_44 : decode cX3_shift 44 = .ok (.iconst 0, 1) := by decide +kernel
theorem dX3_shift_45 : decode cX3_shift 45 = .ok (.istore 5, 2) := by decide +kernel
theorem dX3_shift_47 : decode cX3_shift 47 = .ok (.iload 5, 2) := by decide +kernel
theorem dX3_shift_49 : decode cX3_shift 49 = .ok (.iload_n 2, 1) := by decide +kernel
theorem dX3_shift_50 : decode cX3_shift 50 = .ok (.if_icmp .ge 45, 3) := by decide +kernel
theorem dX3_shift_53 : decode cX3_shift 53 = .ok (.iload_n 1, 1) := by decide +kernel
theorem dX3_shift_54 : decode cX3_shift 54 = .ok (.bipush 10, 2) := by decide +kernel
theorem dX3_shift_56 : decode cX3_shift 56 = .ok (.if_icmp .ne 23, 3) := by decide +kernel
theorem dX3_shift_59 : decode cX3_shift 59 = .ok (.aload_n 0, 1) := by decide +kernel
theorem dX3_shift_60 : decode cX3_shift 60 = .ok (.iload_n 3, 1) := by decide +kernel
theorem dX3_shift_61 : decode cX3_shift 61 = .ok (.bipush 23, 2) := by decide +kernel
theorem dX3_shift_63 : decode cX3_shift 63 = .ok (.ishr, 1) := by decide +kernel
theorem dX3_shift_64 : decode cX3_shift 64 = .ok (.iconst 1, 1) := by decide +kernel
theorem dX3_shift_65 : decode cX3_shift 65 = .ok (.iand, 1) := by decide +kernel
theorem dX3_shift_66 : decode cX3_shift 66 = .ok (.putfield 59, 3) := by decide +kernel
theorem dX3_shift_69 : decode cX3_shift 69 = .ok (.iload_n 3, 1) := by decide +kernel
theorem dX3_shift_70 : decode cX3_shift 70 = .ok (.iconst 1, 1) := by decide +kernel
theorem dX3_shift_71 : decode cX3_shift 71 = .ok (.ishl, 1) := by decide +kernel
theorem dX3_shift_72 : decode cX3_shift 72 = .ok (.ldc 102, 2) := by decide +kernel
theorem dX3_shift_74 : decode cX3_shift 74 = .ok (.iand, 1) := by decide +kernel
theorem dX3_shift_75 : decode cX3_shift 75 = .ok (.istore_n 3, 1) := by decide +kernel
theorem dX3_shift_76 : decode cX3_shift 76 = .ok (.goto 13, 3) := by decide +kernel
theorem dX3_shift_79 : decode cX3_shift 79 = .ok (.iload_n 3, 1) := by decide +kernel
theorem dX3_shift_80 : decode cX3_shift 80 = .ok (.iconst 1, 1) := by decide +kernel
theorem dX3_shift_81 : decode cX3_shift 81 = .ok (.ishr, 1) := by decide +kernel
theorem dX3_shift_82 : decode cX3_shift 82 = .ok (.iload 4, 2) := by decide +kernel
theorem dX3_shift_84 : decode cX3_shift 84 = .ok (.bipush 23, 2) := by decide +kernel
theorem dX3_shift_86 : decode cX3_shift 86 = .ok (.ishl, 1) := by decide +kernel
theorem dX3_shift_87 : decode cX3_shift 87 = .ok (.ior, 1) := by decide +kernel
theorem dX3_shift_88 : decode cX3_shift 88 = .ok (.istore_n 3, 1) := by decide +kernel
theorem dX3_shift_89 : decode cX3_shift 89 = .ok (.iinc 5 1, 3) := by decide +kernel
theorem dX3_shift_92 : decode cX3_shift 92 = .ok (.goto (-45), 3) := by decide +kernel
theorem dX3_shift_95 : decode cX3_shift 95 = .ok (.aload_n 0, 1) := by decide +kernel
theorem dX3_shift_96 : decode cX3_shift 96 = .ok (.iload_n 3, 1) := by decide +kernel
theorem dX3_shift_97 : decode cX3_shift 97 = .ok (.invokestatic 93, 3) := by decide +kernel
theorem dX3_shift_100 : decode cX3_shift 100 = .ok (.return_, 1) := by decide +kernel
theorem dX3_goWrong_0 : decode cX3_goWrong 0 = .ok (.aload_n 1, 1) := by decide +kernel
theorem dX3_goWrong_1 : decode cX3_goWrong 1 = .ok (.aload_n 0, 1) := by decide +kernel
theorem dX3_goWrong_2 : decode cX3_goWrong 2 = .ok (.getfield 15, 3) := by decide +kernel
theorem dX3_goWrong_5 : decode cX3_goWrong 5 = .ok (.putfield 18, 3) := by decide +kernel
theorem dX3_goWrong_8 : decode cX3_goWrong 8 = .ok (.aload_n 1, 1) := by decide +kernel
theorem dX3_goWrong_9 : decode cX3_goWrong 9 = .ok (.bipush 7, 2) := by decide +kernel
theorem dX3_goWrong_11 : decode cX3_goWrong 11 = .ok (.putfield 79, 3) := by decide +kernel
theorem dX3_goWrong_14 : decode cX3_goWrong 14 = .ok (.iconst 0, 1) := by decide +kernel
theorem dX3_goWrong_15 : decode cX3_goWrong 15 = .ok (.ireturn, 1) := by decide +kernel
theorem dX3_waitFor_0 : decode cX3_waitFor 0 = .ok (.aload_n 1, 1) := by decide +kernel
theorem dX3_waitFor_1 : decode cX3_waitFor 1 = .ok (.aload_n 0, 1) := by decide +kernel
theorem dX3_waitFor_2 : decode cX3_waitFor 2 = .ok (.getfield 15, 3) := by decide +kernel
theorem dX3_waitFor_5 : decode cX3_waitFor 5 = .ok (.putfield 18, 3) := by decide +kernel
theorem dX3_waitFor_8 : decode cX3_waitFor 8 = .ok (.aload_n 1, 1) := by decide +kernel
theorem dX3_waitFor_9 : decode cX3_waitFor 9 = .ok (.iload_n 2, 1) := by decide +kernel
theorem dX3_waitFor_10 : decode cX3_waitFor 10 = .ok (.putfield 79, 3) := by decide +kernel
theorem dX3_waitFor_13 : decode cX3_waitFor 13 = .ok (.iconst 0, 1) := by decide +kernel
theorem dX3_waitFor_14 : decode cX3_waitFor 14 = .ok (.ireturn, 1) := by decide +kernel
theorem dX3_callMonitor_0 : decode cX3_callMonitor 0 = .ok (.iload_n 2, 1) := by decide +kernel
theorem dX3_callMonitor_1 : decode cX3_callMonitor 1 = .ok (.lookupswitch 271 #[(3097, 155), (3098, 176), (3100, 190), (3102, 190), (3105, 208), (3106, 269), (3108, 215), (3110, 215), (3201, 269), (3202, 269), (3203, 269), (3212, 269), (3220, 269), (3228, 269), (3343, 228), (3344, 221), (3360, 238), (3361, 238)], 155) := by decide +kernel
theorem dX3_callMonitor_156 : decode cX3_callMonitor 156 = .ok (.aload_n 1, 1) := by decide +kernel
theorem dX3_callMonitor_157 : decode cX3_callMonitor 157 = .ok (.aload_n 1, 1) := by decide +kernel
theorem dX3_callMonitor_158 : decode cX3_callMonitor 158 = .ok (.getfield 103, 3) := by decide +kernel
theorem dX3_callMonitor_161 : decode cX3_callMonitor 161 = .ok (.invokevirtual 107, 3) := by decide +kernel
theorem dX3_callMonitor_164 : decode cX3_callMonitor 164 = .ok (.ifCond .ne 7, 3) := by decide +kernel
theorem dX3_callMonitor_167 : decode cX3_callMonitor 167 = .ok (.iconst 1, 1) := by decide +kernel
theorem dX3_callMonitor_168 : decode cX3_callMonitor 168 = .ok (.goto 4, 3) := by decide +kernel
theorem dX3_callMonitor_171 : decode cX3_callMonitor 171 = .ok (.iconst 0, 1) := by decide +kernel
theorem dX3_callMonitor_172 : decode cX3_callMonitor 172 = .ok (.invokestatic 62, 3) := by decide +kernel
theorem dX3_callMonitor_175 : decode cX3_callMonitor 175 = .ok (.iconst 1, 1) := by decide +kernel
theorem dX3_callMonitor_176 : decode cX3_callMonitor 176 = .ok (.ireturn, 1) := by decide +kernel
theorem dX3_callMonitor_177 : decode cX3_callMonitor 177 = .ok (.aload_n 1, 1) := by decide +kernel
theorem dX3_callMonitor_178 : decode cX3_callMonitor 178 = .ok (.iconst 0, 1) := by decide +kernel
theorem dX3_callMonitor_179 : decode cX3_callMonitor 179 = .ok (.putfield 56, 3) := by decide +kernel
theorem dX3_callMonitor_182 : decode cX3_callMonitor 182 = .ok (.aload_n 1, 1) := by decide +kernel
theorem dX3_callMonitor_183 : decode cX3_callMonitor 183 = .ok (.getfield 103, 3) := by decide +kernel
theorem dX3_callMonitor_186 : decode cX3_callMonitor 186 = .ok (.invokevirtual 113, 3) := by decide +kernel
theorem dX3_callMonitor_189 : decode cX3_callMonitor 189 = .ok (.iconst 1, 1) := by decide +kernel
theorem dX3_callMonitor_190 : decode cX3_callMonitor 190 = .ok (.ireturn, 1) := by decide +kernel
theorem dX3_callMonitor_191 : decode cX3_callMonitor 191 = .ok (.aload_n 0, 1) := by decide +kernel
theorem dX3_callMonitor_192 : decode cX3_callMonitor 192 = .ok (.aload_n 1, 1) := by decide +kernel
theorem dX3_callMonitor_193 : decode cX3_callMonitor 193 = .ok (.iload_n 2, 1) := by decide +kernel
theorem dX3_callMonitor_194 : decode cX3_callMonitor 194 = .ok (.sipush 3102, 3) := by decide +kernel
theorem dX3_callMonitor_197 : decode cX3_callMonitor 197 = .ok (.if_icmp .ne 7, 3) := by decide +kernel
theorem dX3_callMonitor_200 : decode cX3_callMonitor 200 = .ok (.iconst 1, 1) := by decide +kernel
theorem dX3_callMonitor_201 : decode cX3_callMonitor 201 = .ok (.goto 4, 3) := by decide +kernel
theorem dX3_callMonitor_204 : decode cX3_callMonitor 204 = .ok (.iconst 0, 1) := by decide +kernel
theorem dX3_callMonitor_205 : decode cX3_callMonitor 205 = .ok (.invokevirtual 116, 3) := by decide +kernel
theorem dX3_callMonitor_208 : decode cX3_callMonitor 208 = .ok (.ireturn, 1) := by decide +kernel
theorem dX3_callMonitor_209 : decode cX3_callMonitor 209 = .ok (.aload_n 1, 1) := by decide +kernel
theorem dX3_callMonitor_210 : decode cX3_callMonitor 210 = .ok (.iconst 1, 1) := by decide +kernel
theorem dX3_callMonitor_211 : decode cX3_callMonitor 211 = .ok (.invokestatic 62, 3) := by decide +kernel
theorem dX3_callMonitor_214 : decode cX3_callMonitor 214 = .ok (.iconst 1, 1) := by decide +kernel
theorem dX3_callMonitor_215 : decode cX3_callMonitor 215 = .ok (.ireturn, 1) := by decide +kernel
theorem dX3_callMonitor_216 : decode cX3_callMonitor 216 = .ok (.aload_n 0, 1) := by decide +kernel
theorem dX3_callMonitor_217 : decode cX3_callMonitor 217 = .ok (.aload_n 1, 1) := by decide +kernel
theorem dX3_callMonitor_218 : decode cX3_callMonitor 218 = .ok (.invokevirtual 120, 3) := by decide +kernel
theorem dX3_callMonitor_221 : decode cX3_callMonitor 221 = .ok (.ireturn, 1) := by decide +kernel
theorem dX3_callMonitor_222 : decode cX3_callMonitor 222 = .ok (.aload_n 0, 1) := by decide +kernel
theorem dX3_callMonitor_223 : decode cX3_callMonitor 223 = .ok (.aload_n 1, 1) := by decide +kernel
theorem dX3_callMonitor_224 : decode cX3_callMonitor 224 = .ok (.invokevirtual 123, 3) := by decide +kernel
theorem dX3_callMonitor_227 : decode cX3_callMonitor 227 = .ok (.iconst 1, 1) := by decide +kernel
theorem dX3_callMonitor_228 : decode cX3_callMonitor 228 = .ok (.ireturn, 1) := by decide +kernel
theorem dX3_callMonitor_229 : decode cX3_callMonitor 229 = .ok (.aload_n 1, 1) := by decide +kernel
theorem dX3_callMonitor_230 : decode cX3_callMonitor 230 = .ok (.aload_n 1, 1) := by decide +kernel
theorem dX3_callMonitor_231 : decode cX3_callMonitor 231 = .ok (.getfield 127, 3) := by decide +kernel
theorem dX3_callMonitor_234 : decode cX3_callMonitor 234 = .ok (.putfield 56, 3) := by decide +kernel
theorem dX3_callMonitor_237 : decode cX3_callMonitor 237 = .ok (.iconst 1, 1) := by decide +kernel
theorem dX3_callMonitor_238 : decode cX3_callMonitor 238 = .ok (.ireturn, 1) := by decide +kernel
theorem dX3_callMonitor_239 : decode cX3_callMonitor 239 = .ok (.aload_n 1, 1) := by decide +kernel
theorem dX3_callMonitor_240 : decode cX3_callMonitor 240 = .ok (.iconst 5, 1) := by decide +kernel
theorem dX3_callMonitor_241 : decode cX3_callMonitor 241 = .ok (.putfield 79, 3) := by decide +kernel
theorem dX3_callMonitor_244 : decode cX3_callMonitor 244 = .ok (.aload_n 1, 1) := by decide +kernel
theorem dX3_callMonitor_245 : decode cX3_callMonitor 245 = .ok (.iload_n 2, 1) := by decide +kernel
theorem dX3_callMonitor_246 : decode cX3_callMonitor 246 = .ok (.sipush 3360, 3) := by decide +kernel
theorem dX3_callMonitor_249 : decode cX3_callMonitor 249 = .ok (.if_icmp .ne 7, 3) := by decide +kernel
theorem dX3_callMonitor_252 : decode cX3_callMonitor 252 = .ok (.iconst 3, 1) := by decide +kernel
theorem dX3_callMonitor_253 : decode cX3_callMonitor 253 = .ok (.goto 4, 3) := by decide +kernel
theorem dX3_callMonitor_256 : decode cX3_callMonitor 256 = .ok (.iconst 4, 1) := by decide +kernel
theorem dX3_callMonitor_257 : decode cX3_callMonitor 257 = .ok (.putfield 130, 3) := by decide +kernel
theorem dX3_callMonitor_260 : decode cX3_callMonitor 260 = .ok (.aload_n 1, 1) := by decide +kernel
theorem dX3_callMonitor_261 : decode cX3_callMonitor 261 = .ok (.aload_n 0, 1) := by decide +kernel
theorem dX3_callMonitor_262 : decode cX3_callMonitor 262 = .ok (.getfield 9, 3) := by decide +kernel
theorem dX3_callMonitor_265 : decode cX3_callMonitor 265 = .ok (.putfield 133, 3) := by decide +kernel
theorem dX3_callMonitor_268 : decode cX3_callMonitor 268 = .ok (.iconst 0, 1) := by decide +kernel
theorem dX3_callMonitor_269 : decode cX3_callMonitor 269 = .ok (.ireturn, 1) := by decide +kernel
theorem dX3_callMonitor_270 : decode cX3_callMonitor 270 = .ok (.iconst 1, 1) := by decide +kernel
theorem dX3_callMonitor_271 : decode cX3_callMonitor 271 = .ok (.ireturn, 1) := by decide +kernel
theorem dX3_callMonitor_272 : decode cX3_callMonitor 272 = .ok (.aload_n 0, 1) := by decide +kernel
theorem dX3_callMonitor_273 : decode cX3_callMonitor 273 = .ok (.aload_n 1, 1) := by decide +kernel
theorem dX3_callMonitor_274 : decode cX3_callMonitor 274 = .ok (.invokevirtual 82, 3) := by decide +kernel
theorem dX3_callMonitor_277 : decode cX3_callMonitor 277 = .ok (.ireturn, 1) := by decide +kernel
theorem dX3_readKey_0 : decode cX3_readKey 0 = .ok (.aload_n 1, 1) := by decide +kernel
theorem dX3_readKey_1 : decode cX3_readKey 1 = .ok (.getfield 103, 3) := by decide +kernel
theorem dX3_readKey_4 : decode cX3_readKey 4 = .ok (.invokevirtual 107, 3) := by decide +kernel
theorem dX3_readKey_7 : decode cX3_readKey 7 = .ok (.ifCond .eq 10, 3) := by decide +kernel
theorem dX3_readKey_10 : decode cX3_readKey 10 = .ok (.aload_n 0, 1) := by decide +kernel
theorem dX3_readKey_11 : decode cX3_readKey 11 = .ok (.aload_n 1, 1) := by decide +kernel
theorem dX3_readKey_12 : decode cX3_readKey 12 = .ok (.iconst 2, 1) := by decide +kernel
theorem dX3_readKey_13 : decode cX3_readKey 13 = .ok (.invokevirtual 136, 3) := by decide +kernel
theorem dX3_readKey_16 : decode cX3_readKey 16 = .ok (.ireturn, 1) := by decide +kernel
theorem dX3_readKey_17 : decode cX3_readKey 17 = .ok (.aload_n 1, 1) := by decide +kernel
theorem dX3_readKey_18 : decode cX3_readKey 18 = .ok (.getfield 103, 3) := by decide +kernel
theorem dX3_readKey_21 : decode cX3_readKey 21 = .ok (.invokevirtual 139, 3) := by decide +kernel
theorem dX3_readKey_24 : decode cX3_readKey 24 = .ok (.sipush 128, 3) := by decide +kernel
theorem dX3_readKey_27 : decode cX3_readKey 27 = .ok (.ior, 1) := by decide +kernel
theorem dX3_readKey_28 : decode cX3_readKey 28 = .ok (.istore_n 3, 1) := by decide +kernel
theorem dX3_readKey_29 : decode cX3_readKey 29 = .ok (.iload_n 2, 1) := by decide +kernel
theorem dX3_readKey_30 : decode cX3_readKey 30 = .ok (.ifCond .eq 18, 3) := by decide +kernel
theorem dX3_readKey_33 : decode cX3_readKey 33 = .ok (.aload_n 1, 1) := by decide +kernel
theorem dX3_readKey_34 : decode cX3_readKey 34 = .ok (.iload_n 3, 1) := by decide +kernel
theorem dX3_readKey_35 : decode cX3_readKey 35 = .ok (.putfield 56, 3) := by decide +kernel
theorem dX3_readKey_38 : decode cX3_readKey 38 = .ok (.aload_n 1, 1) := by decide +kernel
theorem dX3_readKey_39 : decode cX3_readKey 39 = .ok (.getfield 103, 3) := by decide +kernel
theorem dX3_readKey_42 : decode cX3_readKey 42 = .ok (.invokevirtual 113, 3) := by decide +kernel
theorem dX3_readKey_45 : decode cX3_readKey 45 = .ok (.goto 13, 3) := by decide +kernel
theorem dX3_readKey_48 : decode cX3_readKey 48 = .ok (.aload_n 1, 1) := by decide +kernel
theorem dX3_readKey_49 : decode cX3_readKey 49 = .ok (.dup, 1) := by decide +kernel
theorem dX3_readKey_50 : decode cX3_readKey 50 = .ok (.getfield 56, 3) := by decide +kernel
theorem dX3_readKey_53 : decode cX3_readKey 53 = .ok (.iload_n 3, 1) := by decide +kernel
theorem dX3_readKey_54 : decode cX3_readKey 54 = .ok (.ior, 1) := by decide +kernel
theorem dX3_readKey_55 : decode cX3_readKey 55 = .ok (.putfield 56, 3) := by decide +kernel
theorem dX3_readKey_58 : decode cX3_readKey 58 = .ok (.iconst 1, 1) := by decide +kernel
theorem dX3_readKey_59 : decode cX3_readKey 59 = .ok (.ireturn, 1) := by decide +kernel
theorem dX3_sendLetter_0 : decode cX3_sendLetter 0 = .ok (.aload_n 1, 1) := by decide +kernel
theorem dX3_sendLetter_1 : decode cX3_sendLetter 1 = .ok (.getfield 143, 3) := by decide +kernel
theorem dX3_sendLetter_4 : decode cX3_sendLetter 4 = .ok (.invokevirtual 146, 3) := by decide +kernel
theorem dX3_sendLetter_7 : decode cX3_sendLetter 7 = .ok (.ifCond .eq 10, 3) := by decide +kernel
theorem dX3_sendLetter_10 : decode cX3_sendLetter 10 = .ok (.aload_n 0, 1) := by decide +kernel
theorem dX3_sendLetter_11 : decode cX3_sendLetter 11 = .ok (.aload_n 1, 1) := by decide +kernel
theorem dX3_sendLetter_12 : decode cX3_sendLetter 12 = .ok (.iconst 3, 1) := by decide +kernel
theorem dX3_sendLetter_13 : decode cX3_sendLetter 13 = .ok (.invokevirtual 136, 3) := by decide +kernel
theorem dX3_sendLetter_16 : decode cX3_sendLetter 16 = .ok (.ireturn, 1) := by decide +kernel
theorem dX3_sendLetter_17 : decode cX3_sendLetter 17 = .ok (.aload_n 1, 1) := by decide +kernel
theorem dX3_sendLetter_18 : decode cX3_sendLetter 18 = .ok (.getfield 143, 3) := by decide +kernel
theorem dX3_sendLetter_21 : decode cX3_sendLetter 21 = .ok (.aload_n 1, 1) := by decide +kernel
theorem dX3_sendLetter_22 : decode cX3_sendLetter 22 = .ok (.getfield 56, 3) := by decide +kernel
theorem dX3_sendLetter_25 : decode cX3_sendLetter 25 = .ok (.bipush 127, 2) := by decide +kernel
theorem dX3_sendLetter_27 : decode cX3_sendLetter 27 = .ok (.iand, 1) := by decide +kernel
theorem dX3_sendLetter_28 : decode cX3_sendLetter 28 = .ok (.invokevirtual 149, 3) := by decide +kernel
theorem dX3_sendLetter_31 : decode cX3_sendLetter 31 = .ok (.iconst 1, 1) := by decide +kernel
theorem dX3_sendLetter_32 : decode cX3_sendLetter 32 = .ok (.ireturn, 1) := by decide +kernel
theorem dX3_fallAsleep_0 : decode cX3_fallAsleep 0 = .ok (.aload_n 1, 1) := by decide +kernel
theorem dX3_fallAsleep_1 : decode cX3_fallAsleep 1 = .ok (.getfield 56, 3) := by decide +kernel
theorem dX3_fallAsleep_4 : decode cX3_fallAsleep 4 = .ok (.ifCond .eq 24, 3) := by decide +kernel
theorem dX3_fallAsleep_7 : decode cX3_fallAsleep 7 = .ok (.aload_n 1, 1) := by decide +kernel
theorem dX3_fallAsleep_8 : decode cX3_fallAsleep 8 = .ok (.iconst 4, 1) := by decide +kernel
theorem dX3_fallAsleep_9 : decode cX3_fallAsleep 9 = .ok (.putfield 79, 3) := by decide +kernel
theorem dX3_fallAsleep_12 : decode cX3_fallAsleep 12 = .ok (.aload_n 1, 1) := by decide +kernel
theorem dX3_fallAsleep_13 : decode cX3_fallAsleep 13 = .ok (.aload_n 0, 1) := by decide +kernel
theorem dX3_fallAsleep_14 : decode cX3_fallAsleep 14 = .ok (.getfield 9, 3) := by decide +kernel
theorem dX3_fallAsleep_17 : decode cX3_fallAsleep 17 = .ok (.bipush 16, 2) := by decide +kernel
theorem dX3_fallAsleep_19 : decode cX3_fallAsleep 19 = .ok (.aload_n 1, 1) := by decide +kernel
theorem dX3_fallAsleep_20 : decode cX3_fallAsleep 20 = .ok (.getfield 56, 3) := by decide +kernel
theorem dX3_fallAsleep_23 : decode cX3_fallAsleep 23 = .ok (.imul, 1) := by decide +kernel
theorem dX3_fallAsleep_24 : decode cX3_fallAsleep 24 = .ok (.iadd, 1) := by decide +kernel
theorem dX3_fallAsleep_25 : decode cX3_fallAsleep 25 = .ok (.putfield 153, 3) := by decide +kernel
theorem dX3_fallAsleep_28 : decode cX3_fallAsleep 28 = .ok (.aload_n 1, 1) := by decide +kernel
theorem dX3_fallAsleep_29 : decode cX3_fallAsleep 29 = .ok (.iconst 0, 1) := by decide +kernel
theorem dX3_fallAsleep_30 : decode cX3_fallAsleep 30 = .ok (.putfield 56, 3) := by decide +kernel
theorem dX3_fallAsleep_33 : decode cX3_fallAsleep 33 = .ok (.return_, 1) := by decide +kernel
theorem dX4_init_0 : decode cX4_init 0 = .ok (.aload_n 0, 1) := by decide +kernel
theorem dX4_init_1 : decode cX4_init 1 = .ok (.invokespecial 3, 3) := by decide +kernel
theorem dX4_init_4 : decode cX4_init 4 = .ok (.aload_n 0, 1) := by decide +kernel
theorem dX4_init_5 : decode cX4_init 5 = .ok (.getstatic 9, 3) := by decide +kernel
theorem dX4_init_8 : decode cX4_init 8 = .ok (.arraylength, 1) := by decide +kernel
theorem dX4_init_9 : decode cX4_init 9 = .ok (.sipush 1001, 3) := by decide +kernel
theorem dX4_init_12 : decode cX4_init 12 = .ok (.iadd, 1) := by decide +kernel
theorem dX4_init_13 : decode cX4_init 13 = .ok (.newarray .long, 2) := by decide +kernel
theorem dX4_init_15 : decode cX4_init 15 = .ok (.putfield 15, 3) := by decide +kernel
theorem dX4_init_18 : decode cX4_init 18 = .ok (.aload_n 0, 1) := by decide +kernel
theorem dX4_init_19 : decode cX4_init 19 = .ok (.getstatic 9, 3) := by decide +kernel
theorem dX4_init_22 : decode cX4_init 22 = .ok (.arraylength, 1) := by decide +kernel
theorem dX4_init_23 : decode cX4_init 23 = .ok (.sipush 1001, 3) := by decide +kernel
theorem dX4_init_26 : decode cX4_init 26 = .ok (.iadd, 1) := by decide +kernel
theorem dX4_init_27 : decode cX4_init 27 = .ok (.newarray .int, 2) := by decide +kernel
theorem dX4_init_29 : decode cX4_init 29 = .ok (.putfield 19, 3) := by decide +kernel
theorem dX4_init_32 : decode cX4_init 32 = .ok (.aload_n 0, 1) := by decide +kernel
theorem dX4_init_33 : decode cX4_init 33 = .ok (.getstatic 9, 3) := by decide +kernel
theorem dX4_init_36 : decode cX4_init 36 = .ok (.arraylength, 1) := by decide +kernel
theorem dX4_init_37 : decode cX4_init 37 = .ok (.sipush 1001, 3) := by decide +kernel
theorem dX4_init_40 : decode cX4_init 40 = .ok (.iadd, 1) := by decide +kernel
theorem dX4_init_41 : decode cX4_init 41 = .ok (.newarray .int, 2) := by decide +kernel
theorem dX4_init_43 : decode cX4_init 43 = .ok (.putfield 22, 3) := by decide +kernel
theorem dX4_init_46 : decode cX4_init 46 = .ok (.aload_n 0, 1) := by decide +kernel
theorem dX4_init_47 : decode cX4_init 47 = .ok (.iconst 0, 1) := by decide +kernel
theorem dX4_init_48 : decode cX4_init 48 = .ok (.putfield 25, 3) := by decide +kernel
theorem dX4_init_51 : decode cX4_init 51 = .ok (.aload_n 0, 1) := by decide +kernel
theorem dX4_init_52 : decode cX4_init 52 = .ok (.iconst 0, 1) := by decide +kernel
theorem dX4_init_53 : decode cX4_init 53 = .ok (.putfield 29, 3) := by decide +kernel
theorem dX4_init_56 : decode cX4_init 56 = .ok (.lconst 0, 1) := by decide +kernel
theorem dX4_init_57 : decode cX4_init 57 = .ok (.lstore_n 1, 1) := by decide +kernel
theorem dX4_init_58 : decode cX4_init 58 = .ok (.iconst 0, 1) := by decide +kernel
theorem dX4_init_59 : decode cX4_init 59 = .ok (.istore_n 3, 1) := by decide +kernel
theorem dX4_init_60 : decode cX4_init 60 = .ok (.iload_n 3, 1) := by decide +kernel
theorem dX4_init_61 : decode cX4_init 61 = .ok (.ldc 32, 2) := by decide +kernel
theorem dX4_init_63 : decode cX4_init 63 = .ok (.invokevirtual 34, 3) := by decide +kernel
theorem dX4_init_66 : decode cX4_init 66 = .ok (.if_icmp .ge 94, 3) := by decide +kernel
theorem dX4_init_69 : decode cX4_init 69 = .ok (.ldc 32, 2) := by decide +kernel
theorem dX4_init_71 : decode cX4_init 71 = .ok (.iload_n 3, 1) := by decide +kernel
theorem dX4_init_72 : decode cX4_init 72 = .ok (.invokevirtual 40, 3) := by decide +kernel
theorem dX4_init_75 : decode cX4_init 75 = .ok (.istore 4, 2) := by decide +kernel
theorem dX4_init_77 : decode cX4_init 77 = .ok (.iload 4, 2) := by decide +kernel
theorem dX4_init_79 : decode cX4_init 79 = .ok (.bipush 32, 2) := by decide +kernel
theorem dX4_init_81 : decode cX4_init 81 = .ok (.if_icmp .eq 13, 3) := by decide +kernel
theorem dX4_init_84 : decode cX4_init 84 = .ok (.lload_n 1, 1) := by decide +kernel
theorem dX4_init_85 : decode cX4_init 85 = .ok (.iload 4, 2) := by decide +kernel
theorem dX4_init_87 : decode cX4_init 87 = .ok (.invokestatic 44, 3) := by decide +kernel
theorem dX4_init_90 : decode cX4_init 90 = .ok (.lstore_n 1, 1) := by decide +kernel
theorem dX4_init_91 : decode cX4_init 91 = .ok (.goto 63, 3) := by decide +kernel
theorem dX4_init_94 : decode cX4_init 94 = .ok (.aload_n 0, 1) := by decide +kernel
theorem dX4_init_95 : decode cX4_init 95 = .ok (.getfield 25, 3) := by decide +kernel
theorem dX4_init_98 : decode cX4_init 98 = .ok (.getstatic 9, 3) := by decide +kernel
theorem dX4_init_101 : decode cX4_init 101 = .ok (.arraylength, 1) := by decide +kernel
theorem dX4_init_102 : decode cX4_init 102 = .ok (.if_icmp .ge 52, 3) := by decide +kernel
theorem dX4_init_105 : decode cX4_init 105 = .ok (.aload_n 0, 1) := by decide +kernel
theorem dX4_init_106 : decode cX4_init 106 = .ok (.getfield 15, 3) := by decide +kernel
theorem dX4_init_109 : decode cX4_init 109 = .ok (.aload_n 0, 1) := by decide +kernel
theorem dX4_init_110 : decode cX4_init 110 = .ok (.getfield 25, 3) := by decide +kernel
theorem dX4_init_113 : decode cX4_init 113 = .ok (.lload_n 1, 1) := by decide +kernel
theorem dX4_init_114 : decode cX4_init 114 = .ok (.lastore, 1) := by decide +kernel
theorem dX4_init_115 : decode cX4_init 115 = .ok (.aload_n 0, 1) := by decide +kernel
theorem dX4_init_116 : decode cX4_init 116 = .ok (.getfield 19, 3) := by decide +kernel
theorem dX4_init_119 : decode cX4_init 119 = .ok (.aload_n 0, 1) := by decide +kernel
theorem dX4_init_120 : decode cX4_init 120 = .ok (.getfield 25, 3) := by decide +kernel
theorem dX4_init_123 : decode cX4_init 123 = .ok (.getstatic 9, 3) := by decide +kernel
theorem dX4_init_126 : decode cX4_init 126 = .ok (.aload_n 0, 1) := by decide +kernel
theorem dX4_init_127 : decode cX4_init 127 = .ok (.getfield 25, 3) := by decide +kernel
theorem dX4_init_130 : decode cX4_init 130 = .ok (.iaload, 1) := by decide +kernel
theorem dX4_init_131 : decode cX4_init 131 = .ok (.iastore, 1) := by decide +kernel
theorem dX4_init_132 : decode cX4_init 132 = .ok (.aload_n 0, 1) := by decide +kernel
theorem dX4_init_133 : decode cX4_init 133 = .ok (.getfield 22, 3) := by decide +kernel
theorem dX4_init_136 : decode cX4_init 136 = .ok (.aload_n 0, 1) := by decide +kernel
theorem dX4_init_137 : decode cX4_init 137 = .ok (.getfield 25, 3) := by decide +kernel
