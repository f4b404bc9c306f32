theorem dX9_scanToken_96 : decode cX9_scanToken 96 = .ok (.iconst 3, 1) := by decide +kernel
theorem dX9_scanToken_97 : decode cX9_scanToken 97 = .ok (.aload_n 0, 1) := by decide +kernel
theorem dX9_scanToken_98 : decode cX9_scanToken 98 = .ok (.getfield 34, 3) := by decide +kernel
theorem dX9_scanToken_101 : decode cX9_scanToken 101 = .ok (.iconst 2, 1) := by decide +kernel
theorem dX9_scanToken_102 : decode cX9_scanToken 102 = .ok (.iadd, 1) := by decide +kernel
theorem dX9_scanToken_103 : decode cX9_scanToken 103 = .ok (.iload_n 2, 1) := by decide +kernel
theorem dX9_scanToken_104 : decode cX9_scanToken 104 = .ok (.sipush 128, 3) := by decide +kernel
theorem dX9_scanToken_107 : decode cX9_scanToken 107 = .ok (.ior, 1) := by decide +kernel
theorem dX9_scanToken_108 : decode cX9_scanToken 108 = .ok (.iconst 0, 1) := by decide +kernel
theorem dX9_scanToken_109 : decode cX9_scanToken 109 = .ok (.invokevirtual 69, 3) := by decide +kernel
theorem dX9_scanToken_112 : decode cX9_scanToken 112 = .ok (.goto 17, 3) := by decide +kernel
theorem dX9_scanToken_115 : decode cX9_scanToken 115 = .ok (.aload_n 0, 1) := by decide +kernel
theorem dX9_scanToken_116 : decode cX9_scanToken 116 = .ok (.bipush 6, 2) := by decide +kernel
theorem dX9_scanToken_118 : decode cX9_scanToken 118 = .ok (.aload_n 0, 1) := by decide +kernel
theorem dX9_scanToken_119 : decode cX9_scanToken 119 = .ok (.getfield 34, 3) := by decide +kernel
theorem dX9_scanToken_122 : decode cX9_scanToken 122 = .ok (.iconst 1, 1) := by decide +kernel
theorem dX9_scanToken_123 : decode cX9_scanToken 123 = .ok (.iadd, 1) := by decide +kernel
theorem dX9_scanToken_124 : decode cX9_scanToken 124 = .ok (.iconst 0, 1) := by decide +kernel
theorem dX9_scanToken_125 : decode cX9_scanToken 125 = .ok (.iconst 0, 1) := by decide +kernel
theorem dX9_scanToken_126 : decode cX9_scanToken 126 = .ok (.invokevirtual 69, 3) := by decide +kernel
theorem dX9_scanToken_129 : decode cX9_scanToken 129 = .ok (.ireturn, 1) := by decide +kernel
theorem dX9_scanToken_130 : decode cX9_scanToken 130 = .ok (.ldc 89, 2) := by decide +kernel
theorem dX9_scanToken_132 : decode cX9_scanToken 132 = .ok (.iload_n 1, 1) := by decide +kernel
theorem dX9_scanToken_133 : decode cX9_scanToken 133 = .ok (.i2c, 1) := by decide +kernel
theorem dX9_scanToken_134 : decode cX9_scanToken 134 = .ok (.invokevirtual 91, 3) := by decide +kernel
theorem dX9_scanToken_137 : decode cX9_scanToken 137 = .ok (.ifCond .lt 7, 3) := by decide +kernel
theorem dX9_scanToken_140 : decode cX9_scanToken 140 = .ok (.iconst 1, 1) := by decide +kernel
theorem dX9_scanToken_141 : decode cX9_scanToken 141 = .ok (.goto 4, 3) := by decide +kernel
theorem dX9_scanToken_144 : decode cX9_scanToken 144 = .ok (.iconst 0, 1) := by decide +kernel
theorem dX9_scanToken_145 : decode cX9_scanToken 145 = .ok (.istore_n 2, 1) := by decide +kernel
theorem dX9_scanToken_146 : decode cX9_scanToken 146 = .ok (.aload_n 0, 1) := by decide +kernel
theorem dX9_scanToken_147 : decode cX9_scanToken 147 = .ok (.iload_n 2, 1) := by decide +kernel
theorem dX9_scanToken_148 : decode cX9_scanToken 148 = .ok (.ifCond .eq 7, 3) := by decide +kernel
theorem dX9_scanToken_151 : decode cX9_scanToken 151 = .ok (.iload_n 1, 1) := by decide +kernel
theorem dX9_scanToken_152 : decode cX9_scanToken 152 = .ok (.goto 5, 3) := by decide +kernel
theorem dX9_scanToken_155 : decode cX9_scanToken 155 = .ok (.bipush 6, 2) := by decide +kernel
theorem dX9_scanToken_157 : decode cX9_scanToken 157 = .ok (.aload_n 0, 1) := by decide +kernel
theorem dX9_scanToken_158 : decode cX9_scanToken 158 = .ok (.getfield 34, 3) := by decide +kernel
theorem dX9_scanToken_161 : decode cX9_scanToken 161 = .ok (.iconst 1, 1) := by decide +kernel
theorem dX9_scanToken_162 : decode cX9_scanToken 162 = .ok (.iadd, 1) := by decide +kernel
theorem dX9_scanToken_163 : decode cX9_scanToken 163 = .ok (.iconst 0, 1) := by decide +kernel
theorem dX9_scanToken_164 : decode cX9_scanToken 164 = .ok (.iconst 0, 1) := by decide +kernel
theorem dX9_scanToken_165 : decode cX9_scanToken 165 = .ok (.invokevirtual 69, 3) := by decide +kernel
theorem dX9_scanToken_168 : decode cX9_scanToken 168 = .ok (.ireturn, 1) := by decide +kernel
theorem dX9_append_0 : decode cX9_append 0 = .ok (.aload_n 0, 1) := by decide +kernel
theorem dX9_append_1 : decode cX9_append 1 = .ok (.getfield 24, 3) := by decide +kernel
theorem dX9_append_4 : decode cX9_append 4 = .ok (.aload_n 0, 1) := by decide +kernel
theorem dX9_append_5 : decode cX9_append 5 = .ok (.getfield 9, 3) := by decide +kernel
theorem dX9_append_8 : decode cX9_append 8 = .ok (.arraylength, 1) := by decide +kernel
theorem dX9_append_9 : decode cX9_append 9 = .ok (.if_icmp .ge 57, 3) := by decide +kernel
theorem dX9_append_12 : decode cX9_append 12 = .ok (.aload_n 0, 1) := by decide +kernel
theorem dX9_append_13 : decode cX9_append 13 = .ok (.getfield 9, 3) := by decide +kernel
theorem dX9_append_16 : decode cX9_append 16 = .ok (.aload_n 0, 1) := by decide +kernel
theorem dX9_append_17 : decode cX9_append 17 = .ok (.getfield 24, 3) := by decide +kernel
theorem dX9_append_20 : decode cX9_append 20 = .ok (.iload_n 1, 1) := by decide +kernel
theorem dX9_append_21 : decode cX9_append 21 = .ok (.iastore, 1) := by decide +kernel
theorem dX9_append_22 : decode cX9_append 22 = .ok (.aload_n 0, 1) := by decide +kernel
theorem dX9_append_23 : decode cX9_append 23 = .ok (.getfield 15, 3) := by decide +kernel
theorem dX9_append_26 : decode cX9_append 26 = .ok (.aload_n 0, 1) := by decide +kernel
theorem dX9_append_27 : decode cX9_append 27 = .ok (.getfield 24, 3) := by decide +kernel
theorem dX9_append_30 : decode cX9_append 30 = .ok (.aload_n 0, 1) := by decide +kernel
theorem dX9_append_31 : decode cX9_append 31 = .ok (.getfield 34, 3) := by decide +kernel
theorem dX9_append_34 : decode cX9_append 34 = .ok (.iastore, 1) := by decide +kernel
theorem dX9_append_35 : decode cX9_append 35 = .ok (.aload_n 0, 1) := by decide +kernel
theorem dX9_append_36 : decode cX9_append 36 = .ok (.getfield 18, 3) := by decide +kernel
theorem dX9_append_39 : decode cX9_append 39 = .ok (.aload_n 0, 1) := by decide +kernel
theorem dX9_append_40 : decode cX9_append 40 = .ok (.getfield 24, 3) := by decide +kernel
theorem dX9_append_43 : decode cX9_append 43 = .ok (.iload_n 3, 1) := by decide +kernel
theorem dX9_append_44 : decode cX9_append 44 = .ok (.iastore, 1) := by decide +kernel
theorem dX9_append_45 : decode cX9_append 45 = .ok (.aload_n 0, 1) := by decide +kernel
theorem dX9_append_46 : decode cX9_append 46 = .ok (.getfield 21, 3) := by decide +kernel
theorem dX9_append_49 : decode cX9_append 49 = .ok (.aload_n 0, 1) := by decide +kernel
theorem dX9_append_50 : decode cX9_append 50 = .ok (.getfield 24, 3) := by decide +kernel
theorem dX9_append_53 : decode cX9_append 53 = .ok (.iload 4, 2) := by decide +kernel
theorem dX9_append_55 : decode cX9_append 55 = .ok (.iastore, 1) := by decide +kernel
theorem dX9_append_56 : decode cX9_append 56 = .ok (.aload_n 0, 1) := by decide +kernel
theorem dX9_append_57 : decode cX9_append 57 = .ok (.dup, 1) := by decide +kernel
theorem dX9_append_58 : decode cX9_append 58 = .ok (.getfield 24, 3) := by decide +kernel
theorem dX9_append_61 : decode cX9_append 61 = .ok (.iconst 1, 1) := by decide +kernel
theorem dX9_append_62 : decode cX9_append 62 = .ok (.iadd, 1) := by decide +kernel
theorem dX9_append_63 : decode cX9_append 63 = .ok (.putfield 24, 3) := by decide +kernel
theorem dX9_append_66 : decode cX9_append 66 = .ok (.aload_n 0, 1) := by decide +kernel
theorem dX9_append_67 : decode cX9_append 67 = .ok (.iload_n 2, 1) := by decide +kernel
theorem dX9_append_68 : decode cX9_append 68 = .ok (.putfield 34, 3) := by decide +kernel
theorem dX9_append_71 : decode cX9_append 71 = .ok (.iload_n 1, 1) := by decide +kernel
theorem dX9_append_72 : decode cX9_append 72 = .ok (.ireturn, 1) := by decide +kernel
theorem dX9_scanName_0 : decode cX9_scanName 0 = .ok (.lconst 0, 1) := by decide +kernel
theorem dX9_scanName_1 : decode cX9_scanName 1 = .ok (.lstore_n 1, 1) := by decide +kernel
theorem dX9_scanName_2 : decode cX9_scanName 2 = .ok (.aload_n 0, 1) := by decide +kernel
theorem dX9_scanName_3 : decode cX9_scanName 3 = .ok (.getfield 34, 3) := by decide +kernel
theorem dX9_scanName_6 : decode cX9_scanName 6 = .ok (.istore_n 3, 1) := by decide +kernel
theorem dX9_scanName_7 : decode cX9_scanName 7 = .ok (.iload_n 3, 1) := by decide +kernel
theorem dX9_scanName_8 : decode cX9_scanName 8 = .ok (.aload_n 0, 1) := by decide +kernel
theorem dX9_scanName_9 : decode cX9_scanName 9 = .ok (.getfield 31, 3) := by decide +kernel
theorem dX9_scanName_12 : decode cX9_scanName 12 = .ok (.if_icmp .ge 41, 3) := by decide +kernel
theorem dX9_scanName_15 : decode cX9_scanName 15 = .ok (.aload_n 0, 1) := by decide +kernel
theorem dX9_scanName_16 : decode cX9_scanName 16 = .ok (.iload_n 3, 1) := by decide +kernel
theorem dX9_scanName_17 : decode cX9_scanName 17 = .ok (.invokevirtual 66, 3) := by decide +kernel
theorem dX9_scanName_20 : decode cX9_scanName 20 = .ok (.invokestatic 73, 3) := by decide +kernel
theorem dX9_scanName_23 : decode cX9_scanName 23 = .ok (.ifCond .ne 14, 3) := by decide +kernel
theorem dX9_scanName_26 : decode cX9_scanName 26 = .ok (.aload_n 0, 1) := by decide +kernel
theorem dX9_scanName_27 : decode cX9_scanName 27 = .ok (.iload_n 3, 1) := by decide +kernel
theorem dX9_scanName_28 : decode cX9_scanName 28 = .ok (.invokevirtual 66, 3) := by decide +kernel
theorem dX9_scanName_31 : decode cX9_scanName 31 = .ok (.invokestatic 80, 3) := by decide +kernel
theorem dX9_scanName_34 : decode cX9_scanName 34 = .ok (.ifCond .eq 19, 3) := by decide +kernel
theorem dX9_scanName_37 : decode cX9_scanName 37 = .ok (.lload_n 1, 1) := by decide +kernel
theorem dX9_scanName_38 : decode cX9_scanName 38 = .ok (.aload_n 0, 1) := by decide +kernel
theorem dX9_scanName_39 : decode cX9_scanName 39 = .ok (.iload_n 3, 1) := by decide +kernel
theorem dX9_scanName_40 : decode cX9_scanName 40 = .ok (.invokevirtual 66, 3) := by decide +kernel
theorem dX9_scanName_43 : decode cX9_scanName 43 = .ok (.invokestatic 96, 3) := by decide +kernel
theorem dX9_scanName_46 : decode cX9_scanName 46 = .ok (.lstore_n 1, 1) := by decide +kernel
theorem dX9_scanName_47 : decode cX9_scanName 47 = .ok (.iinc 3 1, 3) := by decide +kernel
theorem dX9_scanName_50 : decode cX9_scanName 50 = .ok (.goto (-43), 3) := by decide +kernel
theorem dX9_scanName_53 : decode cX9_scanName 53 = .ok (.iload_n 3, 1) := by decide +kernel
theorem dX9_scanName_54 : decode cX9_scanName 54 = .ok (.aload_n 0, 1) := by decide +kernel
theorem dX9_scanName_55 : decode cX9_scanName 55 = .ok (.getfield 34, 3) := by decide +kernel
theorem dX9_scanName_58 : decode cX9_scanName 58 = .ok (.isub, 1) := by decide +kernel
theorem dX9_scanName_59 : decode cX9_scanName 59 = .ok (.bipush 7, 2) := by decide +kernel
theorem dX9_scanName_61 : decode cX9_scanName 61 = .ok (.if_icmp .le 13, 3) := by decide +kernel
theorem dX9_scanName_64 : decode cX9_scanName 64 = .ok (.aload_n 0, 1) := by decide +kernel
theorem dX9_scanName_65 : decode cX9_scanName 65 = .ok (.bipush 6, 2) := by decide +kernel
theorem dX9_scanName_67 : decode cX9_scanName 67 = .ok (.iload_n 3, 1) := by decide +kernel
theorem dX9_scanName_68 : decode cX9_scanName 68 = .ok (.iconst 0, 1) := by decide +kernel
theorem dX9_scanName_69 : decode cX9_scanName 69 = .ok (.iconst 0, 1) := by decide +kernel
theorem dX9_scanName_70 : decode cX9_scanName 70 = .ok (.invokevirtual 69, 3) := by decide +kernel
theorem dX9_scanName_73 : decode cX9_scanName 73 = .ok (.ireturn, 1) := by decide +kernel
theorem dX9_scanName_74 : decode cX9_scanName 74 = .ok (.aload_n 0, 1) := by decide +kernel
theorem dX9_scanName_75 : decode cX9_scanName 75 = .ok (.getfield 37, 3) := by decide +kernel
theorem dX9_scanName_78 : decode cX9_scanName 78 = .ok (.lload_n 1, 1) := by decide +kernel
theorem dX9_scanName_79 : decode cX9_scanName 79 = .ok (.invokevirtual 100, 3) := by decide +kernel
theorem dX9_scanName_82 : decode cX9_scanName 82 = .ok (.istore 4, 2) := by decide +kernel
theorem dX9_scanName_84 : decode cX9_scanName 84 = .ok (.iload 4, 2) := by decide +kernel
theorem dX9_scanName_86 : decode cX9_scanName 86 = .ok (.iconst 4, 1) := by decide +kernel
theorem dX9_scanName_87 : decode cX9_scanName 87 = .ok (.if_icmp .ne 41, 3) := by decide +kernel
theorem dX9_scanName_90 : decode cX9_scanName 90 = .ok (.aload_n 0, 1) := by decide +kernel
theorem dX9_scanName_91 : decode cX9_scanName 91 = .ok (.iload_n 3, 1) := by decide +kernel
theorem dX9_scanName_92 : decode cX9_scanName 92 = .ok (.invokevirtual 55, 3) := by decide +kernel
theorem dX9_scanName_95 : decode cX9_scanName 95 = .ok (.istore 5, 2) := by decide +kernel
theorem dX9_scanName_97 : decode cX9_scanName 97 = .ok (.aload_n 0, 1) := by decide +kernel
theorem dX9_scanName_98 : decode cX9_scanName 98 = .ok (.iload 5, 2) := by decide +kernel
theorem dX9_scanName_100 : decode cX9_scanName 100 = .ok (.invokevirtual 66, 3) := by decide +kernel
theorem dX9_scanName_103 : decode cX9_scanName 103 = .ok (.istore 6, 2) := by decide +kernel
theorem dX9_scanName_105 : decode cX9_scanName 105 = .ok (.iload 6, 2) := by decide +kernel
theorem dX9_scanName_107 : decode cX9_scanName 107 = .ok (.bipush 44, 2) := by decide +kernel
theorem dX9_scanName_109 : decode cX9_scanName 109 = .ok (.if_icmp .eq 19, 3) := by decide +kernel
theorem dX9_scanName_112 : decode cX9_scanName 112 = .ok (.iload 6, 2) := by decide +kernel
theorem dX9_scanName_114 : decode cX9_scanName 114 = .ok (.bipush 61, 2) := by decide +kernel
theorem dX9_scanName_116 : decode cX9_scanName 116 = .ok (.if_icmp .eq 12, 3) := by decide +kernel
theorem dX9_scanName_119 : decode cX9_scanName 119 = .ok (.aload_n 0, 1) := by decide +kernel
theorem dX9_scanName_120 : decode cX9_scanName 120 = .ok (.iload 5, 2) := by decide +kernel
theorem dX9_scanName_122 : decode cX9_scanName 122 = .ok (.iload 6, 2) := by decide +kernel
theorem dX9_scanName_124 : decode cX9_scanName 124 = .ok (.invokevirtual 104, 3) := by decide +kernel
theorem dX9_scanName_127 : decode cX9_scanName 127 = .ok (.ireturn, 1) := by decide +kernel
theorem dX9_scanName_128 : decode cX9_scanName 128 = .ok (.aload_n 0, 1) := by decide +kernel
theorem dX9_scanName_129 : decode cX9_scanName 129 = .ok (.iconst 1, 1) := by decide +kernel
theorem dX9_scanName_130 : decode cX9_scanName 130 = .ok (.iload_n 3, 1) := by decide +kernel
theorem dX9_scanName_131 : decode cX9_scanName 131 = .ok (.iload 4, 2) := by decide +kernel
theorem dX9_scanName_133 : decode cX9_scanName 133 = .ok (.iconst 0, 1) := by decide +kernel
theorem dX9_scanName_134 : decode cX9_scanName 134 = .ok (.invokevirtual 69, 3) := by decide +kernel
theorem dX9_scanName_137 : decode cX9_scanName 137 = .ok (.ireturn, 1) := by decide +kernel
theorem dX9_scanText_0 : decode cX9_scanText 0 = .ok (.iload_n 2, 1) := by decide +kernel
theorem dX9_scanText_1 : decode cX9_scanText 1 = .ok (.invokestatic 86, 3) := by decide +kernel
theorem dX9_scanText_4 : decode cX9_scanText 4 = .ok (.ifCond .ne 12, 3) := by decide +kernel
theorem dX9_scanText_7 : decode cX9_scanText 7 = .ok (.aload_n 0, 1) := by decide +kernel
theorem dX9_scanText_8 : decode cX9_scanText 8 = .ok (.iconst 5, 1) := by decide +kernel
theorem dX9_scanText_9 : decode cX9_scanText 9 = .ok (.iload_n 1, 1) := by decide +kernel
theorem dX9_scanText_10 : decode cX9_scanText 10 = .ok (.iconst 0, 1) := by decide +kernel
theorem dX9_scanText_11 : decode cX9_scanText 11 = .ok (.iconst 0, 1) := by decide +kernel
theorem dX9_scanText_12 : decode cX9_scanText 12 = .ok (.invokevirtual 69, 3) := by decide +kernel
theorem dX9_scanText_15 : decode cX9_scanText 15 = .ok (.ireturn, 1) := by decide +kernel
theorem dX9_scanText_16 : decode cX9_scanText 16 = .ok (.iload_n 1, 1) := by decide +kernel
theorem dX9_scanText_17 : decode cX9_scanText 17 = .ok (.iconst 1, 1) := by decide +kernel
theorem dX9_scanText_18 : decode cX9_scanText 18 = .ok (.iadd, 1) := by decide +kernel
theorem dX9_scanText_19 : decode cX9_scanText 19 = .ok (.istore_n 3, 1) := by decide +kernel
theorem dX9_scanText_20 : decode cX9_scanText 20 = .ok (.iload_n 3, 1) := by decide +kernel
theorem dX9_scanText_21 : decode cX9_scanText 21 = .ok (.aload_n 0, 1) := by decide +kernel
theorem dX9_scanText_22 : decode cX9_scanText 22 = .ok (.getfield 31, 3) := by decide +kernel
theorem dX9_scanText_25 : decode cX9_scanText 25 = .ok (.if_icmp .ge 42, 3) := by decide +kernel
theorem dX9_scanText_28 : decode cX9_scanText 28 = .ok (.aload_n 0, 1) := by decide +kernel
theorem dX9_scanText_29 : decode cX9_scanText 29 = .ok (.iload_n 3, 1) := by decide +kernel
theorem dX9_scanText_30 : decode cX9_scanText 30 = .ok (.invokevirtual 66, 3) := by decide +kernel
theorem dX9_scanText_33 : decode cX9_scanText 33 = .ok (.invokestatic 86, 3) := by decide +kernel
theorem dX9_scanText_36 : decode cX9_scanText 36 = .ok (.ifCond .eq 31, 3) := by decide +kernel
theorem dX9_scanText_39 : decode cX9_scanText 39 = .ok (.aload_n 0, 1) := by decide +kernel
theorem dX9_scanText_40 : decode cX9_scanText 40 = .ok (.iload_n 3, 1) := by decide +kernel
theorem dX9_scanText_41 : decode cX9_scanText 41 = .ok (.invokevirtual 66, 3) := by decide +kernel
theorem dX9_scanText_44 : decode cX9_scanText 44 = .ok (.iload_n 2, 1) := by decide +kernel
theorem dX9_scanText_45 : decode cX9_scanText 45 = .ok (.if_icmp .ne 16, 3) := by decide +kernel
theorem dX9_scanText_48 : decode cX9_scanText 48 = .ok (.aload_n 0, 1) := by decide +kernel
theorem dX9_scanText_49 : decode cX9_scanText 49 = .ok (.iconst 4, 1) := by decide +kernel
theorem dX9_scanText_50 : decode cX9_scanText 50 = .ok (.iload_n 3, 1) := by decide +kernel
theorem dX9_scanText_51 : decode cX9_scanText 51 = .ok (.iconst 1, 1) := by decide +kernel
theorem dX9_scanText_52 : decode cX9_scanText 52 = .ok (.iadd, 1) := by decide +kernel
theorem dX9_scanText_53 : decode cX9_scanText 53 = .ok (.iload_n 1, 1) := by decide +kernel
theorem dX9_scanText_54 : decode cX9_scanText 54 = .ok (.iconst 1, 1) := by decide +kernel
theorem dX9_scanText_55 : decode cX9_scanText 55 = .ok (.iadd, 1) := by decide +kernel
theorem dX9_scanText_56 : decode cX9_scanText 56 = .ok (.iload_n 3, 1) := by decide +kernel
theorem dX9_scanText_57 : decode cX9_scanText 57 = .ok (.invokevirtual 69, 3) := by decide +kernel
theorem dX9_scanText_60 : decode cX9_scanText 60 = .ok (.ireturn, 1) := by decide +kernel
theorem dX9_scanText_61 : decode cX9_scanText 61 = .ok (.iinc 3 1, 3) := by decide +kernel
theorem dX9_scanText_64 : decode cX9_scanText 64 = .ok (.goto (-44), 3) := by decide +kernel
theorem dX9_scanText_67 : decode cX9_scanText 67 = .ok (.aload_n 0, 1) := by decide +kernel
theorem dX9_scanText_68 : decode cX9_scanText 68 = .ok (.iconst 5, 1) := by decide +kernel
theorem dX9_scanText_69 : decode cX9_scanText 69 = .ok (.iload_n 1, 1) := by decide +kernel
theorem dX9_scanText_70 : decode cX9_scanText 70 = .ok (.iconst 0, 1) := by decide +kernel
theorem dX9_scanText_71 : decode cX9_scanText 71 = .ok (.iconst 0, 1) := by decide +kernel
theorem dX9_scanText_72 : decode cX9_scanText 72 = .ok (.invokevirtual 69, 3) := by decide +kernel
theorem dX9_scanText_75 : decode cX9_scanText 75 = .ok (.ireturn, 1) := by decide +kernel
theorem dX9_scanNumber_0 : decode cX9_scanNumber 0 = .ok (.iconst 0, 1) := by decide +kernel
theorem dX9_scanNumber_1 : decode cX9_scanNumber 1 = .ok (.istore_n 1, 1) := by decide +kernel
theorem dX9_scanNumber_2 : decode cX9_scanNumber 2 = .ok (.iconst 0, 1) := by decide +kernel
theorem dX9_scanNumber_3 : decode cX9_scanNumber 3 = .ok (.istore_n 2, 1) := by decide +kernel
theorem dX9_scanNumber_4 : decode cX9_scanNumber 4 = .ok (.aload_n 0, 1) := by decide +kernel
theorem dX9_scanNumber_5 : decode cX9_scanNumber 5 = .ok (.getfield 34, 3) := by decide +kernel
theorem dX9_scanNumber_8 : decode cX9_scanNumber 8 = .ok (.istore_n 3, 1) := by decide +kernel
theorem dX9_scanNumber_9 : decode cX9_scanNumber 9 = .ok (.iload_n 3, 1) := by decide +kernel
theorem dX9_scanNumber_10 : decode cX9_scanNumber 10 = .ok (.aload_n 0, 1) := by decide +kernel
theorem dX9_scanNumber_11 : decode cX9_scanNumber 11 = .ok (.getfield 31, 3) := by decide +kernel
theorem dX9_scanNumber_14 : decode cX9_scanNumber 14 = .ok (.if_icmp .ge 72, 3) := by decide +kernel
theorem dX9_scanNumber_17 : decode cX9_scanNumber 17 = .ok (.iload_n 3, 1) := by decide +kernel
theorem dX9_scanNumber_18 : decode cX9_scanNumber 18 = .ok (.aload_n 0, 1) := by decide +kernel
theorem dX9_scanNumber_19 : decode cX9_scanNumber 19 = .ok (.getfield 34, 3) := by decide +kernel
theorem dX9_scanNumber_22 : decode cX9_scanNumber 22 = .ok (.isub, 1) := by decide +kernel
theorem dX9_scanNumber_23 : decode cX9_scanNumber 23 = .ok (.iconst 4, 1) := by decide +kernel
theorem dX9_scanNumber_24 : decode cX9_scanNumber 24 = .ok (.if_icmp .gt 62, 3) := by decide +kernel
theorem dX9_scanNumber_27 : decode cX9_scanNumber 27 = .ok (.aload_n 0, 1) := by decide +kernel
theorem dX9_scanNumber_28 : decode cX9_scanNumber 28 = .ok (.iload_n 3, 1) := by decide +kernel
theorem dX9_scanNumber_29 : decode cX9_scanNumber 29 = .ok (.invokevirtual 66, 3) := by decide +kernel
theorem dX9_scanNumber_32 : decode cX9_scanNumber 32 = .ok (.invokestatic 80, 3) := by decide +kernel
theorem dX9_scanNumber_35 : decode cX9_scanNumber 35 = .ok (.ifCond .eq 51, 3) := by decide +kernel
theorem dX9_scanNumber_38 : decode cX9_scanNumber 38 = .ok (.aload_n 0, 1) := by decide +kernel
theorem dX9_scanNumber_39 : decode cX9_scanNumber 39 = .ok (.iload_n 3, 1) := by decide +kernel
theorem dX9_scanNumber_40 : decode cX9_scanNumber 40 = .ok (.invokevirtual 66, 3) := by decide +kernel
theorem dX9_scanNumber_43 : decode cX9_scanNumber 43 = .ok (.bipush 48, 2) := by decide +kernel
theorem dX9_scanNumber_45 : decode cX9_scanNumber 45 = .ok (.isub, 1) := by decide +kernel
theorem dX9_scanNumber_46 : decode cX9_scanNumber 46 = .ok (.istore 4, 2) := by decide +kernel
theorem dX9_scanNumber_48 : decode cX9_scanNumber 48 = .ok (.iload_n 1, 1) := by decide +kernel
theorem dX9_scanNumber_49 : decode cX9_scanNumber 49 = .ok (.iconst (-1), 1) := by decide +kernel
theorem dX9_scanNumber_50 : decode cX9_scanNumber 50 = .ok (.if_icmp .eq 10, 3) := by decide +kernel
theorem dX9_scanNumber_53 : decode cX9_scanNumber 53 = .ok (.iload 4, 2) := by decide +kernel
theorem dX9_scanNumber_55 : decode cX9_scanNumber 55 = .ok (.bipush 7, 2) := by decide +kernel
theorem dX9_scanNumber_57 : decode cX9_scanNumber 57 = .ok (.if_icmp .le 7, 3) := by decide +kernel
theorem dX9_scanNumber_60 : decode cX9_scanNumber 60 = .ok (.iconst (-1), 1) := by decide +kernel
theorem dX9_scanNumber_61 : decode cX9_scanNumber 61 = .ok (.goto 10, 3) := by decide +kernel
theorem dX9_scanNumber_64 : decode cX9_scanNumber 64 = .ok (.iload_n 1, 1) := by decide +kernel
theorem dX9_scanNumber_65 : decode cX9_scanNumber 65 = .ok (.bipush 8, 2) := by decide +kernel
theorem dX9_scanNumber_67 : decode cX9_scanNumber 67 = .ok (.imul, 1) := by decide +kernel
theorem dX9_scanNumber_68 : decode cX9_scanNumber 68 = .ok (.iload 4, 2) := by decide +kernel
theorem dX9_scanNumber_70 : decode cX9_scanNumber 70 = .ok (.iadd, 1) := by decide +kernel
theorem dX9_scanNumber_71 : decode cX9_scanNumber 71 = .ok (.istore_n 1, 1) := by decide +kernel
theorem dX9_scanNumber_72 : decode cX9_scanNumber 72 = .ok (.iload_n 2, 1) := by decide +kernel
theorem dX9_scanNumber_73 : decode cX9_scanNumber 73 = .ok (.bipush 10, 2) := by decide +kernel
theorem dX9_scanNumber_75 : decode cX9_scanNumber 75 = .ok (.imul, 1) := by decide +kernel
theorem dX9_scanNumber_76 : decode cX9_scanNumber 76 = .ok (.iload 4, 2) := by decide +kernel
theorem dX9_scanNumber_78 : decode cX9_scanNumber 78 = .ok (.iadd, 1) := by decide +kernel
theorem dX9_scanNumber_79 : decode cX9_scanNumber 79 = .ok (.istore_n 2, 1) := by decide +kernel
theorem dX9_scanNumber_80 : decode cX9_scanNumber 80 = .ok (.iinc 3 1, 3) := by decide +kernel
theorem dX9_scanNumber_83 : decode cX9_scanNumber 83 = .ok (.goto (-74), 3) := by decide +kernel
theorem dX9_scanNumber_86 : decode cX9_scanNumber 86 = .ok (.iload_n 3, 1) := by decide +kernel
theorem dX9_scanNumber_87 : decode cX9_scanNumber 87 = .ok (.aload_n 0, 1) := by decide +kernel
theorem dX9_scanNumber_88 : decode cX9_scanNumber 88 = .ok (.getfield 34, 3) := by decide +kernel
theorem dX9_scanNumber_91 : decode cX9_scanNumber 91 = .ok (.isub, 1) := by decide +kernel
theorem dX9_scanNumber_92 : decode cX9_scanNumber 92 = .ok (.iconst 4, 1) := by decide +kernel
theorem dX9_scanNumber_93 : decode cX9_scanNumber 93 = .ok (.if_icmp .le 13, 3) := by decide +kernel
theorem dX9_scanNumber_96 : decode cX9_scanNumber 96 = .ok (.aload_n 0, 1) := by decide +kernel
theorem dX9_scanNumber_97 : decode cX9_scanNumber 97 = .ok (.bipush 6, 2) := by decide +kernel
theorem dX9_scanNumber_99 : decode cX9_scanNumber 99 = .ok (.iload_n 3, 1) := by decide +kernel
theorem dX9_scanNumber_100 : decode cX9_scanNumber 100 = .ok (.iconst 0, 1) := by decide +kernel
theorem dX9_scanNumber_101 : decode cX9_scanNumber 101 = .ok (.iconst 0, 1) := by decide +kernel
theorem dX9_scanNumber_102 : decode cX9_scanNumber 102 = .ok (.invokevirtual 69, 3) := by decide +kernel
theorem dX9_scanNumber_105 : decode cX9_scanNumber 105 = .ok (.ireturn, 1) := by decide +kernel
theorem dX9_scanNumber_106 : decode cX9_scanNumber 106 = .ok (.aload_n 0, 1) := by decide +kernel
theorem dX9_scanNumber_107 : decode cX9_scanNumber 107 = .ok (.iconst 2, 1) := by decide +kernel
theorem dX9_scanNumber_108 : decode cX9_scanNumber 108 = .ok (.iload_n 3, 1) := by decide +kernel
theorem dX9_scanNumber_109 : decode cX9_scanNumber 109 = .ok (.iload_n 1, 1) := by decide +kernel
theorem dX9_scanNumber_110 : decode cX9_scanNumber 110 = .ok (.iload_n 2, 1) := by decide +kernel
theorem dX9_scanNumber_111 : decode cX9_scanNumber 111 = .ok (.sipush 4095, 3) := by decide +kernel
theorem dX9_scanNumber_114 : decode cX9_scanNumber 114 = .ok (.if_icmp .le 7, 3) := by decide +kernel
theorem dX9_scanNumber_117 : decode cX9_scanNumber 117 = .ok (.iconst (-1), 1) := by decide +kernel
theorem dX9_scanNumber_118 : decode cX9_scanNumber 118 = .ok (.goto 4, 3) := by decide +kernel
theorem dX9_scanNumber_121 : decode cX9_scanNumber 121 = .ok (.iload_n 2, 1) := by decide +kernel
theorem dX9_scanNumber_122 : decode cX9_scanNumber 122 = .ok (.invokevirtual 69, 3) := by decide +kernel
theorem dX9_scanNumber_125 : decode cX9_scanNumber 125 = .ok (.ireturn, 1) := by decide +kernel
theorem dX9_isLetter_0 : decode cX9_isLetter 0 = .ok (.iload_n 0, 1) := by decide +kernel
theorem dX9_isLetter_1 : decode cX9_isLetter 1 = .ok (.bipush 65, 2) := by decide +kernel
theorem dX9_isLetter_3 : decode cX9_isLetter 3 = .ok (.if_icmp .lt 13, 3) := by decide +kernel
theorem dX9_isLetter_6 : decode cX9_isLetter 6 = .ok (.iload_n 0, 1) := by decide +kernel
theorem dX9_isLetter_7 : decode cX9_isLetter 7 = .ok (.bipush 90, 2) := by decide +kernel
theorem dX9_isLetter_9 : decode cX9_isLetter 9 = .ok (.if_icmp .gt 7, 3) := by decide +kernel
theorem dX9_isLetter_12 : decode cX9_isLetter 12 = .ok (.iconst 1, 1) := by decide +kernel
theorem dX9_isLetter_13 : decode cX9_isLetter 13 = .ok (.goto 4, 3) := by decide +kernel
theorem dX9_isLetter_16 : decode cX9_isLetter 16 = .ok (.iconst 0, 1) := by decide +kernel
theorem dX9_isLetter_17 : decode cX9_isLetter 17 = .ok (.ireturn, 1) := by decide +kernel
theorem dX9_isDigit_0 : decode cX9_isDigit 0 = .ok (.iload_n 0, 1) := by decide +kernel
theorem dX9_isDigit_1 : decode cX9_isDigit 1 = .ok (.bipush 48, 2) := by decide +kernel
theorem dX9_isDigit_3 : decode cX9_isDigit 3 = .ok (.if_icmp .lt 13, 3) := by decide +kernel
theorem dX9_isDigit_6 : decode cX9_isDigit 6 = .ok (.iload_n 0, 1) := by decide +kernel
theorem dX9_isDigit_7 : decode cX9_isDigit 7 = .ok (.bipush 57, 2) := by decide +kernel
theorem dX9_isDigit_9 : decode cX9_isDigit 9 = .ok (.if_icmp .gt 7, 3) := by decide +kernel
theorem dX9_isDigit_12 : decode cX9_isDigit 12 = .ok (.iconst 1, 1) := by decide +kernel
theorem dX9_isDigit_13 : decode cX9_isDigit 13 = .ok (.goto 4, 3) := by decide +kernel
theorem dX9_isDigit_16 : decode cX9_isDigit 16 = .ok (.iconst 0, 1) := by decide +kernel
theorem dX9_isDigit_17 : decode cX9_isDigit 17 = .ok (.ireturn, 1) := by decide +kernel
theorem dX9_isPlain_0 : decode cX9_isPlain 0 = .ok (.iload_n 0, 1) := by decide +kernel
theorem dX9_isPlain_1 : decode cX9_isPlain 1 = .ok (.bipush 32, 2) := by decide +kernel
theorem dX9_isPlain_3 : decode cX9_isPlain 3 = .ok (.if_icmp .lt 13, 3) := by decide +kernel
theorem dX9_isPlain_6 : decode cX9_isPlain 6 = .ok (.iload_n 0, 1) := by decide +kernel
theorem dX9_isPlain_7 : decode cX9_isPlain 7 = .ok (.bipush 126, 2) := by decide +kernel
theorem dX9_isPlain_9 : decode cX9_isPlain 9 = .ok (.if_icmp .gt 7, 3) := by decide +kernel
theorem dX9_isPlain_12 : decode cX9_isPlain 12 = .ok (.iconst 1, 1) := by decide +kernel
theorem dX9_isPlain_13 : decode cX9_isPlain 13 = .ok (.goto 4, 3) := by decide +kernel
theorem dX9_isPlain_16 : decode cX9_isPlain 16 = .ok (.iconst 0, 1) := by decide +kernel
theorem dX9_isPlain_17 : decode cX9_isPlain 17 = .ok (.ireturn, 1) := by decide +kernel
theorem dX10_init_0 : decode cX10_init 0 = .ok (.aload_n 0, 1) := by decide +kernel
theorem dX10_init_1 : decode cX10_init 1 = .ok (.invokespecial 3, 3) := by decide +kernel
theorem dX10_init_4 : decode cX10_init 4 = .ok (.aload_n 0, 1) := by decide +kernel
theorem dX10_init_5 : decode cX10_init 5 = .ok (.sipush 4096, 3) := by decide +kernel
theorem dX10_init_8 : decode cX10_init 8 = .ok (.newarray .int, 2) := by decide +kernel
theorem dX10_init_10 : decode cX10_init 10 = .ok (.putfield 9, 3) := by decide +kernel
theorem dX10_init_13 : decode cX10_init 13 = .ok (.aload_n 0, 1) := by decide +kernel
theorem dX10_init_14 : decode cX10_init 14 = .ok (.sipush 1024, 3) := by decide +kernel
theorem dX10_init_17 : decode cX10_init 17 = .ok (.newarray .int, 2) := by decide +kernel
theorem dX10_init_19 : decode cX10_init 19 = .ok (.putfield 15, 3) := by decide +kernel
theorem dX10_init_22 : decode cX10_init 22 = .ok (.aload_n 0, 1) := by decide +kernel
theorem dX10_init_23 : decode cX10_init 23 = .ok (.sipush 500, 3) := by decide +kernel
theorem dX10_init_26 : decode cX10_init 26 = .ok (.newarray .int, 2) := by decide +kernel
theorem dX10_init_28 : decode cX10_init 28 = .ok (.putfield 18, 3) := by decide +kernel
theorem dX10_init_31 : decode cX10_init 31 = .ok (.aload_n 0, 1) := by decide +kernel
theorem dX10_init_32 : decode cX10_init 32 = .ok (.new 21, 3) := by decide +kernel
theorem dX10_init_35 : decode cX10_init 35 = .ok (.dup, 1) := by decide +kernel
theorem dX10_init_36 : decode cX10_init 36 = .ok (.invokespecial 23, 3) := by decide +kernel
theorem dX10_init_39 : decode cX10_init 39 = .ok (.putfield 24, 3) := by decide +kernel
theorem dX10_init_42 : decode cX10_init 42 = .ok (.aload_n 0, 1) := by decide +kernel
theorem dX10_init_43 : decode cX10_init 43 = .ok (.new 21, 3) := by decide +kernel
theorem dX10_init_46 : decode cX10_init 46 = .ok (.dup, 1) := by decide +kernel
theorem dX10_init_47 : decode cX10_init 47 = .ok (.invokespecial 23, 3) := by decide +kernel
theorem dX10_init_50 : decode cX10_init 50 = .ok (.putfield 28, 3) := by decide +kernel
theorem dX10_init_53 : decode cX10_init 53 = .ok (.aload_n 0, 1) := by decide +kernel
theorem dX10_init_54 : decode cX10_init 54 = .ok (.iconst 0, 1) := by decide +kernel
theorem dX10_init_55 : decode cX10_init 55 = .ok (.putfield 31, 3) := by decide +kernel
theorem dX10_init_58 : decode cX10_init 58 = .ok (.aload_n 0, 1) := by decide +kernel
theorem dX10_init_59 : decode cX10_init 59 = .ok (.iconst 0, 1) := by decide +kernel
theorem dX10_init_60 : decode cX10_init 60 = .ok (.putfield 35, 3) := by decide +kernel
theorem dX10_init_63 : decode cX10_init 63 = .ok (.aload_n 0, 1) := by decide +kernel
theorem dX10_init_64 : decode cX10_init 64 = .ok (.iconst 0, 1) := by decide +kernel
theorem dX10_init_65 : decode cX10_init 65 = .ok (.putfield 38, 3) := by decide +kernel
theorem dX10_init_68 : decode cX10_init 68 = .ok (.aload_n 0, 1) := by decide +kernel
theorem dX10_init_69 : decode cX10_init 69 = .ok (.iconst 0, 1) := by decide +kernel
theorem dX10_init_70 : decode cX10_init 70 = .ok (.putfield 41, 3) := by decide +kernel
theorem dX10_init_73 : decode cX10_init 73 = .ok (.aload_n 0, 1) := by decide +kernel
theorem dX10_init_74 : decode cX10_init 74 = .ok (.iconst 0, 1) := by decide +kernel
theorem dX10_init_75 : decode cX10_init 75 = .ok (.putfield 44, 3) := by decide +kernel
theorem dX10_init_78 : decode cX10_init 78 = .ok (.aload_n 0, 1) := by decide +kernel
theorem dX10_init_79 : decode cX10_init 79 = .ok (.iconst 0, 1) := by decide +kernel
theorem dX10_init_80 : decode cX10_init 80 = .ok (.putfield 47, 3) := by decide +kernel
theorem dX10_init_83 : decode cX10_init 83 = .ok (.aload_n 0, 1) := by decide +kernel
theorem dX10_init_84 : decode cX10_init 84 = .ok (.iconst 0, 1) := by decide +kernel
theorem dX10_init_85 : decode cX10_init 85 = .ok (.putfield 50, 3) := by decide +kernel
theorem dX10_init_88 : decode cX10_init 88 = .ok (.aload_n 0, 1) := by decide +kernel
theorem dX10_init_89 : decode cX10_init 89 = .ok (.iconst 0, 1) := by decide +kernel
theorem dX10_init_90 : decode cX10_init 90 = .ok (.putfield 53, 3) := by decide +kernel
theorem dX10_init_93 : decode cX10_init 93 = .ok (.aload_n 0, 1) := by decide +kernel
theorem dX10_init_94 : decode cX10_init 94 = .ok (.iconst 0, 1) := by decide +kernel
theorem dX10_init_95 : decode cX10_init 95 = .ok (.putfield 56, 3) := by decide +kernel
theorem dX10_init_98 : decode cX10_init 98 = .ok (.aload_n 0, 1) := by decide +kernel
theorem dX10_init_99 : decode cX10_init 99 = .ok (.iconst 0, 1) := by decide +kernel
theorem dX10_init_100 : decode cX10_init 100 = .ok (.putfield 59, 3) := by decide +kernel
theorem dX10_init_103 : decode cX10_init 103 = .ok (.aload_n 0, 1) := by decide +kernel
theorem dX10_init_104 : decode cX10_init 104 = .ok (.iconst 0, 1) := by decide +kernel
theorem dX10_init_105 : decode cX10_init 105 = .ok (.putfield 62, 3) := by decide +kernel
theorem dX10_init_108 : decode cX10_init 108 = .ok (.aload_n 0, 1) := by decide +kernel
theorem dX10_init_109 : decode cX10_init 109 = .ok (.iconst 0, 1) := by decide +kernel
theorem dX10_init_110 : decode cX10_init 110 = .ok (.putfield 65, 3) := by decide +kernel
theorem dX10_init_113 : decode cX10_init 113 = .ok (.aload_n 0, 1) := by decide +kernel
theorem dX10_init_114 : decode cX10_init 114 = .ok (.iconst 0, 1) := by decide +kernel
theorem dX10_init_115 : decode cX10_init 115 = .ok (.putfield 68, 3) := by decide +kernel
theorem dX10_init_118 : decode cX10_init 118 = .ok (.aload_n 0, 1) := by decide +kernel
theorem dX10_init_119 : decode cX10_init 119 = .ok (.aconst_null, 1) := by decide +kernel
theorem dX10_init_120 : decode cX10_init 120 = .ok (.putfield 71, 3) := by decide +kernel
theorem dX10_init_123 : decode cX10_init 123 = .ok (.aload_n 0, 1) := by decide +kernel
theorem dX10_init_124 : decode cX10_init 124 = .ok (.iload_n 1, 1) := by decide +kernel
theorem dX10_init_125 : decode cX10_init 125 = .ok (.putfield 75, 3) := by decide +kernel
theorem dX10_init_128 : decode cX10_init 128 = .ok (.return_, 1) := by decide +kernel
theorem dX10_hasStopped_0 : decode cX10_hasStopped 0 = .ok (.aload_n 0, 1) := by decide +kernel
theorem dX10_hasStopped_1 : decode cX10_hasStopped 1 = .ok (.getfield 38, 3) := by decide +kernel
theorem dX10_hasStopped_4 : decode cX10_hasStopped 4 = .ok (.bipush 6, 2) := by decide +kernel
theorem dX10_hasStopped_6 : decode cX10_hasStopped 6 = .ok (.if_icmp .eq 12, 3) := by decide +kernel
theorem dX10_hasStopped_9 : decode cX10_hasStopped 9 = .ok (.aload_n 0, 1) := by decide +kernel
theorem dX10_hasStopped_10 : decode cX10_hasStopped 10 = .ok (.getfield 38, 3) := by decide +kernel
theorem dX10_hasStopped_13 : decode cX10_hasStopped 13 = .ok (.bipush 7, 2) := by decide +kernel
theorem dX10_hasStopped_15 : decode cX10_hasStopped 15 = .ok (.if_icmp .ne 7, 3) := by decide +kernel
theorem dX10_hasStopped_18 : decode cX10_hasStopped 18 = .ok (.iconst 1, 1) := by decide +kernel
theorem dX10_hasStopped_19 : decode cX10_hasStopped 19 = .ok (.goto 4, 3) := by decide +kernel
theorem dX10_hasStopped_22 : decode cX10_hasStopped 22 = .ok (.iconst 0, 1) := by decide +kernel
theorem dX10_hasStopped_23 : decode cX10_hasStopped 23 = .ok (.ireturn, 1) := by decide +kernel
theorem dX10_mayBeHalted_0 : decode cX10_mayBeHalted 0 = .ok (.aload_n 0, 1) := by decide +kernel
theorem dX10_mayBeHalted_1 : decode cX10_mayBeHalted 1 = .ok (.getfield 38, 3) := by decide +kernel
theorem dX10_mayBeHalted_4 : decode cX10_mayBeHalted 4 = .ok (.iconst 1, 1) := by decide +kernel
theorem dX10_mayBeHalted_5 : decode cX10_mayBeHalted 5 = .ok (.if_icmp .eq 27, 3) := by decide +kernel
theorem dX10_mayBeHalted_8 : decode cX10_mayBeHalted 8 = .ok (.aload_n 0, 1) := by decide +kernel
theorem dX10_mayBeHalted_9 : decode cX10_mayBeHalted 9 = .ok (.getfield 38, 3) := by decide +kernel
theorem dX10_mayBeHalted_12 : decode cX10_mayBeHalted 12 = .ok (.iconst 4, 1) := by decide +kernel
theorem dX10_mayBeHalted_13 : decode cX10_mayBeHalted 13 = .ok (.if_icmp .eq 19, 3) := by decide +kernel
theorem dX10_mayBeHalted_16 : decode cX10_mayBeHalted 16 = .ok (.aload_n 0, 1) := by decide +kernel
theorem dX10_mayBeHalted_17 : decode cX10_mayBeHalted 17 = .ok (.getfield 38, 3) := by decide +kernel
theorem dX10_mayBeHalted_20 : decode cX10_mayBeHalted 20 = .ok (.iconst 2, 1) := by decide +kernel
theorem dX10_mayBeHalted_21 : decode cX10_mayBeHalted 21 = .ok (.if_icmp .eq 11, 3) := by decide +kernel
theorem dX10_mayBeHalted_24 : decode cX10_mayBeHalted 24 = .ok (.aload_n 0, 1) := by decide +kernel
theorem dX10_mayBeHalted_25 : decode cX10_mayBeHalted 25 = .ok (.getfield 38, 3) := by decide +kernel
theorem dX10_mayBeHalted_28 : decode cX10_mayBeHalted 28 = .ok (.iconst 3, 1) := by decide +kernel
theorem dX10_mayBeHalted_29 : decode cX10_mayBeHalted 29 = .ok (.if_icmp .ne 7, 3) := by decide +kernel
theorem dX10_mayBeHalted_32 : decode cX10_mayBeHalted 32 = .ok (.iconst 1, 1) := by decide +kernel
theorem dX10_mayBeHalted_33 : decode cX10_mayBeHalted 33 = .ok (.goto 4, 3) := by decide +kernel
theorem dX10_mayBeHalted_36 : decode cX10_mayBeHalted 36 = .ok (.iconst 0, 1) := by decide +kernel
theorem dX10_mayBeHalted_37 : decode cX10_mayBeHalted 37 = .ok (.ireturn, 1) := by decide +kernel
theorem dX10_fetch_0 : decode cX10_fetch 0 = .ok (.aload_n 0, 1) := by decide +kernel
theorem dX10_fetch_1 : decode cX10_fetch 1 = .ok (.getfield 71, 3) := by decide +kernel
theorem dX10_fetch_4 : decode cX10_fetch 4 = .ok (.ifnonnull 16, 3) := by decide +kernel
theorem dX10_fetch_7 : decode cX10_fetch 7 = .ok (.aload_n 0, 1) := by decide +kernel
theorem dX10_fetch_8 : decode cX10_fetch 8 = .ok (.getfield 9, 3) := by decide +kernel
theorem dX10_fetch_11 : decode cX10_fetch 11 = .ok (.iload_n 1, 1) := by decide +kernel
theorem dX10_fetch_12 : decode cX10_fetch 12 = .ok (.sipush 4095, 3) := by decide +kernel
theorem dX10_fetch_15 : decode cX10_fetch 15 = .ok (.iand, 1) := by decide +kernel
theorem dX10_fetch_16 : decode cX10_fetch 16 = .ok (.iaload, 1) := by decide +kernel
theorem dX10_fetch_17 : decode cX10_fetch 17 = .ok (.goto 16, 3) := by decide +kernel
theorem dX10_fetch_20 : decode cX10_fetch 20 = .ok (.aload_n 0, 1) := by decide +kernel
theorem dX10_fetch_21 : decode cX10_fetch 21 = .ok (.getfield 71, 3) := by decide +kernel
theorem dX10_fetch_24 : decode cX10_fetch 24 = .ok (.getfield 78, 3) := by decide +kernel
theorem dX10_fetch_27 : decode cX10_fetch 27 = .ok (.iload_n 1, 1) := by decide +kernel
theorem dX10_fetch_28 : decode cX10_fetch 28 = .ok (.sipush 4095, 3) := by decide +kernel
theorem dX10_fetch_31 : decode cX10_fetch 31 = .ok (.iand, 1) := by decide +kernel
theorem dX10_fetch_32 : decode cX10_fetch 32 = .ok (.iaload, 1) := by decide +kernel
theorem dX10_fetch_33 : decode cX10_fetch 33 = .ok (.ireturn, 1) := by decide +kernel
theorem dX10_store_0 : decode cX10_store 0 = .ok (.aload_n 0, 1) := by decide +kernel
theorem dX10_store_1 : decode cX10_store 1 = .ok (.getfield 71, 3) := by decide +kernel
theorem dX10_store_4 : decode cX10_store 4 = .ok (.ifnonnull 17, 3) := by decide +kernel
theorem dX10_store_7 : decode cX10_store 7 = .ok (.aload_n 0, 1) := by decide +kernel
theorem dX10_store_8 : decode cX10_store 8 = .ok (.getfield 9, 3) := by decide +kernel
theorem dX10_store_11 : decode cX10_store 11 = .ok (.iload_n 1, 1) := by decide +kernel
theorem dX10_store_12 : decode cX10_store 12 = .ok (.sipush 4095, 3) := by decide +kernel
theorem dX10_store_15 : decode cX10_store 15 = .ok (.iand, 1) := by decide +kernel
theorem dX10_store_16 : decode cX10_store 16 = .ok (.iload_n 2, 1) := by decide +kernel
theorem dX10_store_17 : decode cX10_store 17 = .ok (.iastore, 1) := by decide +kernel
theorem dX10_store_18 : decode cX10_store 18 = .ok (.goto 12, 3) := by decide +kernel
theorem dX10_store_21 : decode cX10_store 21 = .ok (.aload_n 0, 1) := by decide +kernel
theorem dX10_store_22 : decode cX10_store 22 = .ok (.getfield 71, 3) := by decide +kernel
theorem dX10_store_25 : decode cX10_store 25 = .ok (.iload_n 1, 1) := by decide +kernel
theorem dX10_store_26 : decode cX10_store 26 = .ok (.iload_n 2, 1) := by decide +kernel
theorem dX10_store_27 : decode cX10_store 27 = .ok (.invokevirtual 83, 3) := by decide +kernel
theorem dX10_store_30 : decode cX10_store 30 = .ok (.return_, 1) := by decide +kernel
theorem dX10_clearRegisters_0 : decode cX10_clearRegisters 0 = .ok (.aload_n 0, 1) := by decide +kernel
theorem dX10_clearRegisters_1 : decode cX10_clearRegisters 1 = .ok (.sipush 128, 3) := by decide +kernel
theorem dX10_clearRegisters_4 : decode cX10_clearRegisters 4 = .ok (.putfield 41, 3) := by decide +kernel
theorem dX10_clearRegisters_7 : decode cX10_clearRegisters 7 = .ok (.aload_n 0, 1) := by decide +kernel
theorem dX10_clearRegisters_8 : decode cX10_clearRegisters 8 = .ok (.iconst 0, 1) := by decide +kernel
theorem dX10_clearRegisters_9 : decode cX10_clearRegisters 9 = .ok (.putfield 44, 3) := by decide +kernel
theorem dX10_clearRegisters_12 : decode cX10_clearRegisters 12 = .ok (.aload_n 0, 1) := by decide +kernel
theorem dX10_clearRegisters_13 : decode cX10_clearRegisters 13 = .ok (.iconst 0, 1) := by decide +kernel
theorem dX10_clearRegisters_14 : decode cX10_clearRegisters 14 = .ok (.putfield 47, 3) := by decide +kernel
theorem dX10_clearRegisters_17 : decode cX10_clearRegisters 17 = .ok (.aload_n 0, 1) := by decide +kernel
theorem dX10_clearRegisters_18 : decode cX10_clearRegisters 18 = .ok (.iconst 0, 1) := by decide +kernel
theorem dX10_clearRegisters_19 : decode cX10_clearRegisters 19 = .ok (.putfield 50, 3) := by decide +kernel
theorem dX10_clearRegisters_22 : decode cX10_clearRegisters 22 = .ok (.return_, 1) := by decide +kernel
theorem dX10_print_0 : decode cX10_print 0 = .ok (.aload_n 0, 1) := by decide +kernel
theorem dX10_print_1 : decode cX10_print 1 = .ok (.getfield 31, 3) := by decide +kernel
theorem dX10_print_4 : decode cX10_print 4 = .ok (.sipush 500, 3) := by decide +kernel
theorem dX10_print_7 : decode cX10_print 7 = .ok (.if_icmp .ge 19, 3) := by decide +kernel
theorem dX10_print_10 : decode cX10_print 10 = .ok (.aload_n 0, 1) := by decide +kernel
theorem dX10_print_11 : decode cX10_print 11 = .ok (.getfield 18, 3) := by decide +kernel
theorem dX10_print_14 : decode cX10_print 14 = .ok (.aload_n 0, 1) := by decide +kernel
theorem dX10_print_15 : decode cX10_print 15 = .ok (.getfield 31, 3) := by decide +kernel
theorem dX10_print_18 : decode cX10_print 18 = .ok (.aload_n 0, 1) := by decide +kernel
theorem dX10_print_19 : decode cX10_print 19 = .ok (.getfield 28, 3) := by decide +kernel
theorem dX10_print_22 : decode cX10_print 22 = .ok (.invokevirtual 87, 3) := by decide +kernel
theorem dX10_print_25 : decode cX10_print 25 = .ok (.iastore, 1) := by decide +kernel
theorem dX10_print_26 : decode cX10_print 26 = .ok (.aload_n 0, 1) := by decide +kernel
theorem dX10_print_27 : decode cX10_print 27 = .ok (.dup, 1) := by decide +kernel
theorem dX10_print_28 : decode cX10_print 28 = .ok (.getfield 31, 3) := by decide +kernel
theorem dX10_print_31 : decode cX10_print 31 = .ok (.iconst 1, 1) := by decide +kernel
theorem dX10_print_32 : decode cX10_print 32 = .ok (.iadd, 1) := by decide +kernel
theorem dX10_print_33 : decode cX10_print 33 = .ok (.putfield 31, 3) := by decide +kernel
theorem dX10_print_36 : decode cX10_print 36 = .ok (.aload_n 0, 1) := by decide +kernel
theorem dX10_print_37 : decode cX10_print 37 = .ok (.getfield 28, 3) := by decide +kernel
theorem dX10_print_40 : decode cX10_print 40 = .ok (.invokevirtual 91, 3) := by decide +kernel
theorem dX10_print_43 : decode cX10_print 43 = .ok (.return_, 1) := by decide +kernel
theorem dX10_letterOnPaper_0 : decode cX10_letterOnPaper 0 = .ok (.iload_n 1, 1) := by decide +kernel
theorem dX10_letterOnPaper_1 : decode cX10_letterOnPaper 1 = .ok (.ifCond .lt 18, 3) := by decide +kernel
theorem dX10_letterOnPaper_4 : decode cX10_letterOnPaper 4 = .ok (.iload_n 1, 1) := by decide +kernel
theorem dX10_letterOnPaper_5 : decode cX10_letterOnPaper 5 = .ok (.aload_n 0, 1) := by decide +kernel
theorem dX10_letterOnPaper_6 : decode cX10_letterOnPaper 6 = .ok (.getfield 31, 3) := by decide +kernel
theorem dX10_letterOnPaper_9 : decode cX10_letterOnPaper 9 = .ok (.if_icmp .ge 10, 3) := by decide +kernel
theorem dX10_letterOnPaper_12 : decode cX10_letterOnPaper 12 = .ok (.iload_n 1, 1) := by decide +kernel
theorem dX10_letterOnPaper_13 : decode cX10_letterOnPaper 13 = .ok (.sipush 500, 3) := by decide +kernel
theorem dX10_letterOnPaper_16 : decode cX10_letterOnPaper 16 = .ok (.if_icmp .lt 7, 3) := by decide +kernel
theorem dX10_letterOnPaper_19 : decode cX10_letterOnPaper 19 = .ok (.iconst (-1), 1) := by decide +kernel
theorem dX10_letterOnPaper_20 : decode cX10_letterOnPaper 20 = .ok (.goto 9, 3) := by decide +kernel
theorem dX10_letterOnPaper_23 : decode cX10_letterOnPaper 23 = .ok (.aload_n 0, 1) := by decide +kernel
theorem dX10_letterOnPaper_24 : decode cX10_letterOnPaper 24 = .ok (.getfield 18, 3) := by decide +kernel
theorem dX10_letterOnPaper_27 : decode cX10_letterOnPaper 27 = .ok (.iload_n 1, 1) := by decide +kernel
theorem dX10_letterOnPaper_28 : decode cX10_letterOnPaper 28 = .ok (.iaload, 1) := by decide +kernel
theorem dX10_letterOnPaper_29 : decode cX10_letterOnPaper 29 = .ok (.ireturn, 1) := by decide +kernel
theorem dX10_register_0 : decode cX10_register 0 = .ok (.iload_n 1, 1) := by decide +kernel
theorem dX10_register_1 : decode cX10_register 1 = .ok (.tableswitch 149 0 13 #[71, 76, 81, 86, 91, 96, 101, 109, 117, 149, 149, 122, 127, 132], 71) := by decide +kernel
theorem dX10_register_72 : decode cX10_register 72 = .ok (.aload_n 0, 1) := by decide +kernel
theorem dX10_register_73 : decode cX10_register 73 = .ok (.getfield 38, 3) := by decide +kernel
theorem dX10_register_76 : decode cX10_register 76 = .ok (.ireturn, 1) := by decide +kernel
theorem dX10_register_77 : decode cX10_register 77 = .ok (.aload_n 0, 1) := by decide +kernel
theorem dX10_register_78 : decode cX10_register 78 = .ok (.getfield 41, 3) := by decide +kernel
theorem dX10_register_81 : decode cX10_register 81 = .ok (.ireturn, 1) := by decide +kernel
theorem dX10_register_82 : decode cX10_register 82 = .ok (.aload_n 0, 1) := by decide +kernel
theorem dX10_register_83 : decode cX10_register 83 = .ok (.getfield 44, 3) := by decide +kernel
theorem dX10_register_86 : decode cX10_register 86 = .ok (.ireturn, 1) := by decide +kernel
theorem dX10_register_87 : decode cX10_register 87 = .ok (.aload_n 0, 1) := by decide +kernel
theorem dX10_register_88 : decode cX10_register 88 = .ok (.getfield 47, 3) := by decide +kernel
theorem dX10_register_91 : decode cX10_register 91 = .ok (.ireturn, 1) := by decide +kernel
theorem dX10_register_92 : decode cX10_register 92 = .ok (.aload_n 0, 1) := by decide +kernel
theorem dX10_register_93 : decode cX10_register 93 = .ok (.getfield 50, 3) := by decide +kernel
theorem dX10_register_96 : decode cX10_register 96 = .ok (.ireturn, 1) := by decide +kernel
theorem dX10_register_97 : decode cX10_register 97 = .ok (.aload_n 0, 1) := by decide +kernel
theorem dX10_register_98 : decode cX10_register 98 = .ok (.getfield 56, 3) := by decide +kernel
theorem dX10_register_101 : decode cX10_register 101 = .ok (.ireturn, 1) := by decide +kernel
theorem dX10_register_102 : decode cX10_register 102 = .ok (.aload_n 0, 1) := by decide +kernel
theorem dX10_register_103 : decode cX10_register 103 = .ok (.getfield 24, 3) := by decide +kernel
theorem dX10_register_106 : decode cX10_register 106 = .ok (.getfield 94, 3) := by decide +kernel
theorem dX10_register_109 : decode cX10_register 109 = .ok (.ireturn, 1) := by decide +kernel
theorem dX10_register_110 : decode cX10_register 110 = .ok (.aload_n 0, 1) := by decide +kernel
theorem dX10_register_111 : decode cX10_register 111 = .ok (.getfield 28, 3) := by decide +kernel
theorem dX10_register_114 : decode cX10_register 114 = .ok (.getfield 94, 3) := by decide +kernel
theorem dX10_register_117 : decode cX10_register 117 = .ok (.ireturn, 1) := by decide +kernel
theorem dX10_register_118 : decode cX10_register 118 = .ok (.aload_n 0, 1) := by decide +kernel
theorem dX10_register_119 : decode cX10_register 119 = .ok (.getfield 31, 3) := by decide +kernel
theorem dX10_register_122 : decode cX10_register 122 = .ok (.ireturn, 1) := by decide +kernel
theorem dX10_register_123 : decode cX10_register 123 = .ok (.aload_n 0, 1) := by decide +kernel
theorem dX10_register_124 : decode cX10_register 124 = .ok (.getfield 59, 3) := by decide +kernel
theorem dX10_register_127 : decode cX10_register 127 = .ok (.ireturn, 1) := by decide +kernel
theorem dX10_register_128 : decode cX10_register 128 = .ok (.aload_n 0, 1) := by decide +kernel
theorem dX10_register_129 : decode cX10_register 129 = .ok (.getfield 53, 3) := by decide +kernel
theorem dX10_register_132 : decode cX10_register 132 = .ok (.ireturn, 1) := by decide +kernel
theorem dX10_register_133 : decode cX10_register 133 = .ok (.aload_n 0, 1) := by decide +kernel
theorem dX10_register_134 : decode cX10_register 134 = .ok (.getfield 38, 3) := by decide +kernel
theorem dX10_register_137 : decode cX10_register 137 = .ok (.iconst 4, 1) := by decide +kernel
theorem dX10_register_138 : decode cX10_register 138 = .ok (.if_icmp .ne 10, 3) := by decide +kernel
theorem dX10_register_141 : decode cX10_register 141 = .ok (.aload_n 0, 1) := by decide +kernel
theorem dX10_register_142 : decode cX10_register 142 = .ok (.getfield 62, 3) := by decide +kernel
theorem dX10_register_145 : decode cX10_register 145 = .ok (.goto 4, 3) := by decide +kernel
theorem dX10_register_148 : decode cX10_register 148 = .ok (.iconst (-1), 1) := by decide +kernel
theorem dX10_register_149 : decode cX10_register 149 = .ok (.ireturn, 1) := by decide +kernel
theorem dX10_register_150 : decode cX10_register 150 = .ok (.iconst (-1), 1) := by decide +kernel
theorem dX10_register_151 : decode cX10_register 151 = .ok (.ireturn, 1) := by decide +kernel
theorem dX11_init_0 : decode cX11_init 0 = .ok (.aload_n 0, 1) := by decide +kernel
theorem dX11_init_1 : decode cX11_init 1 = .ok (.invokespecial 1, 3) := by decide +kernel
theorem dX11_init_4 : decode cX11_init 4 = .ok (.aload_n 0, 1) := by decide +kernel
theorem dX11_init_5 : decode cX11_init 5 = .ok (.sipush 2000, 3) := by decide +kernel
theorem dX11_init_8 : decode cX11_init 8 = .ok (.newarray .int, 2) := by decide +kernel
theorem dX11_init_10 : decode cX11_init 10 = .ok (.putfield 9, 3) := by decide +kernel
theorem dX11_init_13 : decode cX11_init 13 = .ok (.aload_n 0, 1) := by decide +kernel
theorem dX11_init_14 : decode cX11_init 14 = .ok (.iconst 0, 1) := by decide +kernel
theorem dX11_init_15 : decode cX11_init 15 = .ok (.putfield 13, 3) := by decide +kernel
theorem dX11_init_18 : decode cX11_init 18 = .ok (.aload_n 0, 1) := by decide +kernel
theorem dX11_init_19 : decode cX11_init 19 = .ok (.new 17, 3) := by decide +kernel
theorem dX11_init_22 : decode cX11_init 22 = .ok (.dup, 1) := by decide +kernel
theorem dX11_init_23 : decode cX11_init 23 = .ok (.invokespecial 19, 3) := by decide +kernel
theorem dX11_init_26 : decode cX11_init 26 = .ok (.putfield 20, 3) := by decide +kernel
theorem dX11_init_29 : decode cX11_init 29 = .ok (.aload_n 0, 1) := by decide +kernel
theorem dX11_init_30 : decode cX11_init 30 = .ok (.new 24, 3) := by decide +kernel
theorem dX11_init_33 : decode cX11_init 33 = .ok (.dup, 1) := by decide +kernel
theorem dX11_init_34 : decode cX11_init 34 = .ok (.iload_n 1, 1) := by decide +kernel
theorem dX11_init_35 : decode cX11_init 35 = .ok (.bipush 6, 2) := by decide +kernel
theorem dX11_init_37 : decode cX11_init 37 = .ok (.invokestatic 26, 3) := by decide +kernel
theorem dX11_init_40 : decode cX11_init 40 = .ok (.iload_n 2, 1) := by decide +kernel
theorem dX11_init_41 : decode cX11_init 41 = .ok (.iconst 4, 1) := by decide +kernel
theorem dX11_init_42 : decode cX11_init 42 = .ok (.invokestatic 26, 3) := by decide +kernel
theorem dX11_init_45 : decode cX11_init 45 = .ok (.iload_n 3, 1) := by decide +kernel
theorem dX11_init_46 : decode cX11_init 46 = .ok (.bipush 64, 2) := by decide +kernel
theorem dX11_init_48 : decode cX11_init 48 = .ok (.invokestatic 26, 3) := by decide +kernel
theorem dX11_init_51 : decode cX11_init 51 = .ok (.iload 4, 2) := by decide +kernel
theorem dX11_init_53 : decode cX11_init 53 = .ok (.bipush 64, 2) := by decide +kernel
theorem dX11_init_55 : decode cX11_init 55 = .ok (.invokestatic 26, 3) := by decide +kernel
theorem dX11_init_58 : decode cX11_init 58 = .ok (.invokespecial 30, 3) := by decide +kernel
theorem dX11_init_61 : decode cX11_init 61 = .ok (.putfield 33, 3) := by decide +kernel
theorem dX11_init_64 : decode cX11_init 64 = .ok (.return_, 1) := by decide +kernel
theorem dX11_nearest_0 : decode cX11_nearest 0 = .ok (.iconst 1, 1) := by decide +kernel
theorem dX11_nearest_1 : decode cX11_nearest 1 = .ok (.iload_n 1, 1) := by decide +kernel
theorem dX11_nearest_2 : decode cX11_nearest 2 = .ok (.iload_n 0, 1) := by decide +kernel
theorem dX11_nearest_3 : decode cX11_nearest 3 = .ok (.invokestatic 37, 3) := by decide +kernel
theorem dX11_nearest_6 : decode cX11_nearest 6 = .ok (.invokestatic 42, 3) := by decide +kernel
theorem dX11_nearest_9 : decode cX11_nearest 9 = .ok (.ireturn, 1) := by decide +kernel
theorem dX11_isWord_0 : decode cX11_isWord 0 = .ok (.iload_n 0, 1) := by decide +kernel
theorem dX11_isWord_1 : decode cX11_isWord 1 = .ok (.ifCond .lt 14, 3) := by decide +kernel
theorem dX11_isWord_4 : decode cX11_isWord 4 = .ok (.iload_n 0, 1) := by decide +kernel
theorem dX11_isWord_5 : decode cX11_isWord 5 = .ok (.sipush 4096, 3) := by decide +kernel
theorem dX11_isWord_8 : decode cX11_isWord 8 = .ok (.if_icmp .ge 7, 3) := by decide +kernel
theorem dX11_isWord_11 : decode cX11_isWord 11 = .ok (.iconst 1, 1) := by decide +kernel
theorem dX11_isWord_12 : decode cX11_isWord 12 = .ok (.goto 4, 3) := by decide +kernel
theorem dX11_isWord_15 : decode cX11_isWord 15 = .ok (.iconst 0, 1) := by decide +kernel
theorem dX11_isWord_16 : decode cX11_isWord 16 = .ok (.ireturn, 1) := by decide +kernel
theorem dX11_feed_0 : decode cX11_feed 0 = .ok (.aload_n 0, 1) := by decide +kernel
theorem dX11_feed_1 : decode cX11_feed 1 = .ok (.getfield 13, 3) := by decide +kernel
theorem dX11_feed_4 : decode cX11_feed 4 = .ok (.bipush 20, 2) := by decide +kernel
theorem dX11_feed_6 : decode cX11_feed 6 = .ok (.iadd, 1) := by decide +kernel
theorem dX11_feed_7 : decode cX11_feed 7 = .ok (.sipush 2000, 3) := by decide +kernel
theorem dX11_feed_10 : decode cX11_feed 10 = .ok (.if_icmp .le 5, 3) := by decide +kernel
theorem dX11_feed_13 : decode cX11_feed 13 = .ok (.iconst (-1), 1) := by decide +kernel
theorem dX11_feed_14 : decode cX11_feed 14 = .ok (.ireturn, 1) := by decide +kernel
theorem dX11_feed_15 : decode cX11_feed 15 = .ok (.aload_n 0, 1) := by decide +kernel
theorem dX11_feed_16 : decode cX11_feed 16 = .ok (.iload_n 1, 1) := by decide +kernel
theorem dX11_feed_17 : decode cX11_feed 17 = .ok (.invokevirtual 45, 3) := by decide +kernel
theorem dX11_feed_20 : decode cX11_feed 20 = .ok (.aload_n 0, 1) := by decide +kernel
theorem dX11_feed_21 : decode cX11_feed 21 = .ok (.iload_n 2, 1) := by decide +kernel
theorem dX11_feed_22 : decode cX11_feed 22 = .ok (.invokevirtual 45, 3) := by decide +kernel
theorem dX11_feed_25 : decode cX11_feed 25 = .ok (.aload_n 0, 1) := by decide +kernel
theorem dX11_feed_26 : decode cX11_feed 26 = .ok (.iload_n 3, 1) := by decide +kernel
theorem dX11_feed_27 : decode cX11_feed 27 = .ok (.invokevirtual 45, 3) := by decide +kernel
theorem dX11_feed_30 : decode cX11_feed 30 = .ok (.aload_n 0, 1) := by decide +kernel
theorem dX11_feed_31 : decode cX11_feed 31 = .ok (.iload 4, 2) := by decide +kernel
theorem dX11_feed_33 : decode cX11_feed 33 = .ok (.invokevirtual 45, 3) := by decide +kernel
theorem dX11_feed_36 : decode cX11_feed 36 = .ok (.aload_n 0, 1) := by decide +kernel
theorem dX11_feed_37 : decode cX11_feed 37 = .ok (.iload 5, 2) := by decide +kernel
theorem dX11_feed_39 : decode cX11_feed 39 = .ok (.invokevirtual 45, 3) := by decide +kernel
theorem dX11_feed_42 : decode cX11_feed 42 = .ok (.aload_n 0, 1) := by decide +kernel
theorem dX11_feed_43 : decode cX11_feed 43 = .ok (.getfield 13, 3) := by decide +kernel
theorem dX11_feed_46 : decode cX11_feed 46 = .ok (.ireturn, 1) := by decide +kernel
theorem dX11_feedFour_0 : decode cX11_feedFour 0 = .ok (.bipush 24, 2) := by decide +kernel
theorem dX11_feedFour_2 : decode cX11_feedFour 2 = .ok (.istore_n 2, 1) := by decide +kernel
theorem dX11_feedFour_3 : decode cX11_feedFour 3 = .ok (.iload_n 2, 1) := by decide +kernel
theorem dX11_feedFour_4 : decode cX11_feedFour 4 = .ok (.ifCond .lt 45, 3) := by decide +kernel
theorem dX11_feedFour_7 : decode cX11_feedFour 7 = .ok (.aload_n 0, 1) := by decide +kernel
theorem dX11_feedFour_8 : decode cX11_feedFour 8 = .ok (.getfield 13, 3) := by decide +kernel
theorem dX11_feedFour_11 : decode cX11_feedFour 11 = .ok (.sipush 2000, 3) := by decide +kernel
theorem dX11_feedFour_14 : decode cX11_feedFour 14 = .ok (.if_icmp .ge 35, 3) := by decide +kernel
theorem dX11_feedFour_17 : decode cX11_feedFour 17 = .ok (.aload_n 0, 1) := by decide +kernel
theorem dX11_feedFour_18 : decode cX11_feedFour 18 = .ok (.getfield 9, 3) := by decide +kernel
theorem dX11_feedFour_21 : decode cX11_feedFour 21 = .ok (.aload_n 0, 1) := by decide +kernel
theorem dX11_feedFour_22 : decode cX11_feedFour 22 = .ok (.getfield 13, 3) := by decide +kernel
theorem dX11_feedFour_25 : decode cX11_feedFour 25 = .ok (.iload_n 1, 1) := by decide +kernel
theorem dX11_feedFour_26 : decode cX11_feedFour 26 = .ok (.iload_n 2, 1) := by decide +kernel
theorem dX11_feedFour_27 : decode cX11_feedFour 27 = .ok (.iushr, 1) := by decide +kernel
theorem dX11_feedFour_28 : decode cX11_feedFour 28 = .ok (.sipush 255, 3) := by decide +kernel
theorem dX11_feedFour_31 : decode cX11_feedFour 31 = .ok (.iand, 1) := by decide +kernel
theorem dX11_feedFour_32 : decode cX11_feedFour 32 = .ok (.iastore, 1) := by decide +kernel
theorem dX11_feedFour_33 : decode cX11_feedFour 33 = .ok (.aload_n 0, 1) := by decide +kernel
theorem dX11_feedFour_34 : decode cX11_feedFour 34 = .ok (.dup, 1) := by decide +kernel
theorem dX11_feedFour_35 : decode cX11_feedFour 35 = .ok (.getfield 13, 3) := by decide +kernel
theorem dX11_feedFour_38 : decode cX11_feedFour 38 = .ok (.iconst 1, 1) := by decide +kernel
theorem dX11_feedFour_39 : decode cX11_feedFour 39 = .ok (.iadd, 1) := by decide +kernel
theorem dX11_feedFour_40 : decode cX11_feedFour 40 = .ok (.putfield 13, 3) := by decide +kernel
theorem dX11_feedFour_43 : decode cX11_feedFour 43 = .ok (.iinc 2 (-8), 3) := by decide +kernel
theorem dX11_feedFour_46 : decode cX11_feedFour 46 = .ok (.goto (-43), 3) := by decide +kernel
theorem dX11_feedFour_49 : decode cX11_feedFour 49 = .ok (.return_, 1) := by decide +kernel
theorem dX11_end_0 : decode cX11_end 0 = .ok (.iload_n 1, 1) := by decide +kernel
theorem dX11_end_1 : decode cX11_end 1 = .ok (.ifCond .lt 11, 3) := by decide +kernel
theorem dX11_end_4 : decode cX11_end 4 = .ok (.iload_n 1, 1) := by decide +kernel
theorem dX11_end_5 : decode cX11_end 5 = .ok (.aload_n 0, 1) := by decide +kernel
theorem dX11_end_6 : decode cX11_end 6 = .ok (.getfield 13, 3) := by decide +kernel
theorem dX11_end_9 : decode cX11_end 9 = .ok (.if_icmp .le 5, 3) := by decide +kernel
theorem dX11_end_12 : decode cX11_end 12 = .ok (.iconst 0, 1) := by decide +kernel
theorem dX11_end_13 : decode cX11_end 13 = .ok (.ireturn, 1) := by decide +kernel
theorem dX11_end_14 : decode cX11_end 14 = .ok (.aload_n 0, 1) := by decide +kernel
theorem dX11_end_15 : decode cX11_end 15 = .ok (.iload_n 1, 1) := by decide +kernel
theorem dX11_end_16 : decode cX11_end 16 = .ok (.putfield 13, 3) := by decide +kernel
theorem dX11_end_19 : decode cX11_end 19 = .ok (.iconst 1, 1) := by decide +kernel
theorem dX11_end_20 : decode cX11_end 20 = .ok (.ireturn, 1) := by decide +kernel
theorem dX11_assemble_0 : decode cX11_assemble 0 = .ok (.aload_n 0, 1) := by decide +kernel
theorem dX11_assemble_1 : decode cX11_assemble 1 = .ok (.getfield 20, 3) := by decide +kernel
theorem dX11_assemble_4 : decode cX11_assemble 4 = .ok (.aload_n 0, 1) := by decide +kernel
theorem dX11_assemble_5 : decode cX11_assemble 5 = .ok (.getfield 9, 3) := by decide +kernel
theorem dX11_assemble_8 : decode cX11_assemble 8 = .ok (.aload_n 0, 1) := by decide +kernel
theorem dX11_assemble_9 : decode cX11_assemble 9 = .ok (.getfield 13, 3) := by decide +kernel
theorem dX11_assemble_12 : decode cX11_assemble 12 = .ok (.invokevirtual 49, 3) := by decide +kernel
theorem dX11_assemble_15 : decode cX11_assemble 15 = .ok (.aload_n 0, 1) := by decide +kernel
theorem dX11_assemble_16 : decode cX11_assemble 16 = .ok (.iconst 0, 1) := by decide +kernel
theorem dX11_assemble_17 : decode cX11_assemble 17 = .ok (.putfield 13, 3) := by decide +kernel
theorem dX11_assemble_20 : decode cX11_assemble 20 = .ok (.aload_n 0, 1) := by decide +kernel
theorem dX11_assemble_21 : decode cX11_assemble 21 = .ok (.getfield 20, 3) := by decide +kernel
theorem dX11_assemble_24 : decode cX11_assemble 24 = .ok (.iconst 0, 1) := by decide +kernel
theorem dX11_assemble_25 : decode cX11_assemble 25 = .ok (.invokevirtual 53, 3) := by decide +kernel
theorem dX11_assemble_28 : decode cX11_assemble 28 = .ok (.aload_n 0, 1) := by decide +kernel
theorem dX11_assemble_29 : decode cX11_assemble 29 = .ok (.getfield 20, 3) := by decide +kernel
theorem dX11_assemble_32 : decode cX11_assemble 32 = .ok (.iconst 1, 1) := by decide +kernel
theorem dX11_assemble_33 : decode cX11_assemble 33 = .ok (.invokevirtual 53, 3) := by decide +kernel
theorem dX11_assemble_36 : decode cX11_assemble 36 = .ok (.aload_n 0, 1) := by decide +kernel
theorem dX11_assemble_37 : decode cX11_assemble 37 = .ok (.getfield 20, 3) := by decide +kernel
theorem dX11_assemble_40 : decode cX11_assemble 40 = .ok (.invokevirtual 57, 3) := by decide +kernel
theorem dX11_assemble_43 : decode cX11_assemble 43 = .ok (.ireturn, 1) := by decide +kernel
theorem dX11_fault_0 : decode cX11_fault 0 = .ok (.iload_n 1, 1) := by decide +kernel
theorem dX11_fault_1 : decode cX11_fault 1 = .ok (.lookupswitch 43 #[(0, 27), (1, 35)], 27) := by decide +kernel
theorem dX11_fault_28 : decode cX11_fault 28 = .ok (.aload_n 0, 1) := by decide +kernel
theorem dX11_fault_29 : decode cX11_fault 29 = .ok (.getfield 20, 3) := by decide +kernel
theorem dX11_fault_32 : decode cX11_fault 32 = .ok (.getfield 61, 3) := by decide +kernel
theorem dX11_fault_35 : decode cX11_fault 35 = .ok (.ireturn, 1) := by decide +kernel
theorem dX11_fault_36 : decode cX11_fault 36 = .ok (.aload_n 0, 1) := by decide +kernel
theorem dX11_fault_37 : decode cX11_fault 37 = .ok (.getfield 20, 3) := by decide +kernel
theorem dX11_fault_40 : decode cX11_fault 40 = .ok (.getfield 64, 3) := by decide +kernel
theorem dX11_fault_43 : decode cX11_fault 43 = .ok (.ireturn, 1) := by decide +kernel
theorem dX11_fault_44 : decode cX11_fault 44 = .ok (.iconst (-1), 1) := by decide +kernel
theorem dX11_fault_45 : decode cX11_fault 45 = .ok (.ireturn, 1) := by decide +kernel
theorem dX11_made_0 : decode cX11_made 0 = .ok (.aload_n 0, 1) := by decide +kernel
theorem dX11_made_1 : decode cX11_made 1 = .ok (.getfield 20, 3) := by decide +kernel
theorem dX11_made_4 : decode cX11_made 4 = .ok (.getfield 67, 3) := by decide +kernel
theorem dX11_made_7 : decode cX11_made 7 = .ok (.iload_n 1, 1) := by decide +kernel
theorem dX11_made_8 : decode cX11_made 8 = .ok (.invokevirtual 71, 3) := by decide +kernel
theorem dX11_made_11 : decode cX11_made 11 = .ok (.ireturn, 1) := by decide +kernel
theorem dX11_mount_0 : decode cX11_mount 0 = .ok (.aload_n 0, 1) := by decide +kernel
theorem dX11_mount_1 : decode cX11_mount 1 = .ok (.getfield 33, 3) := by decide +kernel
theorem dX11_mount_4 : decode cX11_mount 4 = .ok (.iload_n 1, 1) := by decide +kernel
theorem dX11_mount_5 : decode cX11_mount 5 = .ok (.invokevirtual 77, 3) := by decide +kernel
theorem dX11_mount_8 : decode cX11_mount 8 = .ok (.astore_n 2, 1) := by decide +kernel
theorem dX11_mount_9 : decode cX11_mount 9 = .ok (.aload_n 2, 1) := by decide +kernel
theorem dX11_mount_10 : decode cX11_mount 10 = .ok (.ifnull 14, 3) := by decide +kernel
theorem dX11_mount_13 : decode cX11_mount 13 = .ok (.aload_n 0, 1) := by decide +kernel
theorem dX11_mount_14 : decode cX11_mount 14 = .ok (.getfield 33, 3) := by decide +kernel
theorem dX11_mount_17 : decode cX11_mount 17 = .ok (.aload_n 2, 1) := by decide +kernel
theorem dX11_mount_18 : decode cX11_mount 18 = .ok (.invokevirtual 81, 3) := by decide +kernel
theorem dX11_mount_21 : decode cX11_mount 21 = .ok (.ifCond .ne 5, 3) := by decide +kernel
theorem dX11_mount_24 : decode cX11_mount 24 = .ok (.iconst 0, 1) := by decide +kernel
theorem dX11_mount_25 : decode cX11_mount 25 = .ok (.ireturn, 1) := by decide +kernel
theorem dX11_mount_26 : decode cX11_mount 26 = .ok (.aload_n 0, 1) := by decide +kernel
theorem dX11_mount_27 : decode cX11_mount 27 = .ok (.getfield 33, 3) := by decide +kernel
theorem dX11_mount_30 : decode cX11_mount 30 = .ok (.aload_n 2, 1) := by decide +kernel
theorem dX11_mount_31 : decode cX11_mount 31 = .ok (.aload_n 0, 1) := by decide +kernel
theorem dX11_mount_32 : decode cX11_mount 32 = .ok (.getfield 20, 3) := by decide +kernel
theorem dX11_mount_35 : decode cX11_mount 35 = .ok (.getfield 67, 3) := by decide +kernel
theorem dX11_mount_38 : decode cX11_mount 38 = .ok (.invokevirtual 85, 3) := by decide +kernel
theorem dX11_mount_41 : decode cX11_mount 41 = .ok (.iconst 1, 1) := by decide +kernel
theorem dX11_mount_42 : decode cX11_mount 42 = .ok (.ireturn, 1) := by decide +kernel
theorem dX11_begin_0 : decode cX11_begin 0 = .ok (.aload_n 0, 1) := by decide +kernel
theorem dX11_begin_1 : decode cX11_begin 1 = .ok (.getfield 33, 3) := by decide +kernel
theorem dX11_begin_4 : decode cX11_begin 4 = .ok (.iload_n 1, 1) := by decide +kernel
theorem dX11_begin_5 : decode cX11_begin 5 = .ok (.invokevirtual 77, 3) := by decide +kernel
theorem dX11_begin_8 : decode cX11_begin 8 = .ok (.astore_n 3, 1) := by decide +kernel
theorem dX11_begin_9 : decode cX11_begin 9 = .ok (.aload_n 3, 1) := by decide +kernel
theorem dX11_begin_10 : decode cX11_begin 10 = .ok (.ifnull 17, 3) := by decide +kernel
theorem dX11_begin_13 : decode cX11_begin 13 = .ok (.iload_n 2, 1) := by decide +kernel
theorem dX11_begin_14 : decode cX11_begin 14 = .ok (.invokestatic 89, 3) := by decide +kernel
theorem dX11_begin_17 : decode cX11_begin 17 = .ok (.ifCond .eq 10, 3) := by decide +kernel
theorem dX11_begin_20 : decode cX11_begin 20 = .ok (.aload_n 3, 1) := by decide +kernel
theorem dX11_begin_21 : decode cX11_begin 21 = .ok (.invokevirtual 93, 3) := by decide +kernel
theorem dX11_begin_24 : decode cX11_begin 24 = .ok (.ifCond .ne 5, 3) := by decide +kernel
theorem dX11_begin_27 : decode cX11_begin 27 = .ok (.iconst 0, 1) := by decide +kernel
theorem dX11_begin_28 : decode cX11_begin 28 = .ok (.ireturn, 1) := by decide +kernel
theorem dX11_begin_29 : decode cX11_begin 29 = .ok (.aload_n 3, 1) := by decide +kernel
theorem dX11_begin_30 : decode cX11_begin 30 = .ok (.iload_n 2, 1) := by decide +kernel
theorem dX11_begin_31 : decode cX11_begin 31 = .ok (.putfield 99, 3) := by decide +kernel
theorem dX11_begin_34 : decode cX11_begin 34 = .ok (.aload_n 0, 1) := by decide +kernel
theorem dX11_begin_35 : decode cX11_begin 35 = .ok (.getfield 33, 3) := by decide +kernel
theorem dX11_begin_38 : decode cX11_begin 38 = .ok (.aload_n 3, 1) := by decide +kernel
theorem dX11_begin_39 : decode cX11_begin 39 = .ok (.invokevirtual 102, 3) := by decide +kernel
theorem dX11_begin_42 : decode cX11_begin 42 = .ok (.iconst 1, 1) := by decide +kernel
theorem dX11_begin_43 : decode cX11_begin 43 = .ok (.ireturn, 1) := by decide +kernel
theorem dX11_halt_0 : decode cX11_halt 0 = .ok (.aload_n 0, 1) := by decide +kernel
theorem dX11_halt_1 : decode cX11_halt 1 = .ok (.getfield 33, 3) := by decide +kernel
theorem dX11_halt_4 : decode cX11_halt 4 = .ok (.iload_n 1, 1) := by decide +kernel
theorem dX11_halt_5 : decode cX11_halt 5 = .ok (.invokevirtual 77, 3) := by decide +kernel
theorem dX11_halt_8 : decode cX11_halt 8 = .ok (.astore_n 2, 1) := by decide +kernel
theorem dX11_halt_9 : decode cX11_halt 9 = .ok (.aload_n 2, 1) := by decide +kernel
theorem dX11_halt_10 : decode cX11_halt 10 = .ok (.ifnull 10, 3) := by decide +kernel
theorem dX11_halt_13 : decode cX11_halt 13 = .ok (.aload_n 2, 1) := by decide +kernel
theorem dX11_halt_14 : decode cX11_halt 14 = .ok (.invokevirtual 106, 3) := by decide +kernel
theorem dX11_halt_17 : decode cX11_halt 17 = .ok (.ifCond .ne 5, 3) := by decide +kernel
theorem dX11_halt_20 : decode cX11_halt 20 = .ok (.iconst 0, 1) := by decide +kernel
theorem dX11_halt_21 : decode cX11_halt 21 = .ok (.ireturn, 1) := by decide +kernel
theorem dX11_halt_22 : decode cX11_halt 22 = .ok (.aload_n 0, 1) := by decide +kernel
theorem dX11_halt_23 : decode cX11_halt 23 = .ok (.getfield 33, 3) := by decide +kernel
theorem dX11_halt_26 : decode cX11_halt 26 = .ok (.aload_n 2, 1) := by decide +kernel
theorem dX11_halt_27 : decode cX11_halt 27 = .ok (.invokevirtual 109, 3) := by decide +kernel
theorem dX11_halt_30 : decode cX11_halt 30 = .ok (.iconst 1, 1) := by decide +kernel
theorem dX11_halt_31 : decode cX11_halt 31 = .ok (.ireturn, 1) := by decide +kernel
theorem dX11_key_0 : decode cX11_key 0 = .ok (.aload_n 0, 1) := by decide +kernel
theorem dX11_key_1 : decode cX11_key 1 = .ok (.getfield 33, 3) := by decide +kernel
theorem dX11_key_4 : decode cX11_key 4 = .ok (.iload_n 1, 1) := by decide +kernel
theorem dX11_key_5 : decode cX11_key 5 = .ok (.invokevirtual 77, 3) := by decide +kernel
theorem dX11_key_8 : decode cX11_key 8 = .ok (.astore_n 3, 1) := by decide +kernel
theorem dX11_key_9 : decode cX11_key 9 = .ok (.aload_n 3, 1) := by decide +kernel
theorem dX11_key_10 : decode cX11_key 10 = .ok (.ifnull 13, 3) := by decide +kernel
theorem dX11_key_13 : decode cX11_key 13 = .ok (.iload_n 2, 1) := by decide +kernel
theorem dX11_key_14 : decode cX11_key 14 = .ok (.ifCond .lt 9, 3) := by decide +kernel
theorem dX11_key_17 : decode cX11_key 17 = .ok (.iload_n 2, 1) := by decide +kernel
theorem dX11_key_18 : decode cX11_key 18 = .ok (.bipush 127, 2) := by decide +kernel
theorem dX11_key_20 : decode cX11_key 20 = .ok (.if_icmp .le 5, 3) := by decide +kernel
theorem dX11_key_23 : decode cX11_key 23 = .ok (.iconst 0, 1) := by decide +kernel
theorem dX11_key_24 : decode cX11_key 24 = .ok (.ireturn, 1) := by decide +kernel
theorem dX11_key_25 : decode cX11_key 25 = .ok (.aload_n 0, 1) := by decide +kernel
theorem dX11_key_26 : decode cX11_key 26 = .ok (.getfield 33, 3) := by decide +kernel
theorem dX11_key_29 : decode cX11_key 29 = .ok (.aload_n 3, 1) := by decide +kernel
theorem dX11_key_30 : decode cX11_key 30 = .ok (.iload_n 2, 1) := by decide +kernel
theorem dX11_key_31 : decode cX11_key 31 = .ok (.invokevirtual 112, 3) := by decide +kernel
theorem dX11_key_34 : decode cX11_key 34 = .ok (.ireturn, 1) := by decide +kernel
theorem dX11_set_0 : decode cX11_set 0 = .ok (.aload_n 0, 1) := by decide +kernel
theorem dX11_set_1 : decode cX11_set 1 = .ok (.getfield 33, 3) := by decide +kernel
theorem dX11_set_4 : decode cX11_set 4 = .ok (.iload_n 1, 1) := by decide +kernel
theorem dX11_set_5 : decode cX11_set 5 = .ok (.invokevirtual 77, 3) := by decide +kernel
theorem dX11_set_8 : decode cX11_set 8 = .ok (.astore_n 3, 1) := by decide +kernel
theorem dX11_set_9 : decode cX11_set 9 = .ok (.aload_n 3, 1) := by decide +kernel
theorem dX11_set_10 : decode cX11_set 10 = .ok (.ifnull 10, 3) := by decide +kernel
theorem dX11_set_13 : decode cX11_set 13 = .ok (.iload_n 2, 1) := by decide +kernel
theorem dX11_set_14 : decode cX11_set 14 = .ok (.invokestatic 89, 3) := by decide +kernel
theorem dX11_set_17 : decode cX11_set 17 = .ok (.ifCond .ne 5, 3) := by decide +kernel
theorem dX11_set_20 : decode cX11_set 20 = .ok (.iconst 0, 1) := by decide +kernel
theorem dX11_set_21 : decode cX11_set 21 = .ok (.ireturn, 1) := by decide +kernel
theorem dX11_set_22 : decode cX11_set 22 = .ok (.aload_n 3, 1) := by decide +kernel
