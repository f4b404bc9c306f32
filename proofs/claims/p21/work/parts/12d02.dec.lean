theorem dX12_findTold_38 : decode cX12_findTold 38 = .ok (.ifCond .eq 40, 3) := by decide +kernel
theorem dX12_findTold_41 : decode cX12_findTold 41 = .ok (.aload_n 0, 1) := by decide +kernel
theorem dX12_findTold_42 : decode cX12_findTold 42 = .ok (.getfield 98, 3) := by decide +kernel
theorem dX12_findTold_45 : decode cX12_findTold 45 = .ok (.bipush 7, 2) := by decide +kernel
theorem dX12_findTold_47 : decode cX12_findTold 47 = .ok (.iload_n 3, 1) := by decide +kernel
theorem dX12_findTold_48 : decode cX12_findTold 48 = .ok (.imul, 1) := by decide +kernel
theorem dX12_findTold_49 : decode cX12_findTold 49 = .ok (.iload 5, 2) := by decide +kernel
theorem dX12_findTold_51 : decode cX12_findTold 51 = .ok (.iadd, 1) := by decide +kernel
theorem dX12_findTold_52 : decode cX12_findTold 52 = .ok (.iaload, 1) := by decide +kernel
theorem dX12_findTold_53 : decode cX12_findTold 53 = .ok (.aload_n 0, 1) := by decide +kernel
theorem dX12_findTold_54 : decode cX12_findTold 54 = .ok (.getfield 28, 3) := by decide +kernel
theorem dX12_findTold_57 : decode cX12_findTold 57 = .ok (.iload_n 1, 1) := by decide +kernel
theorem dX12_findTold_58 : decode cX12_findTold 58 = .ok (.iload 5, 2) := by decide +kernel
theorem dX12_findTold_60 : decode cX12_findTold 60 = .ok (.iadd, 1) := by decide +kernel
theorem dX12_findTold_61 : decode cX12_findTold 61 = .ok (.iaload, 1) := by decide +kernel
theorem dX12_findTold_62 : decode cX12_findTold 62 = .ok (.if_icmp .ne 7, 3) := by decide +kernel
theorem dX12_findTold_65 : decode cX12_findTold 65 = .ok (.iconst 1, 1) := by decide +kernel
theorem dX12_findTold_66 : decode cX12_findTold 66 = .ok (.goto 4, 3) := by decide +kernel
theorem dX12_findTold_69 : decode cX12_findTold 69 = .ok (.iconst 0, 1) := by decide +kernel
theorem dX12_findTold_70 : decode cX12_findTold 70 = .ok (.istore 4, 2) := by decide +kernel
theorem dX12_findTold_72 : decode cX12_findTold 72 = .ok (.iinc 5 1, 3) := by decide +kernel
theorem dX12_findTold_75 : decode cX12_findTold 75 = .ok (.goto (-45), 3) := by decide +kernel
theorem dX12_findTold_78 : decode cX12_findTold 78 = .ok (.iload 4, 2) := by decide +kernel
theorem dX12_findTold_80 : decode cX12_findTold 80 = .ok (.ifCond .eq 5, 3) := by decide +kernel
theorem dX12_findTold_83 : decode cX12_findTold 83 = .ok (.iload_n 3, 1) := by decide +kernel
theorem dX12_findTold_84 : decode cX12_findTold 84 = .ok (.ireturn, 1) := by decide +kernel
theorem dX12_findTold_85 : decode cX12_findTold 85 = .ok (.iinc 3 1, 3) := by decide +kernel
theorem dX12_findTold_88 : decode cX12_findTold 88 = .ok (.goto (-86), 3) := by decide +kernel
theorem dX12_findTold_91 : decode cX12_findTold 91 = .ok (.iconst (-1), 1) := by decide +kernel
theorem dX12_findTold_92 : decode cX12_findTold 92 = .ok (.ireturn, 1) := by decide +kernel
theorem dX12_tells_0 : decode cX12_tells 0 = .ok (.ldc 101, 2) := by decide +kernel
theorem dX12_tells_2 : decode cX12_tells 2 = .ok (.aload_n 0, 1) := by decide +kernel
theorem dX12_tells_3 : decode cX12_tells 3 = .ok (.getfield 28, 3) := by decide +kernel
theorem dX12_tells_6 : decode cX12_tells 6 = .ok (.iload_n 1, 1) := by decide +kernel
theorem dX12_tells_7 : decode cX12_tells 7 = .ok (.iload_n 2, 1) := by decide +kernel
theorem dX12_tells_8 : decode cX12_tells 8 = .ok (.invokestatic 103, 3) := by decide +kernel
theorem dX12_tells_11 : decode cX12_tells 11 = .ok (.iconst (-1), 1) := by decide +kernel
theorem dX12_tells_12 : decode cX12_tells 12 = .ok (.if_icmp .ne 18, 3) := by decide +kernel
theorem dX12_tells_15 : decode cX12_tells 15 = .ok (.ldc 107, 2) := by decide +kernel
theorem dX12_tells_17 : decode cX12_tells 17 = .ok (.aload_n 0, 1) := by decide +kernel
theorem dX12_tells_18 : decode cX12_tells 18 = .ok (.getfield 28, 3) := by decide +kernel
theorem dX12_tells_21 : decode cX12_tells 21 = .ok (.iload_n 1, 1) := by decide +kernel
theorem dX12_tells_22 : decode cX12_tells 22 = .ok (.iload_n 2, 1) := by decide +kernel
theorem dX12_tells_23 : decode cX12_tells 23 = .ok (.invokestatic 103, 3) := by decide +kernel
theorem dX12_tells_26 : decode cX12_tells 26 = .ok (.iconst (-1), 1) := by decide +kernel
theorem dX12_tells_27 : decode cX12_tells 27 = .ok (.if_icmp .eq 9, 3) := by decide +kernel
theorem dX12_tells_30 : decode cX12_tells 30 = .ok (.aload_n 0, 1) := by decide +kernel
theorem dX12_tells_31 : decode cX12_tells 31 = .ok (.iconst 5, 1) := by decide +kernel
theorem dX12_tells_32 : decode cX12_tells 32 = .ok (.iload_n 1, 1) := by decide +kernel
theorem dX12_tells_33 : decode cX12_tells 33 = .ok (.invokevirtual 57, 3) := by decide +kernel
theorem dX12_tells_36 : decode cX12_tells 36 = .ok (.aload_n 0, 1) := by decide +kernel
theorem dX12_tells_37 : decode cX12_tells 37 = .ok (.iload_n 1, 1) := by decide +kernel
theorem dX12_tells_38 : decode cX12_tells 38 = .ok (.iload_n 2, 1) := by decide +kernel
theorem dX12_tells_39 : decode cX12_tells 39 = .ok (.invokevirtual 109, 3) := by decide +kernel
theorem dX12_tells_42 : decode cX12_tells 42 = .ok (.istore 5, 2) := by decide +kernel
theorem dX12_tells_44 : decode cX12_tells 44 = .ok (.aload_n 0, 1) := by decide +kernel
theorem dX12_tells_45 : decode cX12_tells 45 = .ok (.getfield 112, 3) := by decide +kernel
theorem dX12_tells_48 : decode cX12_tells 48 = .ok (.ifCond .ne 30, 3) := by decide +kernel
theorem dX12_tells_51 : decode cX12_tells 51 = .ok (.iload 5, 2) := by decide +kernel
theorem dX12_tells_53 : decode cX12_tells 53 = .ok (.iconst (-1), 1) := by decide +kernel
theorem dX12_tells_54 : decode cX12_tells 54 = .ok (.if_icmp .eq 24, 3) := by decide +kernel
theorem dX12_tells_57 : decode cX12_tells 57 = .ok (.iload 4, 2) := by decide +kernel
theorem dX12_tells_59 : decode cX12_tells 59 = .ok (.ifCond .ne 13, 3) := by decide +kernel
theorem dX12_tells_62 : decode cX12_tells 62 = .ok (.aload_n 0, 1) := by decide +kernel
theorem dX12_tells_63 : decode cX12_tells 63 = .ok (.getfield 116, 3) := by decide +kernel
theorem dX12_tells_66 : decode cX12_tells 66 = .ok (.iload 5, 2) := by decide +kernel
theorem dX12_tells_68 : decode cX12_tells 68 = .ok (.baload, 1) := by decide +kernel
theorem dX12_tells_69 : decode cX12_tells 69 = .ok (.ifCond .eq 9, 3) := by decide +kernel
theorem dX12_tells_72 : decode cX12_tells 72 = .ok (.aload_n 0, 1) := by decide +kernel
theorem dX12_tells_73 : decode cX12_tells 73 = .ok (.iconst 4, 1) := by decide +kernel
theorem dX12_tells_74 : decode cX12_tells 74 = .ok (.iload_n 1, 1) := by decide +kernel
theorem dX12_tells_75 : decode cX12_tells 75 = .ok (.invokevirtual 57, 3) := by decide +kernel
theorem dX12_tells_78 : decode cX12_tells 78 = .ok (.iload 5, 2) := by decide +kernel
theorem dX12_tells_80 : decode cX12_tells 80 = .ok (.iconst (-1), 1) := by decide +kernel
theorem dX12_tells_81 : decode cX12_tells 81 = .ok (.if_icmp .ne 20, 3) := by decide +kernel
theorem dX12_tells_84 : decode cX12_tells 84 = .ok (.aload_n 0, 1) := by decide +kernel
theorem dX12_tells_85 : decode cX12_tells 85 = .ok (.getfield 92, 3) := by decide +kernel
theorem dX12_tells_88 : decode cX12_tells 88 = .ok (.sipush 200, 3) := by decide +kernel
theorem dX12_tells_91 : decode cX12_tells 91 = .ok (.if_icmp .ne 10, 3) := by decide +kernel
theorem dX12_tells_94 : decode cX12_tells 94 = .ok (.aload_n 0, 1) := by decide +kernel
theorem dX12_tells_95 : decode cX12_tells 95 = .ok (.bipush 6, 2) := by decide +kernel
theorem dX12_tells_97 : decode cX12_tells 97 = .ok (.iload_n 1, 1) := by decide +kernel
theorem dX12_tells_98 : decode cX12_tells 98 = .ok (.invokevirtual 57, 3) := by decide +kernel
theorem dX12_tells_101 : decode cX12_tells 101 = .ok (.aload_n 0, 1) := by decide +kernel
theorem dX12_tells_102 : decode cX12_tells 102 = .ok (.getfield 19, 3) := by decide +kernel
theorem dX12_tells_105 : decode cX12_tells 105 = .ok (.ifCond .le 4, 3) := by decide +kernel
theorem dX12_tells_108 : decode cX12_tells 108 = .ok (.return_, 1) := by decide +kernel
theorem dX12_tells_109 : decode cX12_tells 109 = .ok (.iload 5, 2) := by decide +kernel
theorem dX12_tells_111 : decode cX12_tells 111 = .ok (.iconst (-1), 1) := by decide +kernel
theorem dX12_tells_112 : decode cX12_tells 112 = .ok (.if_icmp .ne 73, 3) := by decide +kernel
theorem dX12_tells_115 : decode cX12_tells 115 = .ok (.aload_n 0, 1) := by decide +kernel
theorem dX12_tells_116 : decode cX12_tells 116 = .ok (.getfield 92, 3) := by decide +kernel
theorem dX12_tells_119 : decode cX12_tells 119 = .ok (.istore 5, 2) := by decide +kernel
theorem dX12_tells_121 : decode cX12_tells 121 = .ok (.aload_n 0, 1) := by decide +kernel
theorem dX12_tells_122 : decode cX12_tells 122 = .ok (.dup, 1) := by decide +kernel
theorem dX12_tells_123 : decode cX12_tells 123 = .ok (.getfield 92, 3) := by decide +kernel
theorem dX12_tells_126 : decode cX12_tells 126 = .ok (.iconst 1, 1) := by decide +kernel
theorem dX12_tells_127 : decode cX12_tells 127 = .ok (.iadd, 1) := by decide +kernel
theorem dX12_tells_128 : decode cX12_tells 128 = .ok (.putfield 92, 3) := by decide +kernel
theorem dX12_tells_131 : decode cX12_tells 131 = .ok (.aload_n 0, 1) := by decide +kernel
theorem dX12_tells_132 : decode cX12_tells 132 = .ok (.getfield 95, 3) := by decide +kernel
theorem dX12_tells_135 : decode cX12_tells 135 = .ok (.iload 5, 2) := by decide +kernel
theorem dX12_tells_137 : decode cX12_tells 137 = .ok (.iload_n 2, 1) := by decide +kernel
theorem dX12_tells_138 : decode cX12_tells 138 = .ok (.iastore, 1) := by decide +kernel
theorem dX12_tells_139 : decode cX12_tells 139 = .ok (.iconst 0, 1) := by decide +kernel
theorem dX12_tells_140 : decode cX12_tells 140 = .ok (.istore 6, 2) := by decide +kernel
theorem dX12_tells_142 : decode cX12_tells 142 = .ok (.iload 6, 2) := by decide +kernel
theorem dX12_tells_144 : decode cX12_tells 144 = .ok (.iload_n 2, 1) := by decide +kernel
theorem dX12_tells_145 : decode cX12_tells 145 = .ok (.if_icmp .ge 31, 3) := by decide +kernel
theorem dX12_tells_148 : decode cX12_tells 148 = .ok (.aload_n 0, 1) := by decide +kernel
theorem dX12_tells_149 : decode cX12_tells 149 = .ok (.getfield 98, 3) := by decide +kernel
theorem dX12_tells_152 : decode cX12_tells 152 = .ok (.bipush 7, 2) := by decide +kernel
theorem dX12_tells_154 : decode cX12_tells 154 = .ok (.iload 5, 2) := by decide +kernel
theorem dX12_tells_156 : decode cX12_tells 156 = .ok (.imul, 1) := by decide +kernel
theorem dX12_tells_157 : decode cX12_tells 157 = .ok (.iload 6, 2) := by decide +kernel
theorem dX12_tells_159 : decode cX12_tells 159 = .ok (.iadd, 1) := by decide +kernel
theorem dX12_tells_160 : decode cX12_tells 160 = .ok (.aload_n 0, 1) := by decide +kernel
theorem dX12_tells_161 : decode cX12_tells 161 = .ok (.getfield 28, 3) := by decide +kernel
theorem dX12_tells_164 : decode cX12_tells 164 = .ok (.iload_n 1, 1) := by decide +kernel
theorem dX12_tells_165 : decode cX12_tells 165 = .ok (.iload 6, 2) := by decide +kernel
theorem dX12_tells_167 : decode cX12_tells 167 = .ok (.iadd, 1) := by decide +kernel
theorem dX12_tells_168 : decode cX12_tells 168 = .ok (.iaload, 1) := by decide +kernel
theorem dX12_tells_169 : decode cX12_tells 169 = .ok (.iastore, 1) := by decide +kernel
theorem dX12_tells_170 : decode cX12_tells 170 = .ok (.iinc 6 1, 3) := by decide +kernel
theorem dX12_tells_173 : decode cX12_tells 173 = .ok (.goto (-31), 3) := by decide +kernel
theorem dX12_tells_176 : decode cX12_tells 176 = .ok (.aload_n 0, 1) := by decide +kernel
theorem dX12_tells_177 : decode cX12_tells 177 = .ok (.getfield 116, 3) := by decide +kernel
theorem dX12_tells_180 : decode cX12_tells 180 = .ok (.iload 5, 2) := by decide +kernel
theorem dX12_tells_182 : decode cX12_tells 182 = .ok (.iload 4, 2) := by decide +kernel
theorem dX12_tells_184 : decode cX12_tells 184 = .ok (.bastore, 1) := by decide +kernel
theorem dX12_tells_185 : decode cX12_tells 185 = .ok (.iload_n 3, 1) := by decide +kernel
theorem dX12_tells_186 : decode cX12_tells 186 = .ok (.iconst (-1), 1) := by decide +kernel
theorem dX12_tells_187 : decode cX12_tells 187 = .ok (.if_icmp .eq 15, 3) := by decide +kernel
theorem dX12_tells_190 : decode cX12_tells 190 = .ok (.aload_n 0, 1) := by decide +kernel
theorem dX12_tells_191 : decode cX12_tells 191 = .ok (.getfield 120, 3) := by decide +kernel
theorem dX12_tells_194 : decode cX12_tells 194 = .ok (.iload 5, 2) := by decide +kernel
theorem dX12_tells_196 : decode cX12_tells 196 = .ok (.iload_n 3, 1) := by decide +kernel
theorem dX12_tells_197 : decode cX12_tells 197 = .ok (.sipush 4095, 3) := by decide +kernel
theorem dX12_tells_200 : decode cX12_tells 200 = .ok (.iand, 1) := by decide +kernel
theorem dX12_tells_201 : decode cX12_tells 201 = .ok (.iastore, 1) := by decide +kernel
theorem dX12_tells_202 : decode cX12_tells 202 = .ok (.return_, 1) := by decide +kernel
theorem dX12_beginsV_0 : decode cX12_beginsV 0 = .ok (.aload_n 0, 1) := by decide +kernel
theorem dX12_beginsV_1 : decode cX12_beginsV 1 = .ok (.getfield 19, 3) := by decide +kernel
theorem dX12_beginsV_4 : decode cX12_beginsV 4 = .ok (.ifCond .ne 78, 3) := by decide +kernel
theorem dX12_beginsV_7 : decode cX12_beginsV 7 = .ok (.aload_n 0, 1) := by decide +kernel
theorem dX12_beginsV_8 : decode cX12_beginsV 8 = .ok (.getfield 37, 3) := by decide +kernel
theorem dX12_beginsV_11 : decode cX12_beginsV 11 = .ok (.iconst 1, 1) := by decide +kernel
theorem dX12_beginsV_12 : decode cX12_beginsV 12 = .ok (.if_icmp .ne 24, 3) := by decide +kernel
theorem dX12_beginsV_15 : decode cX12_beginsV 15 = .ok (.ldc 107, 2) := by decide +kernel
theorem dX12_beginsV_17 : decode cX12_beginsV 17 = .ok (.aload_n 0, 1) := by decide +kernel
theorem dX12_beginsV_18 : decode cX12_beginsV 18 = .ok (.getfield 28, 3) := by decide +kernel
theorem dX12_beginsV_21 : decode cX12_beginsV 21 = .ok (.aload_n 0, 1) := by decide +kernel
theorem dX12_beginsV_22 : decode cX12_beginsV 22 = .ok (.getfield 34, 3) := by decide +kernel
theorem dX12_beginsV_25 : decode cX12_beginsV 25 = .ok (.aload_n 0, 1) := by decide +kernel
theorem dX12_beginsV_26 : decode cX12_beginsV 26 = .ok (.getfield 54, 3) := by decide +kernel
theorem dX12_beginsV_29 : decode cX12_beginsV 29 = .ok (.invokestatic 103, 3) := by decide +kernel
theorem dX12_beginsV_32 : decode cX12_beginsV 32 = .ok (.iconst (-1), 1) := by decide +kernel
theorem dX12_beginsV_33 : decode cX12_beginsV 33 = .ok (.if_icmp .eq 45, 3) := by decide +kernel
theorem dX12_beginsV_36 : decode cX12_beginsV 36 = .ok (.aload_n 0, 1) := by decide +kernel
theorem dX12_beginsV_37 : decode cX12_beginsV 37 = .ok (.getfield 37, 3) := by decide +kernel
theorem dX12_beginsV_40 : decode cX12_beginsV 40 = .ok (.iconst 2, 1) := by decide +kernel
theorem dX12_beginsV_41 : decode cX12_beginsV 41 = .ok (.if_icmp .eq 37, 3) := by decide +kernel
theorem dX12_beginsV_44 : decode cX12_beginsV 44 = .ok (.aload_n 0, 1) := by decide +kernel
theorem dX12_beginsV_45 : decode cX12_beginsV 45 = .ok (.getfield 37, 3) := by decide +kernel
theorem dX12_beginsV_48 : decode cX12_beginsV 48 = .ok (.iconst 3, 1) := by decide +kernel
theorem dX12_beginsV_49 : decode cX12_beginsV 49 = .ok (.if_icmp .eq 29, 3) := by decide +kernel
theorem dX12_beginsV_52 : decode cX12_beginsV 52 = .ok (.aload_n 0, 1) := by decide +kernel
theorem dX12_beginsV_53 : decode cX12_beginsV 53 = .ok (.getfield 37, 3) := by decide +kernel
theorem dX12_beginsV_56 : decode cX12_beginsV 56 = .ok (.iconst 4, 1) := by decide +kernel
theorem dX12_beginsV_57 : decode cX12_beginsV 57 = .ok (.if_icmp .ne 25, 3) := by decide +kernel
theorem dX12_beginsV_60 : decode cX12_beginsV 60 = .ok (.aload_n 0, 1) := by decide +kernel
theorem dX12_beginsV_61 : decode cX12_beginsV 61 = .ok (.getfield 64, 3) := by decide +kernel
theorem dX12_beginsV_64 : decode cX12_beginsV 64 = .ok (.bipush 45, 2) := by decide +kernel
theorem dX12_beginsV_66 : decode cX12_beginsV 66 = .ok (.if_icmp .eq 12, 3) := by decide +kernel
theorem dX12_beginsV_69 : decode cX12_beginsV 69 = .ok (.aload_n 0, 1) := by decide +kernel
theorem dX12_beginsV_70 : decode cX12_beginsV 70 = .ok (.getfield 64, 3) := by decide +kernel
theorem dX12_beginsV_73 : decode cX12_beginsV 73 = .ok (.bipush 46, 2) := by decide +kernel
theorem dX12_beginsV_75 : decode cX12_beginsV 75 = .ok (.if_icmp .ne 7, 3) := by decide +kernel
theorem dX12_beginsV_78 : decode cX12_beginsV 78 = .ok (.iconst 1, 1) := by decide +kernel
theorem dX12_beginsV_79 : decode cX12_beginsV 79 = .ok (.goto 4, 3) := by decide +kernel
theorem dX12_beginsV_82 : decode cX12_beginsV 82 = .ok (.iconst 0, 1) := by decide +kernel
theorem dX12_beginsV_83 : decode cX12_beginsV 83 = .ok (.ireturn, 1) := by decide +kernel
theorem dX12_part_0 : decode cX12_part 0 = .ok (.aload_n 0, 1) := by decide +kernel
theorem dX12_part_1 : decode cX12_part 1 = .ok (.bipush 45, 2) := by decide +kernel
theorem dX12_part_3 : decode cX12_part 3 = .ok (.invokevirtual 123, 3) := by decide +kernel
theorem dX12_part_6 : decode cX12_part 6 = .ok (.istore_n 1, 1) := by decide +kernel
theorem dX12_part_7 : decode cX12_part 7 = .ok (.iload_n 1, 1) := by decide +kernel
theorem dX12_part_8 : decode cX12_part 8 = .ok (.ifCond .eq 7, 3) := by decide +kernel
theorem dX12_part_11 : decode cX12_part 11 = .ok (.aload_n 0, 1) := by decide +kernel
theorem dX12_part_12 : decode cX12_part 12 = .ok (.invokevirtual 126, 3) := by decide +kernel
theorem dX12_part_15 : decode cX12_part 15 = .ok (.aload_n 0, 1) := by decide +kernel
theorem dX12_part_16 : decode cX12_part 16 = .ok (.getfield 19, 3) := by decide +kernel
theorem dX12_part_19 : decode cX12_part 19 = .ok (.ifCond .le 5, 3) := by decide +kernel
theorem dX12_part_22 : decode cX12_part 22 = .ok (.iconst 0, 1) := by decide +kernel
theorem dX12_part_23 : decode cX12_part 23 = .ok (.ireturn, 1) := by decide +kernel
theorem dX12_part_24 : decode cX12_part 24 = .ok (.aload_n 0, 1) := by decide +kernel
theorem dX12_part_25 : decode cX12_part 25 = .ok (.getfield 37, 3) := by decide +kernel
theorem dX12_part_28 : decode cX12_part 28 = .ok (.iconst 1, 1) := by decide +kernel
theorem dX12_part_29 : decode cX12_part 29 = .ok (.if_icmp .ne 24, 3) := by decide +kernel
theorem dX12_part_32 : decode cX12_part 32 = .ok (.ldc 107, 2) := by decide +kernel
theorem dX12_part_34 : decode cX12_part 34 = .ok (.aload_n 0, 1) := by decide +kernel
theorem dX12_part_35 : decode cX12_part 35 = .ok (.getfield 28, 3) := by decide +kernel
theorem dX12_part_38 : decode cX12_part 38 = .ok (.aload_n 0, 1) := by decide +kernel
theorem dX12_part_39 : decode cX12_part 39 = .ok (.getfield 34, 3) := by decide +kernel
theorem dX12_part_42 : decode cX12_part 42 = .ok (.aload_n 0, 1) := by decide +kernel
theorem dX12_part_43 : decode cX12_part 43 = .ok (.getfield 54, 3) := by decide +kernel
theorem dX12_part_46 : decode cX12_part 46 = .ok (.invokestatic 103, 3) := by decide +kernel
theorem dX12_part_49 : decode cX12_part 49 = .ok (.iconst (-1), 1) := by decide +kernel
theorem dX12_part_50 : decode cX12_part 50 = .ok (.if_icmp .ne 28, 3) := by decide +kernel
theorem dX12_part_53 : decode cX12_part 53 = .ok (.aload_n 0, 1) := by decide +kernel
theorem dX12_part_54 : decode cX12_part 54 = .ok (.getfield 37, 3) := by decide +kernel
theorem dX12_part_57 : decode cX12_part 57 = .ok (.iconst 5, 1) := by decide +kernel
theorem dX12_part_58 : decode cX12_part 58 = .ok (.if_icmp .eq 20, 3) := by decide +kernel
theorem dX12_part_61 : decode cX12_part 61 = .ok (.aload_n 0, 1) := by decide +kernel
theorem dX12_part_62 : decode cX12_part 62 = .ok (.getfield 37, 3) := by decide +kernel
theorem dX12_part_65 : decode cX12_part 65 = .ok (.iconst 4, 1) := by decide +kernel
theorem dX12_part_66 : decode cX12_part 66 = .ok (.if_icmp .ne 23, 3) := by decide +kernel
theorem dX12_part_69 : decode cX12_part 69 = .ok (.aload_n 0, 1) := by decide +kernel
theorem dX12_part_70 : decode cX12_part 70 = .ok (.getfield 64, 3) := by decide +kernel
theorem dX12_part_73 : decode cX12_part 73 = .ok (.bipush 46, 2) := by decide +kernel
theorem dX12_part_75 : decode cX12_part 75 = .ok (.if_icmp .eq 14, 3) := by decide +kernel
theorem dX12_part_78 : decode cX12_part 78 = .ok (.aload_n 0, 1) := by decide +kernel
theorem dX12_part_79 : decode cX12_part 79 = .ok (.iconst 2, 1) := by decide +kernel
theorem dX12_part_80 : decode cX12_part 80 = .ok (.aload_n 0, 1) := by decide +kernel
theorem dX12_part_81 : decode cX12_part 81 = .ok (.getfield 34, 3) := by decide +kernel
theorem dX12_part_84 : decode cX12_part 84 = .ok (.invokevirtual 57, 3) := by decide +kernel
theorem dX12_part_87 : decode cX12_part 87 = .ok (.iconst 0, 1) := by decide +kernel
theorem dX12_part_88 : decode cX12_part 88 = .ok (.ireturn, 1) := by decide +kernel
theorem dX12_part_89 : decode cX12_part 89 = .ok (.aload_n 0, 1) := by decide +kernel
theorem dX12_part_90 : decode cX12_part 90 = .ok (.getfield 37, 3) := by decide +kernel
theorem dX12_part_93 : decode cX12_part 93 = .ok (.iconst 4, 1) := by decide +kernel
theorem dX12_part_94 : decode cX12_part 94 = .ok (.if_icmp .ne 10, 3) := by decide +kernel
theorem dX12_part_97 : decode cX12_part 97 = .ok (.aload_n 0, 1) := by decide +kernel
theorem dX12_part_98 : decode cX12_part 98 = .ok (.getfield 129, 3) := by decide +kernel
theorem dX12_part_101 : decode cX12_part 101 = .ok (.goto 7, 3) := by decide +kernel
theorem dX12_part_104 : decode cX12_part 104 = .ok (.aload_n 0, 1) := by decide +kernel
theorem dX12_part_105 : decode cX12_part 105 = .ok (.getfield 64, 3) := by decide +kernel
theorem dX12_part_108 : decode cX12_part 108 = .ok (.istore_n 2, 1) := by decide +kernel
theorem dX12_part_109 : decode cX12_part 109 = .ok (.aload_n 0, 1) := by decide +kernel
theorem dX12_part_110 : decode cX12_part 110 = .ok (.iconst (-1), 1) := by decide +kernel
theorem dX12_part_111 : decode cX12_part 111 = .ok (.putfield 132, 3) := by decide +kernel
theorem dX12_part_114 : decode cX12_part 114 = .ok (.aload_n 0, 1) := by decide +kernel
theorem dX12_part_115 : decode cX12_part 115 = .ok (.getfield 37, 3) := by decide +kernel
theorem dX12_part_118 : decode cX12_part 118 = .ok (.iconst 1, 1) := by decide +kernel
theorem dX12_part_119 : decode cX12_part 119 = .ok (.if_icmp .ne 8, 3) := by decide +kernel
theorem dX12_part_122 : decode cX12_part 122 = .ok (.aload_n 0, 1) := by decide +kernel
theorem dX12_part_123 : decode cX12_part 123 = .ok (.invokevirtual 135, 3) := by decide +kernel
theorem dX12_part_126 : decode cX12_part 126 = .ok (.istore_n 2, 1) := by decide +kernel
theorem dX12_part_127 : decode cX12_part 127 = .ok (.aload_n 0, 1) := by decide +kernel
theorem dX12_part_128 : decode cX12_part 128 = .ok (.invokevirtual 126, 3) := by decide +kernel
theorem dX12_part_131 : decode cX12_part 131 = .ok (.iload_n 1, 1) := by decide +kernel
theorem dX12_part_132 : decode cX12_part 132 = .ok (.ifCond .eq 8, 3) := by decide +kernel
theorem dX12_part_135 : decode cX12_part 135 = .ok (.aload_n 0, 1) := by decide +kernel
theorem dX12_part_136 : decode cX12_part 136 = .ok (.iconst (-1), 1) := by decide +kernel
theorem dX12_part_137 : decode cX12_part 137 = .ok (.putfield 132, 3) := by decide +kernel
theorem dX12_part_140 : decode cX12_part 140 = .ok (.iload_n 1, 1) := by decide +kernel
theorem dX12_part_141 : decode cX12_part 141 = .ok (.ifCond .eq 8, 3) := by decide +kernel
theorem dX12_part_144 : decode cX12_part 144 = .ok (.iload_n 2, 1) := by decide +kernel
theorem dX12_part_145 : decode cX12_part 145 = .ok (.ineg, 1) := by decide +kernel
theorem dX12_part_146 : decode cX12_part 146 = .ok (.goto 4, 3) := by decide +kernel
theorem dX12_part_149 : decode cX12_part 149 = .ok (.iload_n 2, 1) := by decide +kernel
theorem dX12_part_150 : decode cX12_part 150 = .ok (.sipush 4095, 3) := by decide +kernel
theorem dX12_part_153 : decode cX12_part 153 = .ok (.iand, 1) := by decide +kernel
theorem dX12_part_154 : decode cX12_part 154 = .ok (.ireturn, 1) := by decide +kernel
theorem dX12_named_0 : decode cX12_named 0 = .ok (.ldc 101, 2) := by decide +kernel
theorem dX12_named_2 : decode cX12_named 2 = .ok (.aload_n 0, 1) := by decide +kernel
theorem dX12_named_3 : decode cX12_named 3 = .ok (.getfield 28, 3) := by decide +kernel
theorem dX12_named_6 : decode cX12_named 6 = .ok (.aload_n 0, 1) := by decide +kernel
theorem dX12_named_7 : decode cX12_named 7 = .ok (.getfield 34, 3) := by decide +kernel
theorem dX12_named_10 : decode cX12_named 10 = .ok (.aload_n 0, 1) := by decide +kernel
theorem dX12_named_11 : decode cX12_named 11 = .ok (.getfield 54, 3) := by decide +kernel
theorem dX12_named_14 : decode cX12_named 14 = .ok (.invokestatic 103, 3) := by decide +kernel
theorem dX12_named_17 : decode cX12_named 17 = .ok (.istore_n 1, 1) := by decide +kernel
theorem dX12_named_18 : decode cX12_named 18 = .ok (.aload_n 0, 1) := by decide +kernel
theorem dX12_named_19 : decode cX12_named 19 = .ok (.iload_n 1, 1) := by decide +kernel
theorem dX12_named_20 : decode cX12_named 20 = .ok (.putfield 132, 3) := by decide +kernel
theorem dX12_named_23 : decode cX12_named 23 = .ok (.iload_n 1, 1) := by decide +kernel
theorem dX12_named_24 : decode cX12_named 24 = .ok (.iconst (-1), 1) := by decide +kernel
theorem dX12_named_25 : decode cX12_named 25 = .ok (.if_icmp .eq 9, 3) := by decide +kernel
theorem dX12_named_28 : decode cX12_named 28 = .ok (.getstatic 138, 3) := by decide +kernel
theorem dX12_named_31 : decode cX12_named 31 = .ok (.iload_n 1, 1) := by decide +kernel
theorem dX12_named_32 : decode cX12_named 32 = .ok (.iaload, 1) := by decide +kernel
theorem dX12_named_33 : decode cX12_named 33 = .ok (.ireturn, 1) := by decide +kernel
theorem dX12_named_34 : decode cX12_named 34 = .ok (.aload_n 0, 1) := by decide +kernel
theorem dX12_named_35 : decode cX12_named 35 = .ok (.aload_n 0, 1) := by decide +kernel
theorem dX12_named_36 : decode cX12_named 36 = .ok (.getfield 34, 3) := by decide +kernel
theorem dX12_named_39 : decode cX12_named 39 = .ok (.aload_n 0, 1) := by decide +kernel
theorem dX12_named_40 : decode cX12_named 40 = .ok (.getfield 54, 3) := by decide +kernel
theorem dX12_named_43 : decode cX12_named 43 = .ok (.invokevirtual 109, 3) := by decide +kernel
theorem dX12_named_46 : decode cX12_named 46 = .ok (.istore_n 2, 1) := by decide +kernel
theorem dX12_named_47 : decode cX12_named 47 = .ok (.iload_n 2, 1) := by decide +kernel
theorem dX12_named_48 : decode cX12_named 48 = .ok (.iconst (-1), 1) := by decide +kernel
theorem dX12_named_49 : decode cX12_named 49 = .ok (.if_icmp .ne 26, 3) := by decide +kernel
theorem dX12_named_52 : decode cX12_named 52 = .ok (.aload_n 0, 1) := by decide +kernel
theorem dX12_named_53 : decode cX12_named 53 = .ok (.getfield 141, 3) := by decide +kernel
theorem dX12_named_56 : decode cX12_named 56 = .ok (.ifCond .ne 10, 3) := by decide +kernel
theorem dX12_named_59 : decode cX12_named 59 = .ok (.aload_n 0, 1) := by decide +kernel
theorem dX12_named_60 : decode cX12_named 60 = .ok (.getfield 112, 3) := by decide +kernel
theorem dX12_named_63 : decode cX12_named 63 = .ok (.ifCond .eq 12, 3) := by decide +kernel
theorem dX12_named_66 : decode cX12_named 66 = .ok (.aload_n 0, 1) := by decide +kernel
theorem dX12_named_67 : decode cX12_named 67 = .ok (.iconst 3, 1) := by decide +kernel
theorem dX12_named_68 : decode cX12_named 68 = .ok (.aload_n 0, 1) := by decide +kernel
theorem dX12_named_69 : decode cX12_named 69 = .ok (.getfield 34, 3) := by decide +kernel
theorem dX12_named_72 : decode cX12_named 72 = .ok (.invokevirtual 57, 3) := by decide +kernel
theorem dX12_named_75 : decode cX12_named 75 = .ok (.iload_n 2, 1) := by decide +kernel
theorem dX12_named_76 : decode cX12_named 76 = .ok (.iconst (-1), 1) := by decide +kernel
theorem dX12_named_77 : decode cX12_named 77 = .ok (.if_icmp .ne 7, 3) := by decide +kernel
theorem dX12_named_80 : decode cX12_named 80 = .ok (.iconst 0, 1) := by decide +kernel
theorem dX12_named_81 : decode cX12_named 81 = .ok (.goto 9, 3) := by decide +kernel
theorem dX12_named_84 : decode cX12_named 84 = .ok (.aload_n 0, 1) := by decide +kernel
theorem dX12_named_85 : decode cX12_named 85 = .ok (.getfield 120, 3) := by decide +kernel
theorem dX12_named_88 : decode cX12_named 88 = .ok (.iload_n 2, 1) := by decide +kernel
theorem dX12_named_89 : decode cX12_named 89 = .ok (.iaload, 1) := by decide +kernel
theorem dX12_named_90 : decode cX12_named 90 = .ok (.ireturn, 1) := by decide +kernel
theorem dX12_all_0 : decode cX12_all 0 = .ok (.aload_n 0, 1) := by decide +kernel
theorem dX12_all_1 : decode cX12_all 1 = .ok (.invokevirtual 144, 3) := by decide +kernel
theorem dX12_all_4 : decode cX12_all 4 = .ok (.istore_n 1, 1) := by decide +kernel
theorem dX12_all_5 : decode cX12_all 5 = .ok (.aload_n 0, 1) := by decide +kernel
theorem dX12_all_6 : decode cX12_all 6 = .ok (.getfield 132, 3) := by decide +kernel
theorem dX12_all_9 : decode cX12_all 9 = .ok (.istore_n 2, 1) := by decide +kernel
theorem dX12_all_10 : decode cX12_all 10 = .ok (.aload_n 0, 1) := by decide +kernel
theorem dX12_all_11 : decode cX12_all 11 = .ok (.bipush 43, 2) := by decide +kernel
theorem dX12_all_13 : decode cX12_all 13 = .ok (.invokevirtual 123, 3) := by decide +kernel
theorem dX12_all_16 : decode cX12_all 16 = .ok (.ifCond .ne 30, 3) := by decide +kernel
theorem dX12_all_19 : decode cX12_all 19 = .ok (.aload_n 0, 1) := by decide +kernel
theorem dX12_all_20 : decode cX12_all 20 = .ok (.bipush 45, 2) := by decide +kernel
theorem dX12_all_22 : decode cX12_all 22 = .ok (.invokevirtual 123, 3) := by decide +kernel
theorem dX12_all_25 : decode cX12_all 25 = .ok (.ifCond .ne 21, 3) := by decide +kernel
theorem dX12_all_28 : decode cX12_all 28 = .ok (.aload_n 0, 1) := by decide +kernel
theorem dX12_all_29 : decode cX12_all 29 = .ok (.bipush 33, 2) := by decide +kernel
theorem dX12_all_31 : decode cX12_all 31 = .ok (.invokevirtual 123, 3) := by decide +kernel
theorem dX12_all_34 : decode cX12_all 34 = .ok (.ifCond .ne 12, 3) := by decide +kernel
theorem dX12_all_37 : decode cX12_all 37 = .ok (.aload_n 0, 1) := by decide +kernel
theorem dX12_all_38 : decode cX12_all 38 = .ok (.bipush 38, 2) := by decide +kernel
theorem dX12_all_40 : decode cX12_all 40 = .ok (.invokevirtual 123, 3) := by decide +kernel
theorem dX12_all_43 : decode cX12_all 43 = .ok (.ifCond .eq 71, 3) := by decide +kernel
theorem dX12_all_46 : decode cX12_all 46 = .ok (.aload_n 0, 1) := by decide +kernel
theorem dX12_all_47 : decode cX12_all 47 = .ok (.getfield 64, 3) := by decide +kernel
theorem dX12_all_50 : decode cX12_all 50 = .ok (.istore_n 3, 1) := by decide +kernel
theorem dX12_all_51 : decode cX12_all 51 = .ok (.aload_n 0, 1) := by decide +kernel
theorem dX12_all_52 : decode cX12_all 52 = .ok (.invokevirtual 126, 3) := by decide +kernel
theorem dX12_all_55 : decode cX12_all 55 = .ok (.aload_n 0, 1) := by decide +kernel
theorem dX12_all_56 : decode cX12_all 56 = .ok (.invokevirtual 144, 3) := by decide +kernel
theorem dX12_all_59 : decode cX12_all 59 = .ok (.istore 4, 2) := by decide +kernel
theorem dX12_all_61 : decode cX12_all 61 = .ok (.iconst (-1), 1) := by decide +kernel
theorem dX12_all_62 : decode cX12_all 62 = .ok (.istore_n 2, 1) := by decide +kernel
theorem dX12_all_63 : decode cX12_all 63 = .ok (.iload_n 3, 1) := by decide +kernel
theorem dX12_all_64 : decode cX12_all 64 = .ok (.bipush 43, 2) := by decide +kernel
theorem dX12_all_66 : decode cX12_all 66 = .ok (.if_icmp .ne 10, 3) := by decide +kernel
theorem dX12_all_69 : decode cX12_all 69 = .ok (.iload_n 1, 1) := by decide +kernel
theorem dX12_all_70 : decode cX12_all 70 = .ok (.iload 4, 2) := by decide +kernel
theorem dX12_all_72 : decode cX12_all 72 = .ok (.iadd, 1) := by decide +kernel
theorem dX12_all_73 : decode cX12_all 73 = .ok (.goto 33, 3) := by decide +kernel
theorem dX12_all_76 : decode cX12_all 76 = .ok (.iload_n 3, 1) := by decide +kernel
theorem dX12_all_77 : decode cX12_all 77 = .ok (.bipush 45, 2) := by decide +kernel
theorem dX12_all_79 : decode cX12_all 79 = .ok (.if_icmp .ne 10, 3) := by decide +kernel
theorem dX12_all_82 : decode cX12_all 82 = .ok (.iload_n 1, 1) := by decide +kernel
theorem dX12_all_83 : decode cX12_all 83 = .ok (.iload 4, 2) := by decide +kernel
theorem dX12_all_85 : decode cX12_all 85 = .ok (.isub, 1) := by decide +kernel
theorem dX12_all_86 : decode cX12_all 86 = .ok (.goto 20, 3) := by decide +kernel
theorem dX12_all_89 : decode cX12_all 89 = .ok (.iload_n 3, 1) := by decide +kernel
theorem dX12_all_90 : decode cX12_all 90 = .ok (.bipush 33, 2) := by decide +kernel
theorem dX12_all_92 : decode cX12_all 92 = .ok (.if_icmp .ne 10, 3) := by decide +kernel
theorem dX12_all_95 : decode cX12_all 95 = .ok (.iload_n 1, 1) := by decide +kernel
theorem dX12_all_96 : decode cX12_all 96 = .ok (.iload 4, 2) := by decide +kernel
theorem dX12_all_98 : decode cX12_all 98 = .ok (.ior, 1) := by decide +kernel
theorem dX12_all_99 : decode cX12_all 99 = .ok (.goto 7, 3) := by decide +kernel
theorem dX12_all_102 : decode cX12_all 102 = .ok (.iload_n 1, 1) := by decide +kernel
theorem dX12_all_103 : decode cX12_all 103 = .ok (.iload 4, 2) := by decide +kernel
theorem dX12_all_105 : decode cX12_all 105 = .ok (.iand, 1) := by decide +kernel
theorem dX12_all_106 : decode cX12_all 106 = .ok (.sipush 4095, 3) := by decide +kernel
theorem dX12_all_109 : decode cX12_all 109 = .ok (.iand, 1) := by decide +kernel
theorem dX12_all_110 : decode cX12_all 110 = .ok (.istore_n 1, 1) := by decide +kernel
theorem dX12_all_111 : decode cX12_all 111 = .ok (.goto (-101), 3) := by decide +kernel
theorem dX12_all_114 : decode cX12_all 114 = .ok (.aload_n 0, 1) := by decide +kernel
theorem dX12_all_115 : decode cX12_all 115 = .ok (.iload_n 2, 1) := by decide +kernel
theorem dX12_all_116 : decode cX12_all 116 = .ok (.putfield 132, 3) := by decide +kernel
theorem dX12_all_119 : decode cX12_all 119 = .ok (.iload_n 1, 1) := by decide +kernel
theorem dX12_all_120 : decode cX12_all 120 = .ok (.ireturn, 1) := by decide +kernel
theorem dX12_pass_0 : decode cX12_pass 0 = .ok (.aload_n 0, 1) := by decide +kernel
theorem dX12_pass_1 : decode cX12_pass 1 = .ok (.iload_n 1, 1) := by decide +kernel
theorem dX12_pass_2 : decode cX12_pass 2 = .ok (.putfield 112, 3) := by decide +kernel
theorem dX12_pass_5 : decode cX12_pass 5 = .ok (.aload_n 0, 1) := by decide +kernel
theorem dX12_pass_6 : decode cX12_pass 6 = .ok (.bipush 8, 2) := by decide +kernel
theorem dX12_pass_8 : decode cX12_pass 8 = .ok (.putfield 74, 3) := by decide +kernel
theorem dX12_pass_11 : decode cX12_pass 11 = .ok (.aload_n 0, 1) := by decide +kernel
theorem dX12_pass_12 : decode cX12_pass 12 = .ok (.sipush 128, 3) := by decide +kernel
theorem dX12_pass_15 : decode cX12_pass 15 = .ok (.putfield 129, 3) := by decide +kernel
theorem dX12_pass_18 : decode cX12_pass 18 = .ok (.aload_n 0, 1) := by decide +kernel
theorem dX12_pass_19 : decode cX12_pass 19 = .ok (.iconst 0, 1) := by decide +kernel
theorem dX12_pass_20 : decode cX12_pass 20 = .ok (.putfield 147, 3) := by decide +kernel
theorem dX12_pass_23 : decode cX12_pass 23 = .ok (.aload_n 0, 1) := by decide +kernel
theorem dX12_pass_24 : decode cX12_pass 24 = .ok (.iconst 0, 1) := by decide +kernel
theorem dX12_pass_25 : decode cX12_pass 25 = .ok (.putfield 31, 3) := by decide +kernel
theorem dX12_pass_28 : decode cX12_pass 28 = .ok (.aload_n 0, 1) := by decide +kernel
theorem dX12_pass_29 : decode cX12_pass 29 = .ok (.getfield 19, 3) := by decide +kernel
theorem dX12_pass_32 : decode cX12_pass 32 = .ok (.ifCond .ne 38, 3) := by decide +kernel
theorem dX12_pass_35 : decode cX12_pass 35 = .ok (.aload_n 0, 1) := by decide +kernel
theorem dX12_pass_36 : decode cX12_pass 36 = .ok (.getfield 147, 3) := by decide +kernel
theorem dX12_pass_39 : decode cX12_pass 39 = .ok (.ifCond .ne 31, 3) := by decide +kernel
theorem dX12_pass_42 : decode cX12_pass 42 = .ok (.aload_n 0, 1) := by decide +kernel
theorem dX12_pass_43 : decode cX12_pass 43 = .ok (.getfield 31, 3) := by decide +kernel
theorem dX12_pass_46 : decode cX12_pass 46 = .ok (.aload_n 0, 1) := by decide +kernel
theorem dX12_pass_47 : decode cX12_pass 47 = .ok (.getfield 25, 3) := by decide +kernel
theorem dX12_pass_50 : decode cX12_pass 50 = .ok (.if_icmp .gt 20, 3) := by decide +kernel
theorem dX12_pass_53 : decode cX12_pass 53 = .ok (.aload_n 0, 1) := by decide +kernel
theorem dX12_pass_54 : decode cX12_pass 54 = .ok (.invokevirtual 150, 3) := by decide +kernel
theorem dX12_pass_57 : decode cX12_pass 57 = .ok (.aload_n 0, 1) := by decide +kernel
theorem dX12_pass_58 : decode cX12_pass 58 = .ok (.dup, 1) := by decide +kernel
theorem dX12_pass_59 : decode cX12_pass 59 = .ok (.getfield 31, 3) := by decide +kernel
theorem dX12_pass_62 : decode cX12_pass 62 = .ok (.iconst 1, 1) := by decide +kernel
theorem dX12_pass_63 : decode cX12_pass 63 = .ok (.iadd, 1) := by decide +kernel
theorem dX12_pass_64 : decode cX12_pass 64 = .ok (.putfield 31, 3) := by decide +kernel
theorem dX12_pass_67 : decode cX12_pass 67 = .ok (.goto (-39), 3) := by decide +kernel
theorem dX12_pass_70 : decode cX12_pass 70 = .ok (.return_, 1) := by decide +kernel
theorem dX12_line_0 : decode cX12_line 0 = .ok (.aload_n 0, 1) := by decide +kernel
theorem dX12_line_1 : decode cX12_line 1 = .ok (.invokevirtual 77, 3) := by decide +kernel
theorem dX12_line_4 : decode cX12_line 4 = .ok (.iconst 1, 1) := by decide +kernel
theorem dX12_line_5 : decode cX12_line 5 = .ok (.istore_n 1, 1) := by decide +kernel
theorem dX12_line_6 : decode cX12_line 6 = .ok (.iload_n 1, 1) := by decide +kernel
theorem dX12_line_7 : decode cX12_line 7 = .ok (.ifCond .eq 84, 3) := by decide +kernel
theorem dX12_line_10 : decode cX12_line 10 = .ok (.aload_n 0, 1) := by decide +kernel
theorem dX12_line_11 : decode cX12_line 11 = .ok (.getfield 19, 3) := by decide +kernel
theorem dX12_line_14 : decode cX12_line 14 = .ok (.ifCond .ne 77, 3) := by decide +kernel
theorem dX12_line_17 : decode cX12_line 17 = .ok (.aload_n 0, 1) := by decide +kernel
theorem dX12_line_18 : decode cX12_line 18 = .ok (.getfield 147, 3) := by decide +kernel
theorem dX12_line_21 : decode cX12_line 21 = .ok (.ifCond .ne 70, 3) := by decide +kernel
theorem dX12_line_24 : decode cX12_line 24 = .ok (.aload_n 0, 1) := by decide +kernel
theorem dX12_line_25 : decode cX12_line 25 = .ok (.invokevirtual 153, 3) := by decide +kernel
theorem dX12_line_28 : decode cX12_line 28 = .ok (.aload_n 0, 1) := by decide +kernel
theorem dX12_line_29 : decode cX12_line 29 = .ok (.getfield 19, 3) := by decide +kernel
theorem dX12_line_32 : decode cX12_line 32 = .ok (.ifCond .ne 7, 3) := by decide +kernel
theorem dX12_line_35 : decode cX12_line 35 = .ok (.aload_n 0, 1) := by decide +kernel
theorem dX12_line_36 : decode cX12_line 36 = .ok (.invokevirtual 156, 3) := by decide +kernel
theorem dX12_line_39 : decode cX12_line 39 = .ok (.aload_n 0, 1) := by decide +kernel
theorem dX12_line_40 : decode cX12_line 40 = .ok (.bipush 59, 2) := by decide +kernel
theorem dX12_line_42 : decode cX12_line 42 = .ok (.invokevirtual 123, 3) := by decide +kernel
theorem dX12_line_45 : decode cX12_line 45 = .ok (.istore_n 1, 1) := by decide +kernel
theorem dX12_line_46 : decode cX12_line 46 = .ok (.iload_n 1, 1) := by decide +kernel
theorem dX12_line_47 : decode cX12_line 47 = .ok (.ifCond .eq 10, 3) := by decide +kernel
theorem dX12_line_50 : decode cX12_line 50 = .ok (.aload_n 0, 1) := by decide +kernel
theorem dX12_line_51 : decode cX12_line 51 = .ok (.invokevirtual 126, 3) := by decide +kernel
theorem dX12_line_54 : decode cX12_line 54 = .ok (.goto (-48), 3) := by decide +kernel
theorem dX12_line_57 : decode cX12_line 57 = .ok (.aload_n 0, 1) := by decide +kernel
theorem dX12_line_58 : decode cX12_line 58 = .ok (.getfield 19, 3) := by decide +kernel
theorem dX12_line_61 : decode cX12_line 61 = .ok (.ifCond .ne (-55), 3) := by decide +kernel
theorem dX12_line_64 : decode cX12_line 64 = .ok (.aload_n 0, 1) := by decide +kernel
theorem dX12_line_65 : decode cX12_line 65 = .ok (.getfield 147, 3) := by decide +kernel
theorem dX12_line_68 : decode cX12_line 68 = .ok (.ifCond .ne (-62), 3) := by decide +kernel
theorem dX12_line_71 : decode cX12_line 71 = .ok (.aload_n 0, 1) := by decide +kernel
theorem dX12_line_72 : decode cX12_line 72 = .ok (.getfield 37, 3) := by decide +kernel
theorem dX12_line_75 : decode cX12_line 75 = .ok (.iconst 5, 1) := by decide +kernel
theorem dX12_line_76 : decode cX12_line 76 = .ok (.if_icmp .eq (-70), 3) := by decide +kernel
theorem dX12_line_79 : decode cX12_line 79 = .ok (.aload_n 0, 1) := by decide +kernel
theorem dX12_line_80 : decode cX12_line 80 = .ok (.iconst 2, 1) := by decide +kernel
theorem dX12_line_81 : decode cX12_line 81 = .ok (.aload_n 0, 1) := by decide +kernel
theorem dX12_line_82 : decode cX12_line 82 = .ok (.getfield 34, 3) := by decide +kernel
theorem dX12_line_85 : decode cX12_line 85 = .ok (.invokevirtual 57, 3) := by decide +kernel
theorem dX12_line_88 : decode cX12_line 88 = .ok (.goto (-82), 3) := by decide +kernel
theorem dX12_line_91 : decode cX12_line 91 = .ok (.aload_n 0, 1) := by decide +kernel
theorem dX12_line_92 : decode cX12_line 92 = .ok (.getfield 19, 3) := by decide +kernel
theorem dX12_line_95 : decode cX12_line 95 = .ok (.ifCond .ne 18, 3) := by decide +kernel
theorem dX12_line_98 : decode cX12_line 98 = .ok (.aload_n 0, 1) := by decide +kernel
theorem dX12_line_99 : decode cX12_line 99 = .ok (.getfield 147, 3) := by decide +kernel
theorem dX12_line_102 : decode cX12_line 102 = .ok (.ifCond .ne 11, 3) := by decide +kernel
theorem dX12_line_105 : decode cX12_line 105 = .ok (.aload_n 0, 1) := by decide +kernel
theorem dX12_line_106 : decode cX12_line 106 = .ok (.aload_n 0, 1) := by decide +kernel
theorem dX12_line_107 : decode cX12_line 107 = .ok (.getfield 40, 3) := by decide +kernel
theorem dX12_line_110 : decode cX12_line 110 = .ok (.putfield 31, 3) := by decide +kernel
theorem dX12_line_113 : decode cX12_line 113 = .ok (.return_, 1) := by decide +kernel
theorem dX12_isNext_0 : decode cX12_isNext 0 = .ok (.aload_n 0, 1) := by decide +kernel
theorem dX12_isNext_1 : decode cX12_isNext 1 = .ok (.getfield 40, 3) := by decide +kernel
theorem dX12_isNext_4 : decode cX12_isNext 4 = .ok (.istore_n 2, 1) := by decide +kernel
theorem dX12_isNext_5 : decode cX12_isNext 5 = .ok (.iload_n 2, 1) := by decide +kernel
theorem dX12_isNext_6 : decode cX12_isNext 6 = .ok (.aload_n 0, 1) := by decide +kernel
theorem dX12_isNext_7 : decode cX12_isNext 7 = .ok (.getfield 25, 3) := by decide +kernel
theorem dX12_isNext_10 : decode cX12_isNext 10 = .ok (.if_icmp .ge 20, 3) := by decide +kernel
theorem dX12_isNext_13 : decode cX12_isNext 13 = .ok (.aload_n 0, 1) := by decide +kernel
theorem dX12_isNext_14 : decode cX12_isNext 14 = .ok (.getfield 28, 3) := by decide +kernel
theorem dX12_isNext_17 : decode cX12_isNext 17 = .ok (.iload_n 2, 1) := by decide +kernel
theorem dX12_isNext_18 : decode cX12_isNext 18 = .ok (.iaload, 1) := by decide +kernel
theorem dX12_isNext_19 : decode cX12_isNext 19 = .ok (.bipush 32, 2) := by decide +kernel
theorem dX12_isNext_21 : decode cX12_isNext 21 = .ok (.if_icmp .ne 9, 3) := by decide +kernel
theorem dX12_isNext_24 : decode cX12_isNext 24 = .ok (.iinc 2 1, 3) := by decide +kernel
theorem dX12_isNext_27 : decode cX12_isNext 27 = .ok (.goto (-22), 3) := by decide +kernel
theorem dX12_isNext_30 : decode cX12_isNext 30 = .ok (.iload_n 2, 1) := by decide +kernel
theorem dX12_isNext_31 : decode cX12_isNext 31 = .ok (.aload_n 0, 1) := by decide +kernel
theorem dX12_isNext_32 : decode cX12_isNext 32 = .ok (.getfield 25, 3) := by decide +kernel
theorem dX12_isNext_35 : decode cX12_isNext 35 = .ok (.if_icmp .ge 17, 3) := by decide +kernel
theorem dX12_isNext_38 : decode cX12_isNext 38 = .ok (.aload_n 0, 1) := by decide +kernel
theorem dX12_isNext_39 : decode cX12_isNext 39 = .ok (.getfield 28, 3) := by decide +kernel
theorem dX12_isNext_42 : decode cX12_isNext 42 = .ok (.iload_n 2, 1) := by decide +kernel
theorem dX12_isNext_43 : decode cX12_isNext 43 = .ok (.iaload, 1) := by decide +kernel
theorem dX12_isNext_44 : decode cX12_isNext 44 = .ok (.iload_n 1, 1) := by decide +kernel
theorem dX12_isNext_45 : decode cX12_isNext 45 = .ok (.if_icmp .ne 7, 3) := by decide +kernel
theorem dX12_isNext_48 : decode cX12_isNext 48 = .ok (.iconst 1, 1) := by decide +kernel
theorem dX12_isNext_49 : decode cX12_isNext 49 = .ok (.goto 4, 3) := by decide +kernel
theorem dX12_isNext_52 : decode cX12_isNext 52 = .ok (.iconst 0, 1) := by decide +kernel
theorem dX12_isNext_53 : decode cX12_isNext 53 = .ok (.ireturn, 1) := by decide +kernel
theorem dX12_labels_0 : decode cX12_labels 0 = .ok (.aload_n 0, 1) := by decide +kernel
theorem dX12_labels_1 : decode cX12_labels 1 = .ok (.getfield 19, 3) := by decide +kernel
theorem dX12_labels_4 : decode cX12_labels 4 = .ok (.ifCond .ne 59, 3) := by decide +kernel
theorem dX12_labels_7 : decode cX12_labels 7 = .ok (.aload_n 0, 1) := by decide +kernel
theorem dX12_labels_8 : decode cX12_labels 8 = .ok (.getfield 37, 3) := by decide +kernel
theorem dX12_labels_11 : decode cX12_labels 11 = .ok (.iconst 1, 1) := by decide +kernel
theorem dX12_labels_12 : decode cX12_labels 12 = .ok (.if_icmp .ne 51, 3) := by decide +kernel
theorem dX12_labels_15 : decode cX12_labels 15 = .ok (.aload_n 0, 1) := by decide +kernel
theorem dX12_labels_16 : decode cX12_labels 16 = .ok (.bipush 44, 2) := by decide +kernel
theorem dX12_labels_18 : decode cX12_labels 18 = .ok (.invokevirtual 159, 3) := by decide +kernel
theorem dX12_labels_21 : decode cX12_labels 21 = .ok (.ifCond .eq 42, 3) := by decide +kernel
theorem dX12_labels_24 : decode cX12_labels 24 = .ok (.aload_n 0, 1) := by decide +kernel
theorem dX12_labels_25 : decode cX12_labels 25 = .ok (.getfield 34, 3) := by decide +kernel
theorem dX12_labels_28 : decode cX12_labels 28 = .ok (.istore_n 1, 1) := by decide +kernel
theorem dX12_labels_29 : decode cX12_labels 29 = .ok (.aload_n 0, 1) := by decide +kernel
theorem dX12_labels_30 : decode cX12_labels 30 = .ok (.getfield 54, 3) := by decide +kernel
theorem dX12_labels_33 : decode cX12_labels 33 = .ok (.istore_n 2, 1) := by decide +kernel
theorem dX12_labels_34 : decode cX12_labels 34 = .ok (.aload_n 0, 1) := by decide +kernel
theorem dX12_labels_35 : decode cX12_labels 35 = .ok (.invokevirtual 126, 3) := by decide +kernel
theorem dX12_labels_38 : decode cX12_labels 38 = .ok (.aload_n 0, 1) := by decide +kernel
theorem dX12_labels_39 : decode cX12_labels 39 = .ok (.iload_n 1, 1) := by decide +kernel
theorem dX12_labels_40 : decode cX12_labels 40 = .ok (.iload_n 2, 1) := by decide +kernel
theorem dX12_labels_41 : decode cX12_labels 41 = .ok (.aload_n 0, 1) := by decide +kernel
theorem dX12_labels_42 : decode cX12_labels 42 = .ok (.getfield 129, 3) := by decide +kernel
theorem dX12_labels_45 : decode cX12_labels 45 = .ok (.iconst 1, 1) := by decide +kernel
theorem dX12_labels_46 : decode cX12_labels 46 = .ok (.invokevirtual 162, 3) := by decide +kernel
theorem dX12_labels_49 : decode cX12_labels 49 = .ok (.aload_n 0, 1) := by decide +kernel
theorem dX12_labels_50 : decode cX12_labels 50 = .ok (.getfield 19, 3) := by decide +kernel
theorem dX12_labels_53 : decode cX12_labels 53 = .ok (.ifCond .ne 7, 3) := by decide +kernel
theorem dX12_labels_56 : decode cX12_labels 56 = .ok (.aload_n 0, 1) := by decide +kernel
theorem dX12_labels_57 : decode cX12_labels 57 = .ok (.invokevirtual 126, 3) := by decide +kernel
theorem dX12_labels_60 : decode cX12_labels 60 = .ok (.goto (-60), 3) := by decide +kernel
theorem dX12_labels_63 : decode cX12_labels 63 = .ok (.aload_n 0, 1) := by decide +kernel
theorem dX12_labels_64 : decode cX12_labels 64 = .ok (.aload_n 0, 1) := by decide +kernel
theorem dX12_labels_65 : decode cX12_labels 65 = .ok (.getfield 34, 3) := by decide +kernel
theorem dX12_labels_68 : decode cX12_labels 68 = .ok (.putfield 166, 3) := by decide +kernel
theorem dX12_labels_71 : decode cX12_labels 71 = .ok (.return_, 1) := by decide +kernel
theorem dX12_one_0 : decode cX12_one 0 = .ok (.aload_n 0, 1) := by decide +kernel
theorem dX12_one_1 : decode cX12_one 1 = .ok (.getfield 37, 3) := by decide +kernel
theorem dX12_one_4 : decode cX12_one 4 = .ok (.iconst 5, 1) := by decide +kernel
theorem dX12_one_5 : decode cX12_one 5 = .ok (.if_icmp .eq 12, 3) := by decide +kernel
theorem dX12_one_8 : decode cX12_one 8 = .ok (.aload_n 0, 1) := by decide +kernel
theorem dX12_one_9 : decode cX12_one 9 = .ok (.bipush 59, 2) := by decide +kernel
theorem dX12_one_11 : decode cX12_one 11 = .ok (.invokevirtual 123, 3) := by decide +kernel
theorem dX12_one_14 : decode cX12_one 14 = .ok (.ifCond .eq 4, 3) := by decide +kernel
theorem dX12_one_17 : decode cX12_one 17 = .ok (.return_, 1) := by decide +kernel
theorem dX12_one_18 : decode cX12_one 18 = .ok (.aload_n 0, 1) := by decide +kernel
theorem dX12_one_19 : decode cX12_one 19 = .ok (.bipush 36, 2) := by decide +kernel
theorem dX12_one_21 : decode cX12_one 21 = .ok (.invokevirtual 123, 3) := by decide +kernel
theorem dX12_one_24 : decode cX12_one 24 = .ok (.ifCond .eq 9, 3) := by decide +kernel
theorem dX12_one_27 : decode cX12_one 27 = .ok (.aload_n 0, 1) := by decide +kernel
theorem dX12_one_28 : decode cX12_one 28 = .ok (.iconst 1, 1) := by decide +kernel
theorem dX12_one_29 : decode cX12_one 29 = .ok (.putfield 147, 3) := by decide +kernel
theorem dX12_one_32 : decode cX12_one 32 = .ok (.return_, 1) := by decide +kernel
theorem dX12_one_33 : decode cX12_one 33 = .ok (.aload_n 0, 1) := by decide +kernel
theorem dX12_one_34 : decode cX12_one 34 = .ok (.bipush 42, 2) := by decide +kernel
theorem dX12_one_36 : decode cX12_one 36 = .ok (.invokevirtual 123, 3) := by decide +kernel
theorem dX12_one_39 : decode cX12_one 39 = .ok (.ifCond .eq 16, 3) := by decide +kernel
theorem dX12_one_42 : decode cX12_one 42 = .ok (.aload_n 0, 1) := by decide +kernel
theorem dX12_one_43 : decode cX12_one 43 = .ok (.invokevirtual 126, 3) := by decide +kernel
theorem dX12_one_46 : decode cX12_one 46 = .ok (.aload_n 0, 1) := by decide +kernel
theorem dX12_one_47 : decode cX12_one 47 = .ok (.aload_n 0, 1) := by decide +kernel
theorem dX12_one_48 : decode cX12_one 48 = .ok (.invokevirtual 169, 3) := by decide +kernel
theorem dX12_one_51 : decode cX12_one 51 = .ok (.putfield 129, 3) := by decide +kernel
theorem dX12_one_54 : decode cX12_one 54 = .ok (.return_, 1) := by decide +kernel
theorem dX12_one_55 : decode cX12_one 55 = .ok (.aload_n 0, 1) := by decide +kernel
theorem dX12_one_56 : decode cX12_one 56 = .ok (.getfield 37, 3) := by decide +kernel
theorem dX12_one_59 : decode cX12_one 59 = .ok (.iconst 1, 1) := by decide +kernel
theorem dX12_one_60 : decode cX12_one 60 = .ok (.if_icmp .ne 124, 3) := by decide +kernel
theorem dX12_one_63 : decode cX12_one 63 = .ok (.aload_n 0, 1) := by decide +kernel
theorem dX12_one_64 : decode cX12_one 64 = .ok (.bipush 61, 2) := by decide +kernel
theorem dX12_one_66 : decode cX12_one 66 = .ok (.invokevirtual 159, 3) := by decide +kernel
theorem dX12_one_69 : decode cX12_one 69 = .ok (.ifCond .eq 115, 3) := by decide +kernel
theorem dX12_one_72 : decode cX12_one 72 = .ok (.aload_n 0, 1) := by decide +kernel
theorem dX12_one_73 : decode cX12_one 73 = .ok (.getfield 34, 3) := by decide +kernel
theorem dX12_one_76 : decode cX12_one 76 = .ok (.istore_n 1, 1) := by decide +kernel
theorem dX12_one_77 : decode cX12_one 77 = .ok (.aload_n 0, 1) := by decide +kernel
theorem dX12_one_78 : decode cX12_one 78 = .ok (.getfield 54, 3) := by decide +kernel
theorem dX12_one_81 : decode cX12_one 81 = .ok (.istore_n 2, 1) := by decide +kernel
theorem dX12_one_82 : decode cX12_one 82 = .ok (.aload_n 0, 1) := by decide +kernel
theorem dX12_one_83 : decode cX12_one 83 = .ok (.invokevirtual 126, 3) := by decide +kernel
theorem dX12_one_86 : decode cX12_one 86 = .ok (.aload_n 0, 1) := by decide +kernel
theorem dX12_one_87 : decode cX12_one 87 = .ok (.getfield 92, 3) := by decide +kernel
theorem dX12_one_90 : decode cX12_one 90 = .ok (.istore_n 3, 1) := by decide +kernel
theorem dX12_one_91 : decode cX12_one 91 = .ok (.aload_n 0, 1) := by decide +kernel
theorem dX12_one_92 : decode cX12_one 92 = .ok (.iload_n 1, 1) := by decide +kernel
theorem dX12_one_93 : decode cX12_one 93 = .ok (.iload_n 2, 1) := by decide +kernel
theorem dX12_one_94 : decode cX12_one 94 = .ok (.iconst (-1), 1) := by decide +kernel
theorem dX12_one_95 : decode cX12_one 95 = .ok (.iconst 0, 1) := by decide +kernel
theorem dX12_one_96 : decode cX12_one 96 = .ok (.invokevirtual 162, 3) := by decide +kernel
theorem dX12_one_99 : decode cX12_one 99 = .ok (.aload_n 0, 1) := by decide +kernel
theorem dX12_one_100 : decode cX12_one 100 = .ok (.getfield 19, 3) := by decide +kernel
theorem dX12_one_103 : decode cX12_one 103 = .ok (.ifCond .le 4, 3) := by decide +kernel
theorem dX12_one_106 : decode cX12_one 106 = .ok (.return_, 1) := by decide +kernel
theorem dX12_one_107 : decode cX12_one 107 = .ok (.aload_n 0, 1) := by decide +kernel
theorem dX12_one_108 : decode cX12_one 108 = .ok (.getfield 92, 3) := by decide +kernel
theorem dX12_one_111 : decode cX12_one 111 = .ok (.iload_n 3, 1) := by decide +kernel
theorem dX12_one_112 : decode cX12_one 112 = .ok (.if_icmp .le 7, 3) := by decide +kernel
theorem dX12_one_115 : decode cX12_one 115 = .ok (.iconst 1, 1) := by decide +kernel
theorem dX12_one_116 : decode cX12_one 116 = .ok (.goto 4, 3) := by decide +kernel
theorem dX12_one_119 : decode cX12_one 119 = .ok (.iconst 0, 1) := by decide +kernel
theorem dX12_one_120 : decode cX12_one 120 = .ok (.istore 4, 2) := by decide +kernel
theorem dX12_one_122 : decode cX12_one 122 = .ok (.iload 4, 2) := by decide +kernel
theorem dX12_one_124 : decode cX12_one 124 = .ok (.ifCond .eq 13, 3) := by decide +kernel
theorem dX12_one_127 : decode cX12_one 127 = .ok (.aload_n 0, 1) := by decide +kernel
theorem dX12_one_128 : decode cX12_one 128 = .ok (.dup, 1) := by decide +kernel
theorem dX12_one_129 : decode cX12_one 129 = .ok (.getfield 92, 3) := by decide +kernel
theorem dX12_one_132 : decode cX12_one 132 = .ok (.iconst 1, 1) := by decide +kernel
theorem dX12_one_133 : decode cX12_one 133 = .ok (.isub, 1) := by decide +kernel
theorem dX12_one_134 : decode cX12_one 134 = .ok (.putfield 92, 3) := by decide +kernel
theorem dX12_one_137 : decode cX12_one 137 = .ok (.aload_n 0, 1) := by decide +kernel
theorem dX12_one_138 : decode cX12_one 138 = .ok (.invokevirtual 126, 3) := by decide +kernel
theorem dX12_one_141 : decode cX12_one 141 = .ok (.aload_n 0, 1) := by decide +kernel
theorem dX12_one_142 : decode cX12_one 142 = .ok (.invokevirtual 169, 3) := by decide +kernel
theorem dX12_one_145 : decode cX12_one 145 = .ok (.istore 5, 2) := by decide +kernel
theorem dX12_one_147 : decode cX12_one 147 = .ok (.aload_n 0, 1) := by decide +kernel
theorem dX12_one_148 : decode cX12_one 148 = .ok (.getfield 19, 3) := by decide +kernel
theorem dX12_one_151 : decode cX12_one 151 = .ok (.ifCond .le 4, 3) := by decide +kernel
theorem dX12_one_154 : decode cX12_one 154 = .ok (.return_, 1) := by decide +kernel
theorem dX12_one_155 : decode cX12_one 155 = .ok (.iload 4, 2) := by decide +kernel
theorem dX12_one_157 : decode cX12_one 157 = .ok (.ifCond .eq 13, 3) := by decide +kernel
theorem dX12_one_160 : decode cX12_one 160 = .ok (.aload_n 0, 1) := by decide +kernel
theorem dX12_one_161 : decode cX12_one 161 = .ok (.dup, 1) := by decide +kernel
theorem dX12_one_162 : decode cX12_one 162 = .ok (.getfield 92, 3) := by decide +kernel
theorem dX12_one_165 : decode cX12_one 165 = .ok (.iconst 1, 1) := by decide +kernel
theorem dX12_one_166 : decode cX12_one 166 = .ok (.iadd, 1) := by decide +kernel
theorem dX12_one_167 : decode cX12_one 167 = .ok (.putfield 92, 3) := by decide +kernel
theorem dX12_one_170 : decode cX12_one 170 = .ok (.aload_n 0, 1) := by decide +kernel
theorem dX12_one_171 : decode cX12_one 171 = .ok (.getfield 120, 3) := by decide +kernel
theorem dX12_one_174 : decode cX12_one 174 = .ok (.aload_n 0, 1) := by decide +kernel
theorem dX12_one_175 : decode cX12_one 175 = .ok (.iload_n 1, 1) := by decide +kernel
theorem dX12_one_176 : decode cX12_one 176 = .ok (.iload_n 2, 1) := by decide +kernel
theorem dX12_one_177 : decode cX12_one 177 = .ok (.invokevirtual 109, 3) := by decide +kernel
theorem dX12_one_180 : decode cX12_one 180 = .ok (.iload 5, 2) := by decide +kernel
theorem dX12_one_182 : decode cX12_one 182 = .ok (.iastore, 1) := by decide +kernel
theorem dX12_one_183 : decode cX12_one 183 = .ok (.return_, 1) := by decide +kernel
theorem dX12_one_184 : decode cX12_one 184 = .ok (.aload_n 0, 1) := by decide +kernel
theorem dX12_one_185 : decode cX12_one 185 = .ok (.getfield 37, 3) := by decide +kernel
theorem dX12_one_188 : decode cX12_one 188 = .ok (.iconst 1, 1) := by decide +kernel
theorem dX12_one_189 : decode cX12_one 189 = .ok (.if_icmp .ne 23, 3) := by decide +kernel
theorem dX12_one_192 : decode cX12_one 192 = .ok (.ldc 107, 2) := by decide +kernel
theorem dX12_one_194 : decode cX12_one 194 = .ok (.aload_n 0, 1) := by decide +kernel
theorem dX12_one_195 : decode cX12_one 195 = .ok (.getfield 28, 3) := by decide +kernel
theorem dX12_one_198 : decode cX12_one 198 = .ok (.aload_n 0, 1) := by decide +kernel
theorem dX12_one_199 : decode cX12_one 199 = .ok (.getfield 34, 3) := by decide +kernel
theorem dX12_one_202 : decode cX12_one 202 = .ok (.aload_n 0, 1) := by decide +kernel
theorem dX12_one_203 : decode cX12_one 203 = .ok (.getfield 54, 3) := by decide +kernel
theorem dX12_one_206 : decode cX12_one 206 = .ok (.invokestatic 103, 3) := by decide +kernel
theorem dX12_one_209 : decode cX12_one 209 = .ok (.goto 4, 3) := by decide +kernel
theorem dX12_one_212 : decode cX12_one 212 = .ok (.iconst (-1), 1) := by decide +kernel
theorem dX12_one_213 : decode cX12_one 213 = .ok (.istore_n 1, 1) := by decide +kernel
theorem dX12_one_214 : decode cX12_one 214 = .ok (.iload_n 1, 1) := by decide +kernel
theorem dX12_one_215 : decode cX12_one 215 = .ok (.iconst (-1), 1) := by decide +kernel
theorem dX12_one_216 : decode cX12_one 216 = .ok (.if_icmp .eq 11, 3) := by decide +kernel
theorem dX12_one_219 : decode cX12_one 219 = .ok (.aload_n 0, 1) := by decide +kernel
theorem dX12_one_220 : decode cX12_one 220 = .ok (.iload_n 1, 1) := by decide +kernel
theorem dX12_one_221 : decode cX12_one 221 = .ok (.invokevirtual 172, 3) := by decide +kernel
theorem dX12_one_224 : decode cX12_one 224 = .ok (.goto 7, 3) := by decide +kernel
theorem dX12_one_227 : decode cX12_one 227 = .ok (.aload_n 0, 1) := by decide +kernel
theorem dX12_one_228 : decode cX12_one 228 = .ok (.invokevirtual 174, 3) := by decide +kernel
theorem dX12_one_231 : decode cX12_one 231 = .ok (.return_, 1) := by decide +kernel
theorem dX12_asked_0 : decode cX12_asked 0 = .ok (.aload_n 0, 1) := by decide +kernel
theorem dX12_asked_1 : decode cX12_asked 1 = .ok (.iconst 1, 1) := by decide +kernel
theorem dX12_asked_2 : decode cX12_asked 2 = .ok (.putfield 141, 3) := by decide +kernel
theorem dX12_asked_5 : decode cX12_asked 5 = .ok (.aload_n 0, 1) := by decide +kernel
theorem dX12_asked_6 : decode cX12_asked 6 = .ok (.getfield 19, 3) := by decide +kernel
theorem dX12_asked_9 : decode cX12_asked 9 = .ok (.ifCond .ne 10, 3) := by decide +kernel
theorem dX12_asked_12 : decode cX12_asked 12 = .ok (.aload_n 0, 1) := by decide +kernel
theorem dX12_asked_13 : decode cX12_asked 13 = .ok (.invokevirtual 177, 3) := by decide +kernel
theorem dX12_asked_16 : decode cX12_asked 16 = .ok (.goto 4, 3) := by decide +kernel
theorem dX12_asked_19 : decode cX12_asked 19 = .ok (.iconst 0, 1) := by decide +kernel
theorem dX12_asked_20 : decode cX12_asked 20 = .ok (.istore_n 1, 1) := by decide +kernel
theorem dX12_asked_21 : decode cX12_asked 21 = .ok (.aload_n 0, 1) := by decide +kernel
theorem dX12_asked_22 : decode cX12_asked 22 = .ok (.iconst 0, 1) := by decide +kernel
theorem dX12_asked_23 : decode cX12_asked 23 = .ok (.putfield 141, 3) := by decide +kernel
theorem dX12_asked_26 : decode cX12_asked 26 = .ok (.iload_n 1, 1) := by decide +kernel
theorem dX12_asked_27 : decode cX12_asked 27 = .ok (.ireturn, 1) := by decide +kernel
theorem dX12_told_0 : decode cX12_told 0 = .ok (.aload_n 0, 1) := by decide +kernel
theorem dX12_told_1 : decode cX12_told 1 = .ok (.getfield 34, 3) := by decide +kernel
theorem dX12_told_4 : decode cX12_told 4 = .ok (.istore_n 2, 1) := by decide +kernel
theorem dX12_told_5 : decode cX12_told 5 = .ok (.iload_n 1, 1) := by decide +kernel
theorem dX12_told_6 : decode cX12_told 6 = .ok (.iconst 4, 1) := by decide +kernel
theorem dX12_told_7 : decode cX12_told 7 = .ok (.if_icmp .ne 9, 3) := by decide +kernel
theorem dX12_told_10 : decode cX12_told 10 = .ok (.aload_n 0, 1) := by decide +kernel
theorem dX12_told_11 : decode cX12_told 11 = .ok (.iload_n 2, 1) := by decide +kernel
theorem dX12_told_12 : decode cX12_told 12 = .ok (.invokevirtual 180, 3) := by decide +kernel
theorem dX12_told_15 : decode cX12_told 15 = .ok (.return_, 1) := by decide +kernel
theorem dX12_told_16 : decode cX12_told 16 = .ok (.aload_n 0, 1) := by decide +kernel
theorem dX12_told_17 : decode cX12_told 17 = .ok (.invokevirtual 126, 3) := by decide +kernel
theorem dX12_told_20 : decode cX12_told 20 = .ok (.iload_n 1, 1) := by decide +kernel
theorem dX12_told_21 : decode cX12_told 21 = .ok (.iconst 1, 1) := by decide +kernel
theorem dX12_told_22 : decode cX12_told 22 = .ok (.if_icmp .eq 8, 3) := by decide +kernel
theorem dX12_told_25 : decode cX12_told 25 = .ok (.iload_n 1, 1) := by decide +kernel
theorem dX12_told_26 : decode cX12_told 26 = .ok (.iconst 2, 1) := by decide +kernel
theorem dX12_told_27 : decode cX12_told 27 = .ok (.if_icmp .ne 52, 3) := by decide +kernel
theorem dX12_told_30 : decode cX12_told 30 = .ok (.aload_n 0, 1) := by decide +kernel
theorem dX12_told_31 : decode cX12_told 31 = .ok (.iload_n 1, 1) := by decide +kernel
theorem dX12_told_32 : decode cX12_told 32 = .ok (.iconst 1, 1) := by decide +kernel
theorem dX12_told_33 : decode cX12_told 33 = .ok (.if_icmp .ne 8, 3) := by decide +kernel
theorem dX12_told_36 : decode cX12_told 36 = .ok (.bipush 10, 2) := by decide +kernel
theorem dX12_told_38 : decode cX12_told 38 = .ok (.goto 5, 3) := by decide +kernel
theorem dX12_told_41 : decode cX12_told 41 = .ok (.bipush 8, 2) := by decide +kernel
theorem dX12_told_43 : decode cX12_told 43 = .ok (.putfield 74, 3) := by decide +kernel
theorem dX12_told_46 : decode cX12_told 46 = .ok (.aload_n 0, 1) := by decide +kernel
theorem dX12_told_47 : decode cX12_told 47 = .ok (.getfield 19, 3) := by decide +kernel
theorem dX12_told_50 : decode cX12_told 50 = .ok (.ifCond .eq 22, 3) := by decide +kernel
theorem dX12_told_53 : decode cX12_told 53 = .ok (.aload_n 0, 1) := by decide +kernel
theorem dX12_told_54 : decode cX12_told 54 = .ok (.getfield 19, 3) := by decide +kernel
theorem dX12_told_57 : decode cX12_told 57 = .ok (.iconst 1, 1) := by decide +kernel
theorem dX12_told_58 : decode cX12_told 58 = .ok (.if_icmp .ne 143, 3) := by decide +kernel
theorem dX12_told_61 : decode cX12_told 61 = .ok (.aload_n 0, 1) := by decide +kernel
theorem dX12_told_62 : decode cX12_told 62 = .ok (.getfield 22, 3) := by decide +kernel
theorem dX12_told_65 : decode cX12_told 65 = .ok (.aload_n 0, 1) := by decide +kernel
theorem dX12_told_66 : decode cX12_told 66 = .ok (.getfield 34, 3) := by decide +kernel
theorem dX12_told_69 : decode cX12_told 69 = .ok (.if_icmp .ne 132, 3) := by decide +kernel
theorem dX12_told_72 : decode cX12_told 72 = .ok (.aload_n 0, 1) := by decide +kernel
theorem dX12_told_73 : decode cX12_told 73 = .ok (.invokevirtual 183, 3) := by decide +kernel
theorem dX12_told_76 : decode cX12_told 76 = .ok (.goto 125, 3) := by decide +kernel
theorem dX12_told_79 : decode cX12_told 79 = .ok (.iload_n 1, 1) := by decide +kernel
theorem dX12_told_80 : decode cX12_told 80 = .ok (.ifCond .ne 89, 3) := by decide +kernel
theorem dX12_told_83 : decode cX12_told 83 = .ok (.aload_n 0, 1) := by decide +kernel
theorem dX12_told_84 : decode cX12_told 84 = .ok (.getfield 34, 3) := by decide +kernel
theorem dX12_told_87 : decode cX12_told 87 = .ok (.istore_n 3, 1) := by decide +kernel
theorem dX12_told_88 : decode cX12_told 88 = .ok (.aload_n 0, 1) := by decide +kernel
theorem dX12_told_89 : decode cX12_told 89 = .ok (.getfield 19, 3) := by decide +kernel
theorem dX12_told_92 : decode cX12_told 92 = .ok (.ifCond .ne 30, 3) := by decide +kernel
theorem dX12_told_95 : decode cX12_told 95 = .ok (.aload_n 0, 1) := by decide +kernel
theorem dX12_told_96 : decode cX12_told 96 = .ok (.invokevirtual 186, 3) := by decide +kernel
theorem dX12_told_99 : decode cX12_told 99 = .ok (.ifCond .ne 23, 3) := by decide +kernel
theorem dX12_told_102 : decode cX12_told 102 = .ok (.aload_n 0, 1) := by decide +kernel
theorem dX12_told_103 : decode cX12_told 103 = .ok (.aload_n 0, 1) := by decide +kernel
theorem dX12_told_104 : decode cX12_told 104 = .ok (.getfield 129, 3) := by decide +kernel
theorem dX12_told_107 : decode cX12_told 107 = .ok (.bipush 127, 2) := by decide +kernel
theorem dX12_told_109 : decode cX12_told 109 = .ok (.iadd, 1) := by decide +kernel
theorem dX12_told_110 : decode cX12_told 110 = .ok (.sipush 128, 3) := by decide +kernel
theorem dX12_told_113 : decode cX12_told 113 = .ok (.idiv, 1) := by decide +kernel
theorem dX12_told_114 : decode cX12_told 114 = .ok (.sipush 128, 3) := by decide +kernel
theorem dX12_told_117 : decode cX12_told 117 = .ok (.imul, 1) := by decide +kernel
theorem dX12_told_118 : decode cX12_told 118 = .ok (.putfield 129, 3) := by decide +kernel
theorem dX12_told_121 : decode cX12_told 121 = .ok (.return_, 1) := by decide +kernel
theorem dX12_told_122 : decode cX12_told 122 = .ok (.aload_n 0, 1) := by decide +kernel
theorem dX12_told_123 : decode cX12_told 123 = .ok (.invokevirtual 169, 3) := by decide +kernel
theorem dX12_told_126 : decode cX12_told 126 = .ok (.istore 4, 2) := by decide +kernel
theorem dX12_told_128 : decode cX12_told 128 = .ok (.aload_n 0, 1) := by decide +kernel
theorem dX12_told_129 : decode cX12_told 129 = .ok (.getfield 19, 3) := by decide +kernel
theorem dX12_told_132 : decode cX12_told 132 = .ok (.ifCond .ne 17, 3) := by decide +kernel
theorem dX12_told_135 : decode cX12_told 135 = .ok (.iload 4, 2) := by decide +kernel
theorem dX12_told_137 : decode cX12_told 137 = .ok (.bipush 31, 2) := by decide +kernel
theorem dX12_told_139 : decode cX12_told 139 = .ok (.if_icmp .le 10, 3) := by decide +kernel
theorem dX12_told_142 : decode cX12_told 142 = .ok (.aload_n 0, 1) := by decide +kernel
theorem dX12_told_143 : decode cX12_told 143 = .ok (.bipush 6, 2) := by decide +kernel
theorem dX12_told_145 : decode cX12_told 145 = .ok (.iload_n 3, 1) := by decide +kernel
theorem dX12_told_146 : decode cX12_told 146 = .ok (.invokevirtual 57, 3) := by decide +kernel
theorem dX12_told_149 : decode cX12_told 149 = .ok (.aload_n 0, 1) := by decide +kernel
theorem dX12_told_150 : decode cX12_told 150 = .ok (.getfield 19, 3) := by decide +kernel
theorem dX12_told_153 : decode cX12_told 153 = .ok (.ifCond .ne 13, 3) := by decide +kernel
theorem dX12_told_156 : decode cX12_told 156 = .ok (.aload_n 0, 1) := by decide +kernel
theorem dX12_told_157 : decode cX12_told 157 = .ok (.sipush 128, 3) := by decide +kernel
theorem dX12_told_160 : decode cX12_told 160 = .ok (.iload 4, 2) := by decide +kernel
theorem dX12_told_162 : decode cX12_told 162 = .ok (.imul, 1) := by decide +kernel
theorem dX12_told_163 : decode cX12_told 163 = .ok (.putfield 129, 3) := by decide +kernel
theorem dX12_told_166 : decode cX12_told 166 = .ok (.goto 35, 3) := by decide +kernel
theorem dX12_told_169 : decode cX12_told 169 = .ok (.aload_n 0, 1) := by decide +kernel
theorem dX12_told_170 : decode cX12_told 170 = .ok (.invokevirtual 169, 3) := by decide +kernel
theorem dX12_told_173 : decode cX12_told 173 = .ok (.istore_n 3, 1) := by decide +kernel
theorem dX12_told_174 : decode cX12_told 174 = .ok (.iconst 0, 1) := by decide +kernel
theorem dX12_told_175 : decode cX12_told 175 = .ok (.istore 4, 2) := by decide +kernel
theorem dX12_told_177 : decode cX12_told 177 = .ok (.iload 4, 2) := by decide +kernel
theorem dX12_told_179 : decode cX12_told 179 = .ok (.iload_n 3, 1) := by decide +kernel
theorem dX12_told_180 : decode cX12_told 180 = .ok (.if_icmp .ge 21, 3) := by decide +kernel
theorem dX12_told_183 : decode cX12_told 183 = .ok (.aload_n 0, 1) := by decide +kernel
theorem dX12_told_184 : decode cX12_told 184 = .ok (.getfield 19, 3) := by decide +kernel
theorem dX12_told_187 : decode cX12_told 187 = .ok (.ifCond .ne 14, 3) := by decide +kernel
theorem dX12_told_190 : decode cX12_told 190 = .ok (.aload_n 0, 1) := by decide +kernel
theorem dX12_told_191 : decode cX12_told 191 = .ok (.iconst 0, 1) := by decide +kernel
theorem dX12_told_192 : decode cX12_told 192 = .ok (.invokevirtual 190, 3) := by decide +kernel
theorem dX12_told_195 : decode cX12_told 195 = .ok (.iinc 4 1, 3) := by decide +kernel
theorem dX12_told_198 : decode cX12_told 198 = .ok (.goto (-21), 3) := by decide +kernel
theorem dX12_told_201 : decode cX12_told 201 = .ok (.return_, 1) := by decide +kernel
theorem dX12_again_0 : decode cX12_again 0 = .ok (.aload_n 0, 1) := by decide +kernel
theorem dX12_again_1 : decode cX12_again 1 = .ok (.iconst 0, 1) := by decide +kernel
theorem dX12_again_2 : decode cX12_again 2 = .ok (.putfield 19, 3) := by decide +kernel
theorem dX12_again_5 : decode cX12_again 5 = .ok (.aload_n 0, 1) := by decide +kernel
theorem dX12_again_6 : decode cX12_again 6 = .ok (.invokevirtual 77, 3) := by decide +kernel
theorem dX12_again_9 : decode cX12_again 9 = .ok (.return_, 1) := by decide +kernel
theorem dX12_texts_0 : decode cX12_texts 0 = .ok (.aload_n 0, 1) := by decide +kernel
theorem dX12_texts_1 : decode cX12_texts 1 = .ok (.getfield 40, 3) := by decide +kernel
theorem dX12_texts_4 : decode cX12_texts 4 = .ok (.istore_n 2, 1) := by decide +kernel
theorem dX12_texts_5 : decode cX12_texts 5 = .ok (.iload_n 2, 1) := by decide +kernel
theorem dX12_texts_6 : decode cX12_texts 6 = .ok (.aload_n 0, 1) := by decide +kernel
theorem dX12_texts_7 : decode cX12_texts 7 = .ok (.getfield 25, 3) := by decide +kernel
theorem dX12_texts_10 : decode cX12_texts 10 = .ok (.if_icmp .ge 20, 3) := by decide +kernel
theorem dX12_texts_13 : decode cX12_texts 13 = .ok (.aload_n 0, 1) := by decide +kernel
theorem dX12_texts_14 : decode cX12_texts 14 = .ok (.getfield 28, 3) := by decide +kernel
theorem dX12_texts_17 : decode cX12_texts 17 = .ok (.iload_n 2, 1) := by decide +kernel
theorem dX12_texts_18 : decode cX12_texts 18 = .ok (.iaload, 1) := by decide +kernel
theorem dX12_texts_19 : decode cX12_texts 19 = .ok (.bipush 32, 2) := by decide +kernel
theorem dX12_texts_21 : decode cX12_texts 21 = .ok (.if_icmp .ne 9, 3) := by decide +kernel
theorem dX12_texts_24 : decode cX12_texts 24 = .ok (.iinc 2 1, 3) := by decide +kernel
theorem dX12_texts_27 : decode cX12_texts 27 = .ok (.goto (-22), 3) := by decide +kernel
theorem dX12_texts_30 : decode cX12_texts 30 = .ok (.iload_n 2, 1) := by decide +kernel
