theorem dX0_beginsValue_37 : decode cX0_beginsValue 37 = .ok (.iconst 3, 1) := by decide +kernel
theorem dX0_beginsValue_38 : decode cX0_beginsValue 38 = .ok (.if_icmp .eq 15, 3) := by decide +kernel
theorem dX0_beginsValue_41 : decode cX0_beginsValue 41 = .ok (.iload_n 2, 1) := by decide +kernel
theorem dX0_beginsValue_42 : decode cX0_beginsValue 42 = .ok (.bipush 46, 2) := by decide +kernel
theorem dX0_beginsValue_44 : decode cX0_beginsValue 44 = .ok (.if_icmp .eq 9, 3) := by decide +kernel
theorem dX0_beginsValue_47 : decode cX0_beginsValue 47 = .ok (.iload_n 2, 1) := by decide +kernel
theorem dX0_beginsValue_48 : decode cX0_beginsValue 48 = .ok (.bipush 45, 2) := by decide +kernel
theorem dX0_beginsValue_50 : decode cX0_beginsValue 50 = .ok (.if_icmp .ne 7, 3) := by decide +kernel
theorem dX0_beginsValue_53 : decode cX0_beginsValue 53 = .ok (.iconst 1, 1) := by decide +kernel
theorem dX0_beginsValue_54 : decode cX0_beginsValue 54 = .ok (.goto 4, 3) := by decide +kernel
theorem dX0_beginsValue_57 : decode cX0_beginsValue 57 = .ok (.iconst 0, 1) := by decide +kernel
theorem dX0_beginsValue_58 : decode cX0_beginsValue 58 = .ok (.ireturn, 1) := by decide +kernel
theorem dX0_beginsPart_0 : decode cX0_beginsPart 0 = .ok (.aload_n 0, 1) := by decide +kernel
theorem dX0_beginsPart_1 : decode cX0_beginsPart 1 = .ok (.iload_n 1, 1) := by decide +kernel
theorem dX0_beginsPart_2 : decode cX0_beginsPart 2 = .ok (.invokevirtual 167, 3) := by decide +kernel
theorem dX0_beginsPart_5 : decode cX0_beginsPart 5 = .ok (.ifCond .ne 14, 3) := by decide +kernel
theorem dX0_beginsPart_8 : decode cX0_beginsPart 8 = .ok (.aload_n 0, 1) := by decide +kernel
theorem dX0_beginsPart_9 : decode cX0_beginsPart 9 = .ok (.iload_n 1, 1) := by decide +kernel
theorem dX0_beginsPart_10 : decode cX0_beginsPart 10 = .ok (.invokevirtual 100, 3) := by decide +kernel
theorem dX0_beginsPart_13 : decode cX0_beginsPart 13 = .ok (.invokestatic 190, 3) := by decide +kernel
theorem dX0_beginsPart_16 : decode cX0_beginsPart 16 = .ok (.ifCond .eq 7, 3) := by decide +kernel
theorem dX0_beginsPart_19 : decode cX0_beginsPart 19 = .ok (.iconst 1, 1) := by decide +kernel
theorem dX0_beginsPart_20 : decode cX0_beginsPart 20 = .ok (.goto 4, 3) := by decide +kernel
theorem dX0_beginsPart_23 : decode cX0_beginsPart 23 = .ok (.iconst 0, 1) := by decide +kernel
theorem dX0_beginsPart_24 : decode cX0_beginsPart 24 = .ok (.ireturn, 1) := by decide +kernel
theorem dX0_readValue_0 : decode cX0_readValue 0 = .ok (.iconst 0, 1) := by decide +kernel
theorem dX0_readValue_1 : decode cX0_readValue 1 = .ok (.istore_n 2, 1) := by decide +kernel
theorem dX0_readValue_2 : decode cX0_readValue 2 = .ok (.bipush 43, 2) := by decide +kernel
theorem dX0_readValue_4 : decode cX0_readValue 4 = .ok (.istore_n 3, 1) := by decide +kernel
theorem dX0_readValue_5 : decode cX0_readValue 5 = .ok (.iconst 0, 1) := by decide +kernel
theorem dX0_readValue_6 : decode cX0_readValue 6 = .ok (.istore 4, 2) := by decide +kernel
theorem dX0_readValue_8 : decode cX0_readValue 8 = .ok (.iload 4, 2) := by decide +kernel
theorem dX0_readValue_10 : decode cX0_readValue 10 = .ok (.aload_n 0, 1) := by decide +kernel
theorem dX0_readValue_11 : decode cX0_readValue 11 = .ok (.getfield 23, 3) := by decide +kernel
theorem dX0_readValue_14 : decode cX0_readValue 14 = .ok (.getfield 70, 3) := by decide +kernel
theorem dX0_readValue_17 : decode cX0_readValue 17 = .ok (.if_icmp .gt 110, 3) := by decide +kernel
theorem dX0_readValue_20 : decode cX0_readValue 20 = .ok (.aload_n 0, 1) := by decide +kernel
theorem dX0_readValue_21 : decode cX0_readValue 21 = .ok (.getfield 37, 3) := by decide +kernel
theorem dX0_readValue_24 : decode cX0_readValue 24 = .ok (.ifCond .ne 103, 3) := by decide +kernel
theorem dX0_readValue_27 : decode cX0_readValue 27 = .ok (.aload_n 0, 1) := by decide +kernel
theorem dX0_readValue_28 : decode cX0_readValue 28 = .ok (.aload_n 0, 1) := by decide +kernel
theorem dX0_readValue_29 : decode cX0_readValue 29 = .ok (.getfield 54, 3) := by decide +kernel
theorem dX0_readValue_32 : decode cX0_readValue 32 = .ok (.invokevirtual 100, 3) := by decide +kernel
theorem dX0_readValue_35 : decode cX0_readValue 35 = .ok (.bipush 45, 2) := by decide +kernel
theorem dX0_readValue_37 : decode cX0_readValue 37 = .ok (.if_icmp .ne 7, 3) := by decide +kernel
theorem dX0_readValue_40 : decode cX0_readValue 40 = .ok (.iconst 1, 1) := by decide +kernel
theorem dX0_readValue_41 : decode cX0_readValue 41 = .ok (.goto 4, 3) := by decide +kernel
theorem dX0_readValue_44 : decode cX0_readValue 44 = .ok (.iconst 0, 1) := by decide +kernel
theorem dX0_readValue_45 : decode cX0_readValue 45 = .ok (.istore 5, 2) := by decide +kernel
theorem dX0_readValue_47 : decode cX0_readValue 47 = .ok (.iload 5, 2) := by decide +kernel
theorem dX0_readValue_49 : decode cX0_readValue 49 = .ok (.ifCond .eq 13, 3) := by decide +kernel
theorem dX0_readValue_52 : decode cX0_readValue 52 = .ok (.aload_n 0, 1) := by decide +kernel
theorem dX0_readValue_53 : decode cX0_readValue 53 = .ok (.dup, 1) := by decide +kernel
theorem dX0_readValue_54 : decode cX0_readValue 54 = .ok (.getfield 54, 3) := by decide +kernel
theorem dX0_readValue_57 : decode cX0_readValue 57 = .ok (.iconst 1, 1) := by decide +kernel
theorem dX0_readValue_58 : decode cX0_readValue 58 = .ok (.iadd, 1) := by decide +kernel
theorem dX0_readValue_59 : decode cX0_readValue 59 = .ok (.putfield 54, 3) := by decide +kernel
theorem dX0_readValue_62 : decode cX0_readValue 62 = .ok (.aload_n 0, 1) := by decide +kernel
theorem dX0_readValue_63 : decode cX0_readValue 63 = .ok (.iload_n 1, 1) := by decide +kernel
theorem dX0_readValue_64 : decode cX0_readValue 64 = .ok (.invokevirtual 193, 3) := by decide +kernel
theorem dX0_readValue_67 : decode cX0_readValue 67 = .ok (.istore 6, 2) := by decide +kernel
theorem dX0_readValue_69 : decode cX0_readValue 69 = .ok (.iload_n 2, 1) := by decide +kernel
theorem dX0_readValue_70 : decode cX0_readValue 70 = .ok (.iload_n 3, 1) := by decide +kernel
theorem dX0_readValue_71 : decode cX0_readValue 71 = .ok (.iload 5, 2) := by decide +kernel
theorem dX0_readValue_73 : decode cX0_readValue 73 = .ok (.ifCond .eq 13, 3) := by decide +kernel
theorem dX0_readValue_76 : decode cX0_readValue 76 = .ok (.iload 6, 2) := by decide +kernel
theorem dX0_readValue_78 : decode cX0_readValue 78 = .ok (.ineg, 1) := by decide +kernel
theorem dX0_readValue_79 : decode cX0_readValue 79 = .ok (.sipush 4095, 3) := by decide +kernel
theorem dX0_readValue_82 : decode cX0_readValue 82 = .ok (.iand, 1) := by decide +kernel
theorem dX0_readValue_83 : decode cX0_readValue 83 = .ok (.goto 5, 3) := by decide +kernel
theorem dX0_readValue_86 : decode cX0_readValue 86 = .ok (.iload 6, 2) := by decide +kernel
theorem dX0_readValue_88 : decode cX0_readValue 88 = .ok (.invokestatic 196, 3) := by decide +kernel
theorem dX0_readValue_91 : decode cX0_readValue 91 = .ok (.istore_n 2, 1) := by decide +kernel
theorem dX0_readValue_92 : decode cX0_readValue 92 = .ok (.aload_n 0, 1) := by decide +kernel
theorem dX0_readValue_93 : decode cX0_readValue 93 = .ok (.aload_n 0, 1) := by decide +kernel
theorem dX0_readValue_94 : decode cX0_readValue 94 = .ok (.getfield 54, 3) := by decide +kernel
theorem dX0_readValue_97 : decode cX0_readValue 97 = .ok (.invokevirtual 100, 3) := by decide +kernel
theorem dX0_readValue_100 : decode cX0_readValue 100 = .ok (.istore_n 3, 1) := by decide +kernel
theorem dX0_readValue_101 : decode cX0_readValue 101 = .ok (.iload_n 3, 1) := by decide +kernel
theorem dX0_readValue_102 : decode cX0_readValue 102 = .ok (.invokestatic 200, 3) := by decide +kernel
theorem dX0_readValue_105 : decode cX0_readValue 105 = .ok (.ifCond .ne 6, 3) := by decide +kernel
theorem dX0_readValue_108 : decode cX0_readValue 108 = .ok (.goto 19, 3) := by decide +kernel
theorem dX0_readValue_111 : decode cX0_readValue 111 = .ok (.aload_n 0, 1) := by decide +kernel
theorem dX0_readValue_112 : decode cX0_readValue 112 = .ok (.dup, 1) := by decide +kernel
theorem dX0_readValue_113 : decode cX0_readValue 113 = .ok (.getfield 54, 3) := by decide +kernel
theorem dX0_readValue_116 : decode cX0_readValue 116 = .ok (.iconst 1, 1) := by decide +kernel
theorem dX0_readValue_117 : decode cX0_readValue 117 = .ok (.iadd, 1) := by decide +kernel
theorem dX0_readValue_118 : decode cX0_readValue 118 = .ok (.putfield 54, 3) := by decide +kernel
theorem dX0_readValue_121 : decode cX0_readValue 121 = .ok (.iinc 4 1, 3) := by decide +kernel
theorem dX0_readValue_124 : decode cX0_readValue 124 = .ok (.goto (-116), 3) := by decide +kernel
theorem dX0_readValue_127 : decode cX0_readValue 127 = .ok (.iload_n 2, 1) := by decide +kernel
theorem dX0_readValue_128 : decode cX0_readValue 128 = .ok (.ireturn, 1) := by decide +kernel
theorem dX0_combine_0 : decode cX0_combine 0 = .ok (.iload_n 1, 1) := by decide +kernel
theorem dX0_combine_1 : decode cX0_combine 1 = .ok (.lookupswitch 55 #[(33, 51), (43, 35), (45, 43)], 35) := by decide +kernel
theorem dX0_combine_36 : decode cX0_combine 36 = .ok (.iload_n 0, 1) := by decide +kernel
theorem dX0_combine_37 : decode cX0_combine 37 = .ok (.iload_n 2, 1) := by decide +kernel
theorem dX0_combine_38 : decode cX0_combine 38 = .ok (.iadd, 1) := by decide +kernel
theorem dX0_combine_39 : decode cX0_combine 39 = .ok (.sipush 4095, 3) := by decide +kernel
theorem dX0_combine_42 : decode cX0_combine 42 = .ok (.iand, 1) := by decide +kernel
theorem dX0_combine_43 : decode cX0_combine 43 = .ok (.ireturn, 1) := by decide +kernel
theorem dX0_combine_44 : decode cX0_combine 44 = .ok (.iload_n 0, 1) := by decide +kernel
theorem dX0_combine_45 : decode cX0_combine 45 = .ok (.iload_n 2, 1) := by decide +kernel
theorem dX0_combine_46 : decode cX0_combine 46 = .ok (.isub, 1) := by decide +kernel
theorem dX0_combine_47 : decode cX0_combine 47 = .ok (.sipush 4095, 3) := by decide +kernel
theorem dX0_combine_50 : decode cX0_combine 50 = .ok (.iand, 1) := by decide +kernel
theorem dX0_combine_51 : decode cX0_combine 51 = .ok (.ireturn, 1) := by decide +kernel
theorem dX0_combine_52 : decode cX0_combine 52 = .ok (.iload_n 0, 1) := by decide +kernel
theorem dX0_combine_53 : decode cX0_combine 53 = .ok (.iload_n 2, 1) := by decide +kernel
theorem dX0_combine_54 : decode cX0_combine 54 = .ok (.ior, 1) := by decide +kernel
theorem dX0_combine_55 : decode cX0_combine 55 = .ok (.ireturn, 1) := by decide +kernel
theorem dX0_combine_56 : decode cX0_combine 56 = .ok (.iload_n 0, 1) := by decide +kernel
theorem dX0_combine_57 : decode cX0_combine 57 = .ok (.iload_n 2, 1) := by decide +kernel
theorem dX0_combine_58 : decode cX0_combine 58 = .ok (.iand, 1) := by decide +kernel
theorem dX0_combine_59 : decode cX0_combine 59 = .ok (.ireturn, 1) := by decide +kernel
theorem dX0_readPlain_0 : decode cX0_readPlain 0 = .ok (.aload_n 0, 1) := by decide +kernel
theorem dX0_readPlain_1 : decode cX0_readPlain 1 = .ok (.getfield 54, 3) := by decide +kernel
theorem dX0_readPlain_4 : decode cX0_readPlain 4 = .ok (.istore_n 2, 1) := by decide +kernel
theorem dX0_readPlain_5 : decode cX0_readPlain 5 = .ok (.aload_n 0, 1) := by decide +kernel
theorem dX0_readPlain_6 : decode cX0_readPlain 6 = .ok (.iload_n 2, 1) := by decide +kernel
theorem dX0_readPlain_7 : decode cX0_readPlain 7 = .ok (.invokevirtual 100, 3) := by decide +kernel
theorem dX0_readPlain_10 : decode cX0_readPlain 10 = .ok (.istore_n 3, 1) := by decide +kernel
theorem dX0_readPlain_11 : decode cX0_readPlain 11 = .ok (.aload_n 0, 1) := by decide +kernel
theorem dX0_readPlain_12 : decode cX0_readPlain 12 = .ok (.getfield 23, 3) := by decide +kernel
theorem dX0_readPlain_15 : decode cX0_readPlain 15 = .ok (.iload_n 2, 1) := by decide +kernel
theorem dX0_readPlain_16 : decode cX0_readPlain 16 = .ok (.invokevirtual 108, 3) := by decide +kernel
theorem dX0_readPlain_19 : decode cX0_readPlain 19 = .ok (.istore 4, 2) := by decide +kernel
theorem dX0_readPlain_21 : decode cX0_readPlain 21 = .ok (.iload_n 3, 1) := by decide +kernel
theorem dX0_readPlain_22 : decode cX0_readPlain 22 = .ok (.iconst 1, 1) := by decide +kernel
theorem dX0_readPlain_23 : decode cX0_readPlain 23 = .ok (.if_icmp .ne 15, 3) := by decide +kernel
theorem dX0_readPlain_26 : decode cX0_readPlain 26 = .ok (.iload 4, 2) := by decide +kernel
theorem dX0_readPlain_28 : decode cX0_readPlain 28 = .ok (.invokestatic 157, 3) := by decide +kernel
theorem dX0_readPlain_31 : decode cX0_readPlain 31 = .ok (.ifCond .ne 7, 3) := by decide +kernel
theorem dX0_readPlain_34 : decode cX0_readPlain 34 = .ok (.iconst 1, 1) := by decide +kernel
theorem dX0_readPlain_35 : decode cX0_readPlain 35 = .ok (.goto 4, 3) := by decide +kernel
theorem dX0_readPlain_38 : decode cX0_readPlain 38 = .ok (.iconst 0, 1) := by decide +kernel
theorem dX0_readPlain_39 : decode cX0_readPlain 39 = .ok (.istore 5, 2) := by decide +kernel
theorem dX0_readPlain_41 : decode cX0_readPlain 41 = .ok (.iload 5, 2) := by decide +kernel
theorem dX0_readPlain_43 : decode cX0_readPlain 43 = .ok (.ifCond .ne 37, 3) := by decide +kernel
theorem dX0_readPlain_46 : decode cX0_readPlain 46 = .ok (.iload_n 3, 1) := by decide +kernel
theorem dX0_readPlain_47 : decode cX0_readPlain 47 = .ok (.iconst 2, 1) := by decide +kernel
theorem dX0_readPlain_48 : decode cX0_readPlain 48 = .ok (.if_icmp .eq 32, 3) := by decide +kernel
theorem dX0_readPlain_51 : decode cX0_readPlain 51 = .ok (.iload_n 3, 1) := by decide +kernel
theorem dX0_readPlain_52 : decode cX0_readPlain 52 = .ok (.iconst 3, 1) := by decide +kernel
theorem dX0_readPlain_53 : decode cX0_readPlain 53 = .ok (.if_icmp .eq 27, 3) := by decide +kernel
theorem dX0_readPlain_56 : decode cX0_readPlain 56 = .ok (.iload_n 3, 1) := by decide +kernel
theorem dX0_readPlain_57 : decode cX0_readPlain 57 = .ok (.bipush 46, 2) := by decide +kernel
theorem dX0_readPlain_59 : decode cX0_readPlain 59 = .ok (.if_icmp .eq 21, 3) := by decide +kernel
theorem dX0_readPlain_62 : decode cX0_readPlain 62 = .ok (.aload_n 0, 1) := by decide +kernel
theorem dX0_readPlain_63 : decode cX0_readPlain 63 = .ok (.iload_n 3, 1) := by decide +kernel
theorem dX0_readPlain_64 : decode cX0_readPlain 64 = .ok (.bipush 6, 2) := by decide +kernel
theorem dX0_readPlain_66 : decode cX0_readPlain 66 = .ok (.if_icmp .ne 7, 3) := by decide +kernel
theorem dX0_readPlain_69 : decode cX0_readPlain 69 = .ok (.iconst 1, 1) := by decide +kernel
theorem dX0_readPlain_70 : decode cX0_readPlain 70 = .ok (.goto 4, 3) := by decide +kernel
theorem dX0_readPlain_73 : decode cX0_readPlain 73 = .ok (.iconst 2, 1) := by decide +kernel
theorem dX0_readPlain_74 : decode cX0_readPlain 74 = .ok (.iload_n 2, 1) := by decide +kernel
theorem dX0_readPlain_75 : decode cX0_readPlain 75 = .ok (.invokevirtual 87, 3) := by decide +kernel
theorem dX0_readPlain_78 : decode cX0_readPlain 78 = .ok (.iconst 0, 1) := by decide +kernel
theorem dX0_readPlain_79 : decode cX0_readPlain 79 = .ok (.ireturn, 1) := by decide +kernel
theorem dX0_readPlain_80 : decode cX0_readPlain 80 = .ok (.aload_n 0, 1) := by decide +kernel
theorem dX0_readPlain_81 : decode cX0_readPlain 81 = .ok (.dup, 1) := by decide +kernel
theorem dX0_readPlain_82 : decode cX0_readPlain 82 = .ok (.getfield 54, 3) := by decide +kernel
theorem dX0_readPlain_85 : decode cX0_readPlain 85 = .ok (.iconst 1, 1) := by decide +kernel
theorem dX0_readPlain_86 : decode cX0_readPlain 86 = .ok (.iadd, 1) := by decide +kernel
theorem dX0_readPlain_87 : decode cX0_readPlain 87 = .ok (.putfield 54, 3) := by decide +kernel
theorem dX0_readPlain_90 : decode cX0_readPlain 90 = .ok (.iload_n 3, 1) := by decide +kernel
theorem dX0_readPlain_91 : decode cX0_readPlain 91 = .ok (.bipush 46, 2) := by decide +kernel
theorem dX0_readPlain_93 : decode cX0_readPlain 93 = .ok (.if_icmp .ne 12, 3) := by decide +kernel
theorem dX0_readPlain_96 : decode cX0_readPlain 96 = .ok (.aload_n 0, 1) := by decide +kernel
theorem dX0_readPlain_97 : decode cX0_readPlain 97 = .ok (.getfield 57, 3) := by decide +kernel
theorem dX0_readPlain_100 : decode cX0_readPlain 100 = .ok (.sipush 4095, 3) := by decide +kernel
theorem dX0_readPlain_103 : decode cX0_readPlain 103 = .ok (.iand, 1) := by decide +kernel
theorem dX0_readPlain_104 : decode cX0_readPlain 104 = .ok (.ireturn, 1) := by decide +kernel
theorem dX0_readPlain_105 : decode cX0_readPlain 105 = .ok (.iload_n 3, 1) := by decide +kernel
theorem dX0_readPlain_106 : decode cX0_readPlain 106 = .ok (.iconst 2, 1) := by decide +kernel
theorem dX0_readPlain_107 : decode cX0_readPlain 107 = .ok (.if_icmp .ne 19, 3) := by decide +kernel
theorem dX0_readPlain_110 : decode cX0_readPlain 110 = .ok (.aload_n 0, 1) := by decide +kernel
theorem dX0_readPlain_111 : decode cX0_readPlain 111 = .ok (.getfield 51, 3) := by decide +kernel
theorem dX0_readPlain_114 : decode cX0_readPlain 114 = .ok (.ifCond .eq 12, 3) := by decide +kernel
theorem dX0_readPlain_117 : decode cX0_readPlain 117 = .ok (.aload_n 0, 1) := by decide +kernel
theorem dX0_readPlain_118 : decode cX0_readPlain 118 = .ok (.getfield 23, 3) := by decide +kernel
theorem dX0_readPlain_121 : decode cX0_readPlain 121 = .ok (.iload_n 2, 1) := by decide +kernel
theorem dX0_readPlain_122 : decode cX0_readPlain 122 = .ok (.invokevirtual 177, 3) := by decide +kernel
theorem dX0_readPlain_125 : decode cX0_readPlain 125 = .ok (.ireturn, 1) := by decide +kernel
theorem dX0_readPlain_126 : decode cX0_readPlain 126 = .ok (.iload 5, 2) := by decide +kernel
theorem dX0_readPlain_128 : decode cX0_readPlain 128 = .ok (.ifCond .ne 6, 3) := by decide +kernel
theorem dX0_readPlain_131 : decode cX0_readPlain 131 = .ok (.iload 4, 2) := by decide +kernel
theorem dX0_readPlain_133 : decode cX0_readPlain 133 = .ok (.ireturn, 1) := by decide +kernel
theorem dX0_readPlain_134 : decode cX0_readPlain 134 = .ok (.iload_n 1, 1) := by decide +kernel
theorem dX0_readPlain_135 : decode cX0_readPlain 135 = .ok (.ifCond .ne 10, 3) := by decide +kernel
theorem dX0_readPlain_138 : decode cX0_readPlain 138 = .ok (.aload_n 0, 1) := by decide +kernel
theorem dX0_readPlain_139 : decode cX0_readPlain 139 = .ok (.getfield 44, 3) := by decide +kernel
theorem dX0_readPlain_142 : decode cX0_readPlain 142 = .ok (.ifCond .eq 21, 3) := by decide +kernel
theorem dX0_readPlain_145 : decode cX0_readPlain 145 = .ok (.aload_n 0, 1) := by decide +kernel
theorem dX0_readPlain_146 : decode cX0_readPlain 146 = .ok (.getfield 12, 3) := by decide +kernel
theorem dX0_readPlain_149 : decode cX0_readPlain 149 = .ok (.iload 4, 2) := by decide +kernel
theorem dX0_readPlain_151 : decode cX0_readPlain 151 = .ok (.invokevirtual 115, 3) := by decide +kernel
theorem dX0_readPlain_154 : decode cX0_readPlain 154 = .ok (.ifCond .ne 9, 3) := by decide +kernel
theorem dX0_readPlain_157 : decode cX0_readPlain 157 = .ok (.aload_n 0, 1) := by decide +kernel
theorem dX0_readPlain_158 : decode cX0_readPlain 158 = .ok (.iconst 3, 1) := by decide +kernel
theorem dX0_readPlain_159 : decode cX0_readPlain 159 = .ok (.iload_n 2, 1) := by decide +kernel
theorem dX0_readPlain_160 : decode cX0_readPlain 160 = .ok (.invokevirtual 87, 3) := by decide +kernel
theorem dX0_readPlain_163 : decode cX0_readPlain 163 = .ok (.aload_n 0, 1) := by decide +kernel
theorem dX0_readPlain_164 : decode cX0_readPlain 164 = .ok (.getfield 12, 3) := by decide +kernel
theorem dX0_readPlain_167 : decode cX0_readPlain 167 = .ok (.iload 4, 2) := by decide +kernel
theorem dX0_readPlain_169 : decode cX0_readPlain 169 = .ok (.invokevirtual 203, 3) := by decide +kernel
theorem dX0_readPlain_172 : decode cX0_readPlain 172 = .ok (.ireturn, 1) := by decide +kernel
theorem dX0_readItem_0 : decode cX0_readItem 0 = .ok (.aload_n 0, 1) := by decide +kernel
theorem dX0_readItem_1 : decode cX0_readItem 1 = .ok (.getfield 54, 3) := by decide +kernel
theorem dX0_readItem_4 : decode cX0_readItem 4 = .ok (.istore_n 1, 1) := by decide +kernel
theorem dX0_readItem_5 : decode cX0_readItem 5 = .ok (.aload_n 0, 1) := by decide +kernel
theorem dX0_readItem_6 : decode cX0_readItem 6 = .ok (.iload_n 1, 1) := by decide +kernel
theorem dX0_readItem_7 : decode cX0_readItem 7 = .ok (.invokevirtual 100, 3) := by decide +kernel
theorem dX0_readItem_10 : decode cX0_readItem 10 = .ok (.istore_n 2, 1) := by decide +kernel
theorem dX0_readItem_11 : decode cX0_readItem 11 = .ok (.iload_n 2, 1) := by decide +kernel
theorem dX0_readItem_12 : decode cX0_readItem 12 = .ok (.invokestatic 190, 3) := by decide +kernel
theorem dX0_readItem_15 : decode cX0_readItem 15 = .ok (.ifCond .ne 9, 3) := by decide +kernel
theorem dX0_readItem_18 : decode cX0_readItem 18 = .ok (.aload_n 0, 1) := by decide +kernel
theorem dX0_readItem_19 : decode cX0_readItem 19 = .ok (.iconst 0, 1) := by decide +kernel
theorem dX0_readItem_20 : decode cX0_readItem 20 = .ok (.invokevirtual 163, 3) := by decide +kernel
theorem dX0_readItem_23 : decode cX0_readItem 23 = .ok (.ireturn, 1) := by decide +kernel
theorem dX0_readItem_24 : decode cX0_readItem 24 = .ok (.aload_n 0, 1) := by decide +kernel
theorem dX0_readItem_25 : decode cX0_readItem 25 = .ok (.dup, 1) := by decide +kernel
theorem dX0_readItem_26 : decode cX0_readItem 26 = .ok (.getfield 54, 3) := by decide +kernel
theorem dX0_readItem_29 : decode cX0_readItem 29 = .ok (.iconst 1, 1) := by decide +kernel
theorem dX0_readItem_30 : decode cX0_readItem 30 = .ok (.iadd, 1) := by decide +kernel
theorem dX0_readItem_31 : decode cX0_readItem 31 = .ok (.putfield 54, 3) := by decide +kernel
theorem dX0_readItem_34 : decode cX0_readItem 34 = .ok (.aload_n 0, 1) := by decide +kernel
theorem dX0_readItem_35 : decode cX0_readItem 35 = .ok (.iconst 0, 1) := by decide +kernel
theorem dX0_readItem_36 : decode cX0_readItem 36 = .ok (.invokevirtual 163, 3) := by decide +kernel
theorem dX0_readItem_39 : decode cX0_readItem 39 = .ok (.istore_n 3, 1) := by decide +kernel
theorem dX0_readItem_40 : decode cX0_readItem 40 = .ok (.aload_n 0, 1) := by decide +kernel
theorem dX0_readItem_41 : decode cX0_readItem 41 = .ok (.getfield 37, 3) := by decide +kernel
theorem dX0_readItem_44 : decode cX0_readItem 44 = .ok (.ifCond .ne 37, 3) := by decide +kernel
theorem dX0_readItem_47 : decode cX0_readItem 47 = .ok (.aload_n 0, 1) := by decide +kernel
theorem dX0_readItem_48 : decode cX0_readItem 48 = .ok (.aload_n 0, 1) := by decide +kernel
theorem dX0_readItem_49 : decode cX0_readItem 49 = .ok (.getfield 54, 3) := by decide +kernel
theorem dX0_readItem_52 : decode cX0_readItem 52 = .ok (.invokevirtual 100, 3) := by decide +kernel
theorem dX0_readItem_55 : decode cX0_readItem 55 = .ok (.iload_n 2, 1) := by decide +kernel
theorem dX0_readItem_56 : decode cX0_readItem 56 = .ok (.bipush 40, 2) := by decide +kernel
theorem dX0_readItem_58 : decode cX0_readItem 58 = .ok (.if_icmp .ne 8, 3) := by decide +kernel
theorem dX0_readItem_61 : decode cX0_readItem 61 = .ok (.bipush 41, 2) := by decide +kernel
theorem dX0_readItem_63 : decode cX0_readItem 63 = .ok (.goto 5, 3) := by decide +kernel
theorem dX0_readItem_66 : decode cX0_readItem 66 = .ok (.bipush 93, 2) := by decide +kernel
theorem dX0_readItem_68 : decode cX0_readItem 68 = .ok (.if_icmp .ne 13, 3) := by decide +kernel
theorem dX0_readItem_71 : decode cX0_readItem 71 = .ok (.aload_n 0, 1) := by decide +kernel
theorem dX0_readItem_72 : decode cX0_readItem 72 = .ok (.dup, 1) := by decide +kernel
theorem dX0_readItem_73 : decode cX0_readItem 73 = .ok (.getfield 54, 3) := by decide +kernel
theorem dX0_readItem_76 : decode cX0_readItem 76 = .ok (.iconst 1, 1) := by decide +kernel
theorem dX0_readItem_77 : decode cX0_readItem 77 = .ok (.iadd, 1) := by decide +kernel
theorem dX0_readItem_78 : decode cX0_readItem 78 = .ok (.putfield 54, 3) := by decide +kernel
theorem dX0_readItem_81 : decode cX0_readItem 81 = .ok (.aload_n 0, 1) := by decide +kernel
theorem dX0_readItem_82 : decode cX0_readItem 82 = .ok (.iload_n 2, 1) := by decide +kernel
theorem dX0_readItem_83 : decode cX0_readItem 83 = .ok (.bipush 40, 2) := by decide +kernel
theorem dX0_readItem_85 : decode cX0_readItem 85 = .ok (.if_icmp .ne 14, 3) := by decide +kernel
theorem dX0_readItem_88 : decode cX0_readItem 88 = .ok (.aload_n 0, 1) := by decide +kernel
theorem dX0_readItem_89 : decode cX0_readItem 89 = .ok (.getfield 57, 3) := by decide +kernel
theorem dX0_readItem_92 : decode cX0_readItem 92 = .ok (.sipush 3968, 3) := by decide +kernel
theorem dX0_readItem_95 : decode cX0_readItem 95 = .ok (.iand, 1) := by decide +kernel
theorem dX0_readItem_96 : decode cX0_readItem 96 = .ok (.goto 4, 3) := by decide +kernel
theorem dX0_readItem_99 : decode cX0_readItem 99 = .ok (.iconst 0, 1) := by decide +kernel
theorem dX0_readItem_100 : decode cX0_readItem 100 = .ok (.iload_n 3, 1) := by decide +kernel
theorem dX0_readItem_101 : decode cX0_readItem 101 = .ok (.iload_n 1, 1) := by decide +kernel
theorem dX0_readItem_102 : decode cX0_readItem 102 = .ok (.invokevirtual 204, 3) := by decide +kernel
theorem dX0_readItem_105 : decode cX0_readItem 105 = .ok (.ireturn, 1) := by decide +kernel
theorem dX0_literalFor_0 : decode cX0_literalFor 0 = .ok (.aload_n 0, 1) := by decide +kernel
theorem dX0_literalFor_1 : decode cX0_literalFor 1 = .ok (.getfield 37, 3) := by decide +kernel
theorem dX0_literalFor_4 : decode cX0_literalFor 4 = .ok (.ifCond .ne 10, 3) := by decide +kernel
theorem dX0_literalFor_7 : decode cX0_literalFor 7 = .ok (.aload_n 0, 1) := by decide +kernel
theorem dX0_literalFor_8 : decode cX0_literalFor 8 = .ok (.getfield 44, 3) := by decide +kernel
theorem dX0_literalFor_11 : decode cX0_literalFor 11 = .ok (.ifCond .ne 5, 3) := by decide +kernel
theorem dX0_literalFor_14 : decode cX0_literalFor 14 = .ok (.iconst 0, 1) := by decide +kernel
theorem dX0_literalFor_15 : decode cX0_literalFor 15 = .ok (.ireturn, 1) := by decide +kernel
theorem dX0_literalFor_16 : decode cX0_literalFor 16 = .ok (.aload_n 0, 1) := by decide +kernel
theorem dX0_literalFor_17 : decode cX0_literalFor 17 = .ok (.getfield 34, 3) := by decide +kernel
theorem dX0_literalFor_20 : decode cX0_literalFor 20 = .ok (.iload_n 1, 1) := by decide +kernel
theorem dX0_literalFor_21 : decode cX0_literalFor 21 = .ok (.iload_n 2, 1) := by decide +kernel
theorem dX0_literalFor_22 : decode cX0_literalFor 22 = .ok (.invokevirtual 207, 3) := by decide +kernel
theorem dX0_literalFor_25 : decode cX0_literalFor 25 = .ok (.istore 4, 2) := by decide +kernel
theorem dX0_literalFor_27 : decode cX0_literalFor 27 = .ok (.iload 4, 2) := by decide +kernel
theorem dX0_literalFor_29 : decode cX0_literalFor 29 = .ok (.iconst (-1), 1) := by decide +kernel
theorem dX0_literalFor_30 : decode cX0_literalFor 30 = .ok (.if_icmp .ne 12, 3) := by decide +kernel
theorem dX0_literalFor_33 : decode cX0_literalFor 33 = .ok (.aload_n 0, 1) := by decide +kernel
theorem dX0_literalFor_34 : decode cX0_literalFor 34 = .ok (.bipush 8, 2) := by decide +kernel
theorem dX0_literalFor_36 : decode cX0_literalFor 36 = .ok (.iload_n 3, 1) := by decide +kernel
theorem dX0_literalFor_37 : decode cX0_literalFor 37 = .ok (.invokevirtual 87, 3) := by decide +kernel
theorem dX0_literalFor_40 : decode cX0_literalFor 40 = .ok (.iconst 0, 1) := by decide +kernel
theorem dX0_literalFor_41 : decode cX0_literalFor 41 = .ok (.ireturn, 1) := by decide +kernel
theorem dX0_literalFor_42 : decode cX0_literalFor 42 = .ok (.iload 4, 2) := by decide +kernel
theorem dX0_literalFor_44 : decode cX0_literalFor 44 = .ok (.ireturn, 1) := by decide +kernel
theorem dX0_mayBeginWord_0 : decode cX0_mayBeginWord 0 = .ok (.aload_n 0, 1) := by decide +kernel
theorem dX0_mayBeginWord_1 : decode cX0_mayBeginWord 1 = .ok (.getfield 57, 3) := by decide +kernel
theorem dX0_mayBeginWord_4 : decode cX0_mayBeginWord 4 = .ok (.sipush 4096, 3) := by decide +kernel
theorem dX0_mayBeginWord_7 : decode cX0_mayBeginWord 7 = .ok (.if_icmp .lt 16, 3) := by decide +kernel
theorem dX0_mayBeginWord_10 : decode cX0_mayBeginWord 10 = .ok (.aload_n 0, 1) := by decide +kernel
theorem dX0_mayBeginWord_11 : decode cX0_mayBeginWord 11 = .ok (.bipush 6, 2) := by decide +kernel
theorem dX0_mayBeginWord_13 : decode cX0_mayBeginWord 13 = .ok (.aload_n 0, 1) := by decide +kernel
theorem dX0_mayBeginWord_14 : decode cX0_mayBeginWord 14 = .ok (.getfield 54, 3) := by decide +kernel
theorem dX0_mayBeginWord_17 : decode cX0_mayBeginWord 17 = .ok (.invokevirtual 87, 3) := by decide +kernel
theorem dX0_mayBeginWord_20 : decode cX0_mayBeginWord 20 = .ok (.goto 57, 3) := by decide +kernel
theorem dX0_mayBeginWord_23 : decode cX0_mayBeginWord 23 = .ok (.aload_n 0, 1) := by decide +kernel
theorem dX0_mayBeginWord_24 : decode cX0_mayBeginWord 24 = .ok (.getfield 44, 3) := by decide +kernel
theorem dX0_mayBeginWord_27 : decode cX0_mayBeginWord 27 = .ok (.ifCond .eq 31, 3) := by decide +kernel
theorem dX0_mayBeginWord_30 : decode cX0_mayBeginWord 30 = .ok (.aload_n 0, 1) := by decide +kernel
theorem dX0_mayBeginWord_31 : decode cX0_mayBeginWord 31 = .ok (.getfield 34, 3) := by decide +kernel
theorem dX0_mayBeginWord_34 : decode cX0_mayBeginWord 34 = .ok (.aload_n 0, 1) := by decide +kernel
theorem dX0_mayBeginWord_35 : decode cX0_mayBeginWord 35 = .ok (.getfield 57, 3) := by decide +kernel
theorem dX0_mayBeginWord_38 : decode cX0_mayBeginWord 38 = .ok (.iconst 1, 1) := by decide +kernel
theorem dX0_mayBeginWord_39 : decode cX0_mayBeginWord 39 = .ok (.invokevirtual 187, 3) := by decide +kernel
theorem dX0_mayBeginWord_42 : decode cX0_mayBeginWord 42 = .ok (.ifCond .eq 16, 3) := by decide +kernel
theorem dX0_mayBeginWord_45 : decode cX0_mayBeginWord 45 = .ok (.aload_n 0, 1) := by decide +kernel
theorem dX0_mayBeginWord_46 : decode cX0_mayBeginWord 46 = .ok (.bipush 8, 2) := by decide +kernel
theorem dX0_mayBeginWord_48 : decode cX0_mayBeginWord 48 = .ok (.aload_n 0, 1) := by decide +kernel
theorem dX0_mayBeginWord_49 : decode cX0_mayBeginWord 49 = .ok (.getfield 54, 3) := by decide +kernel
theorem dX0_mayBeginWord_52 : decode cX0_mayBeginWord 52 = .ok (.invokevirtual 87, 3) := by decide +kernel
theorem dX0_mayBeginWord_55 : decode cX0_mayBeginWord 55 = .ok (.goto 22, 3) := by decide +kernel
theorem dX0_mayBeginWord_58 : decode cX0_mayBeginWord 58 = .ok (.aload_n 0, 1) := by decide +kernel
theorem dX0_mayBeginWord_59 : decode cX0_mayBeginWord 59 = .ok (.getfield 44, 3) := by decide +kernel
theorem dX0_mayBeginWord_62 : decode cX0_mayBeginWord 62 = .ok (.ifCond .eq 15, 3) := by decide +kernel
theorem dX0_mayBeginWord_65 : decode cX0_mayBeginWord 65 = .ok (.aload_n 0, 1) := by decide +kernel
theorem dX0_mayBeginWord_66 : decode cX0_mayBeginWord 66 = .ok (.getfield 34, 3) := by decide +kernel
theorem dX0_mayBeginWord_69 : decode cX0_mayBeginWord 69 = .ok (.aload_n 0, 1) := by decide +kernel
theorem dX0_mayBeginWord_70 : decode cX0_mayBeginWord 70 = .ok (.getfield 57, 3) := by decide +kernel
theorem dX0_mayBeginWord_73 : decode cX0_mayBeginWord 73 = .ok (.iconst 0, 1) := by decide +kernel
theorem dX0_mayBeginWord_74 : decode cX0_mayBeginWord 74 = .ok (.invokevirtual 174, 3) := by decide +kernel
theorem dX0_mayBeginWord_77 : decode cX0_mayBeginWord 77 = .ok (.aload_n 0, 1) := by decide +kernel
theorem dX0_mayBeginWord_78 : decode cX0_mayBeginWord 78 = .ok (.getfield 37, 3) := by decide +kernel
theorem dX0_mayBeginWord_81 : decode cX0_mayBeginWord 81 = .ok (.ifCond .ne 7, 3) := by decide +kernel
theorem dX0_mayBeginWord_84 : decode cX0_mayBeginWord 84 = .ok (.iconst 1, 1) := by decide +kernel
theorem dX0_mayBeginWord_85 : decode cX0_mayBeginWord 85 = .ok (.goto 4, 3) := by decide +kernel
theorem dX0_mayBeginWord_88 : decode cX0_mayBeginWord 88 = .ok (.iconst 0, 1) := by decide +kernel
theorem dX0_mayBeginWord_89 : decode cX0_mayBeginWord 89 = .ok (.ireturn, 1) := by decide +kernel
theorem dX0_finishWord_0 : decode cX0_finishWord 0 = .ok (.aload_n 0, 1) := by decide +kernel
theorem dX0_finishWord_1 : decode cX0_finishWord 1 = .ok (.getfield 37, 3) := by decide +kernel
theorem dX0_finishWord_4 : decode cX0_finishWord 4 = .ok (.ifCond .ne 22, 3) := by decide +kernel
theorem dX0_finishWord_7 : decode cX0_finishWord 7 = .ok (.aload_n 0, 1) := by decide +kernel
theorem dX0_finishWord_8 : decode cX0_finishWord 8 = .ok (.getfield 44, 3) := by decide +kernel
theorem dX0_finishWord_11 : decode cX0_finishWord 11 = .ok (.ifCond .eq 15, 3) := by decide +kernel
theorem dX0_finishWord_14 : decode cX0_finishWord 14 = .ok (.aload_n 0, 1) := by decide +kernel
theorem dX0_finishWord_15 : decode cX0_finishWord 15 = .ok (.getfield 34, 3) := by decide +kernel
theorem dX0_finishWord_18 : decode cX0_finishWord 18 = .ok (.aload_n 0, 1) := by decide +kernel
theorem dX0_finishWord_19 : decode cX0_finishWord 19 = .ok (.getfield 57, 3) := by decide +kernel
theorem dX0_finishWord_22 : decode cX0_finishWord 22 = .ok (.iload_n 1, 1) := by decide +kernel
theorem dX0_finishWord_23 : decode cX0_finishWord 23 = .ok (.invokevirtual 174, 3) := by decide +kernel
theorem dX0_finishWord_26 : decode cX0_finishWord 26 = .ok (.aload_n 0, 1) := by decide +kernel
theorem dX0_finishWord_27 : decode cX0_finishWord 27 = .ok (.dup, 1) := by decide +kernel
theorem dX0_finishWord_28 : decode cX0_finishWord 28 = .ok (.getfield 57, 3) := by decide +kernel
theorem dX0_finishWord_31 : decode cX0_finishWord 31 = .ok (.iconst 1, 1) := by decide +kernel
theorem dX0_finishWord_32 : decode cX0_finishWord 32 = .ok (.iadd, 1) := by decide +kernel
theorem dX0_finishWord_33 : decode cX0_finishWord 33 = .ok (.putfield 57, 3) := by decide +kernel
theorem dX0_finishWord_36 : decode cX0_finishWord 36 = .ok (.return_, 1) := by decide +kernel
theorem dX0_passWord_0 : decode cX0_passWord 0 = .ok (.aload_n 0, 1) := by decide +kernel
theorem dX0_passWord_1 : decode cX0_passWord 1 = .ok (.aload_n 0, 1) := by decide +kernel
theorem dX0_passWord_2 : decode cX0_passWord 2 = .ok (.getfield 54, 3) := by decide +kernel
theorem dX0_passWord_5 : decode cX0_passWord 5 = .ok (.invokevirtual 160, 3) := by decide +kernel
theorem dX0_passWord_8 : decode cX0_passWord 8 = .ok (.ifCond .ne 16, 3) := by decide +kernel
theorem dX0_passWord_11 : decode cX0_passWord 11 = .ok (.aload_n 0, 1) := by decide +kernel
theorem dX0_passWord_12 : decode cX0_passWord 12 = .ok (.aload_n 0, 1) := by decide +kernel
theorem dX0_passWord_13 : decode cX0_passWord 13 = .ok (.aload_n 0, 1) := by decide +kernel
theorem dX0_passWord_14 : decode cX0_passWord 14 = .ok (.getfield 54, 3) := by decide +kernel
theorem dX0_passWord_17 : decode cX0_passWord 17 = .ok (.invokevirtual 100, 3) := by decide +kernel
theorem dX0_passWord_20 : decode cX0_passWord 20 = .ok (.invokevirtual 124, 3) := by decide +kernel
theorem dX0_passWord_23 : decode cX0_passWord 23 = .ok (.return_, 1) := by decide +kernel
theorem dX0_passWord_24 : decode cX0_passWord 24 = .ok (.aload_n 0, 1) := by decide +kernel
theorem dX0_passWord_25 : decode cX0_passWord 25 = .ok (.invokevirtual 210, 3) := by decide +kernel
theorem dX0_passWord_28 : decode cX0_passWord 28 = .ok (.ifCond .ne 4, 3) := by decide +kernel
theorem dX0_passWord_31 : decode cX0_passWord 31 = .ok (.return_, 1) := by decide +kernel
theorem dX0_passWord_32 : decode cX0_passWord 32 = .ok (.iconst 0, 1) := by decide +kernel
theorem dX0_passWord_33 : decode cX0_passWord 33 = .ok (.istore_n 1, 1) := by decide +kernel
theorem dX0_passWord_34 : decode cX0_passWord 34 = .ok (.iconst 1, 1) := by decide +kernel
theorem dX0_passWord_35 : decode cX0_passWord 35 = .ok (.istore_n 2, 1) := by decide +kernel
theorem dX0_passWord_36 : decode cX0_passWord 36 = .ok (.iconst 0, 1) := by decide +kernel
theorem dX0_passWord_37 : decode cX0_passWord 37 = .ok (.istore_n 3, 1) := by decide +kernel
theorem dX0_passWord_38 : decode cX0_passWord 38 = .ok (.iload_n 3, 1) := by decide +kernel
theorem dX0_passWord_39 : decode cX0_passWord 39 = .ok (.aload_n 0, 1) := by decide +kernel
theorem dX0_passWord_40 : decode cX0_passWord 40 = .ok (.getfield 23, 3) := by decide +kernel
theorem dX0_passWord_43 : decode cX0_passWord 43 = .ok (.getfield 70, 3) := by decide +kernel
theorem dX0_passWord_46 : decode cX0_passWord 46 = .ok (.if_icmp .gt 62, 3) := by decide +kernel
theorem dX0_passWord_49 : decode cX0_passWord 49 = .ok (.aload_n 0, 1) := by decide +kernel
theorem dX0_passWord_50 : decode cX0_passWord 50 = .ok (.getfield 37, 3) := by decide +kernel
theorem dX0_passWord_53 : decode cX0_passWord 53 = .ok (.ifCond .ne 55, 3) := by decide +kernel
theorem dX0_passWord_56 : decode cX0_passWord 56 = .ok (.iload_n 2, 1) := by decide +kernel
theorem dX0_passWord_57 : decode cX0_passWord 57 = .ok (.ifCond .eq 51, 3) := by decide +kernel
theorem dX0_passWord_60 : decode cX0_passWord 60 = .ok (.aload_n 0, 1) := by decide +kernel
theorem dX0_passWord_61 : decode cX0_passWord 61 = .ok (.aload_n 0, 1) := by decide +kernel
theorem dX0_passWord_62 : decode cX0_passWord 62 = .ok (.getfield 54, 3) := by decide +kernel
theorem dX0_passWord_65 : decode cX0_passWord 65 = .ok (.invokevirtual 100, 3) := by decide +kernel
theorem dX0_passWord_68 : decode cX0_passWord 68 = .ok (.invokestatic 190, 3) := by decide +kernel
theorem dX0_passWord_71 : decode cX0_passWord 71 = .ok (.istore 4, 2) := by decide +kernel
theorem dX0_passWord_73 : decode cX0_passWord 73 = .ok (.iload_n 1, 1) := by decide +kernel
theorem dX0_passWord_74 : decode cX0_passWord 74 = .ok (.aload_n 0, 1) := by decide +kernel
theorem dX0_passWord_75 : decode cX0_passWord 75 = .ok (.invokevirtual 214, 3) := by decide +kernel
theorem dX0_passWord_78 : decode cX0_passWord 78 = .ok (.ior, 1) := by decide +kernel
theorem dX0_passWord_79 : decode cX0_passWord 79 = .ok (.istore_n 1, 1) := by decide +kernel
theorem dX0_passWord_80 : decode cX0_passWord 80 = .ok (.iload 4, 2) := by decide +kernel
theorem dX0_passWord_82 : decode cX0_passWord 82 = .ok (.ifCond .ne 18, 3) := by decide +kernel
theorem dX0_passWord_85 : decode cX0_passWord 85 = .ok (.aload_n 0, 1) := by decide +kernel
theorem dX0_passWord_86 : decode cX0_passWord 86 = .ok (.aload_n 0, 1) := by decide +kernel
theorem dX0_passWord_87 : decode cX0_passWord 87 = .ok (.getfield 54, 3) := by decide +kernel
theorem dX0_passWord_90 : decode cX0_passWord 90 = .ok (.invokevirtual 160, 3) := by decide +kernel
theorem dX0_passWord_93 : decode cX0_passWord 93 = .ok (.ifCond .eq 7, 3) := by decide +kernel
theorem dX0_passWord_96 : decode cX0_passWord 96 = .ok (.iconst 1, 1) := by decide +kernel
theorem dX0_passWord_97 : decode cX0_passWord 97 = .ok (.goto 4, 3) := by decide +kernel
theorem dX0_passWord_100 : decode cX0_passWord 100 = .ok (.iconst 0, 1) := by decide +kernel
theorem dX0_passWord_101 : decode cX0_passWord 101 = .ok (.istore_n 2, 1) := by decide +kernel
theorem dX0_passWord_102 : decode cX0_passWord 102 = .ok (.iinc 3 1, 3) := by decide +kernel
theorem dX0_passWord_105 : decode cX0_passWord 105 = .ok (.goto (-67), 3) := by decide +kernel
theorem dX0_passWord_108 : decode cX0_passWord 108 = .ok (.aload_n 0, 1) := by decide +kernel
theorem dX0_passWord_109 : decode cX0_passWord 109 = .ok (.iload_n 1, 1) := by decide +kernel
theorem dX0_passWord_110 : decode cX0_passWord 110 = .ok (.invokevirtual 217, 3) := by decide +kernel
theorem dX0_passWord_113 : decode cX0_passWord 113 = .ok (.return_, 1) := by decide +kernel
theorem dX0_passReference_0 : decode cX0_passReference 0 = .ok (.aload_n 0, 1) := by decide +kernel
theorem dX0_passReference_1 : decode cX0_passReference 1 = .ok (.invokevirtual 210, 3) := by decide +kernel
theorem dX0_passReference_4 : decode cX0_passReference 4 = .ok (.ifCond .ne 4, 3) := by decide +kernel
theorem dX0_passReference_7 : decode cX0_passReference 7 = .ok (.return_, 1) := by decide +kernel
theorem dX0_passReference_8 : decode cX0_passReference 8 = .ok (.aload_n 0, 1) := by decide +kernel
theorem dX0_passReference_9 : decode cX0_passReference 9 = .ok (.getfield 12, 3) := by decide +kernel
theorem dX0_passReference_12 : decode cX0_passReference 12 = .ok (.aload_n 0, 1) := by decide +kernel
theorem dX0_passReference_13 : decode cX0_passReference 13 = .ok (.getfield 23, 3) := by decide +kernel
theorem dX0_passReference_16 : decode cX0_passReference 16 = .ok (.aload_n 0, 1) := by decide +kernel
theorem dX0_passReference_17 : decode cX0_passReference 17 = .ok (.getfield 54, 3) := by decide +kernel
theorem dX0_passReference_20 : decode cX0_passReference 20 = .ok (.invokevirtual 108, 3) := by decide +kernel
theorem dX0_passReference_23 : decode cX0_passReference 23 = .ok (.invokevirtual 203, 3) := by decide +kernel
theorem dX0_passReference_26 : decode cX0_passReference 26 = .ok (.istore_n 1, 1) := by decide +kernel
theorem dX0_passReference_27 : decode cX0_passReference 27 = .ok (.aload_n 0, 1) := by decide +kernel
theorem dX0_passReference_28 : decode cX0_passReference 28 = .ok (.dup, 1) := by decide +kernel
theorem dX0_passReference_29 : decode cX0_passReference 29 = .ok (.getfield 54, 3) := by decide +kernel
theorem dX0_passReference_32 : decode cX0_passReference 32 = .ok (.iconst 1, 1) := by decide +kernel
theorem dX0_passReference_33 : decode cX0_passReference 33 = .ok (.iadd, 1) := by decide +kernel
theorem dX0_passReference_34 : decode cX0_passReference 34 = .ok (.putfield 54, 3) := by decide +kernel
theorem dX0_passReference_37 : decode cX0_passReference 37 = .ok (.iconst 0, 1) := by decide +kernel
theorem dX0_passReference_38 : decode cX0_passReference 38 = .ok (.istore_n 2, 1) := by decide +kernel
theorem dX0_passReference_39 : decode cX0_passReference 39 = .ok (.iload_n 2, 1) := by decide +kernel
theorem dX0_passReference_40 : decode cX0_passReference 40 = .ok (.aload_n 0, 1) := by decide +kernel
theorem dX0_passReference_41 : decode cX0_passReference 41 = .ok (.getfield 23, 3) := by decide +kernel
theorem dX0_passReference_44 : decode cX0_passReference 44 = .ok (.getfield 70, 3) := by decide +kernel
theorem dX0_passReference_47 : decode cX0_passReference 47 = .ok (.if_icmp .gt 51, 3) := by decide +kernel
theorem dX0_passReference_50 : decode cX0_passReference 50 = .ok (.aload_n 0, 1) := by decide +kernel
theorem dX0_passReference_51 : decode cX0_passReference 51 = .ok (.aload_n 0, 1) := by decide +kernel
theorem dX0_passReference_52 : decode cX0_passReference 52 = .ok (.getfield 54, 3) := by decide +kernel
theorem dX0_passReference_55 : decode cX0_passReference 55 = .ok (.invokevirtual 220, 3) := by decide +kernel
theorem dX0_passReference_58 : decode cX0_passReference 58 = .ok (.ifCond .eq 40, 3) := by decide +kernel
theorem dX0_passReference_61 : decode cX0_passReference 61 = .ok (.iload_n 1, 1) := by decide +kernel
theorem dX0_passReference_62 : decode cX0_passReference 62 = .ok (.aload_n 0, 1) := by decide +kernel
theorem dX0_passReference_63 : decode cX0_passReference 63 = .ok (.getfield 12, 3) := by decide +kernel
theorem dX0_passReference_66 : decode cX0_passReference 66 = .ok (.aload_n 0, 1) := by decide +kernel
theorem dX0_passReference_67 : decode cX0_passReference 67 = .ok (.getfield 23, 3) := by decide +kernel
theorem dX0_passReference_70 : decode cX0_passReference 70 = .ok (.aload_n 0, 1) := by decide +kernel
theorem dX0_passReference_71 : decode cX0_passReference 71 = .ok (.getfield 54, 3) := by decide +kernel
theorem dX0_passReference_74 : decode cX0_passReference 74 = .ok (.invokevirtual 108, 3) := by decide +kernel
theorem dX0_passReference_77 : decode cX0_passReference 77 = .ok (.invokevirtual 203, 3) := by decide +kernel
theorem dX0_passReference_80 : decode cX0_passReference 80 = .ok (.ior, 1) := by decide +kernel
theorem dX0_passReference_81 : decode cX0_passReference 81 = .ok (.istore_n 1, 1) := by decide +kernel
theorem dX0_passReference_82 : decode cX0_passReference 82 = .ok (.aload_n 0, 1) := by decide +kernel
theorem dX0_passReference_83 : decode cX0_passReference 83 = .ok (.dup, 1) := by decide +kernel
theorem dX0_passReference_84 : decode cX0_passReference 84 = .ok (.getfield 54, 3) := by decide +kernel
theorem dX0_passReference_87 : decode cX0_passReference 87 = .ok (.iconst 1, 1) := by decide +kernel
theorem dX0_passReference_88 : decode cX0_passReference 88 = .ok (.iadd, 1) := by decide +kernel
theorem dX0_passReference_89 : decode cX0_passReference 89 = .ok (.putfield 54, 3) := by decide +kernel
theorem dX0_passReference_92 : decode cX0_passReference 92 = .ok (.iinc 2 1, 3) := by decide +kernel
theorem dX0_passReference_95 : decode cX0_passReference 95 = .ok (.goto (-56), 3) := by decide +kernel
theorem dX0_passReference_98 : decode cX0_passReference 98 = .ok (.aload_n 0, 1) := by decide +kernel
theorem dX0_passReference_99 : decode cX0_passReference 99 = .ok (.aload_n 0, 1) := by decide +kernel
theorem dX0_passReference_100 : decode cX0_passReference 100 = .ok (.getfield 54, 3) := by decide +kernel
theorem dX0_passReference_103 : decode cX0_passReference 103 = .ok (.invokevirtual 160, 3) := by decide +kernel
theorem dX0_passReference_106 : decode cX0_passReference 106 = .ok (.ifCond .ne 9, 3) := by decide +kernel
theorem dX0_passReference_109 : decode cX0_passReference 109 = .ok (.aload_n 0, 1) := by decide +kernel
theorem dX0_passReference_110 : decode cX0_passReference 110 = .ok (.iload_n 1, 1) := by decide +kernel
theorem dX0_passReference_111 : decode cX0_passReference 111 = .ok (.invokevirtual 217, 3) := by decide +kernel
theorem dX0_passReference_114 : decode cX0_passReference 114 = .ok (.return_, 1) := by decide +kernel
theorem dX0_passReference_115 : decode cX0_passReference 115 = .ok (.aload_n 0, 1) := by decide +kernel
theorem dX0_passReference_116 : decode cX0_passReference 116 = .ok (.getfield 54, 3) := by decide +kernel
theorem dX0_passReference_119 : decode cX0_passReference 119 = .ok (.istore_n 2, 1) := by decide +kernel
theorem dX0_passReference_120 : decode cX0_passReference 120 = .ok (.aload_n 0, 1) := by decide +kernel
theorem dX0_passReference_121 : decode cX0_passReference 121 = .ok (.invokevirtual 214, 3) := by decide +kernel
theorem dX0_passReference_124 : decode cX0_passReference 124 = .ok (.istore_n 3, 1) := by decide +kernel
theorem dX0_passReference_125 : decode cX0_passReference 125 = .ok (.aload_n 0, 1) := by decide +kernel
theorem dX0_passReference_126 : decode cX0_passReference 126 = .ok (.getfield 37, 3) := by decide +kernel
theorem dX0_passReference_129 : decode cX0_passReference 129 = .ok (.ifCond .ne 31, 3) := by decide +kernel
theorem dX0_passReference_132 : decode cX0_passReference 132 = .ok (.aload_n 0, 1) := by decide +kernel
theorem dX0_passReference_133 : decode cX0_passReference 133 = .ok (.iload_n 2, 1) := by decide +kernel
theorem dX0_passReference_134 : decode cX0_passReference 134 = .ok (.invokevirtual 100, 3) := by decide +kernel
theorem dX0_passReference_137 : decode cX0_passReference 137 = .ok (.invokestatic 190, 3) := by decide +kernel
theorem dX0_passReference_140 : decode cX0_passReference 140 = .ok (.ifCond .ne 20, 3) := by decide +kernel
theorem dX0_passReference_143 : decode cX0_passReference 143 = .ok (.aload_n 0, 1) := by decide +kernel
theorem dX0_passReference_144 : decode cX0_passReference 144 = .ok (.aload_n 0, 1) := by decide +kernel
theorem dX0_passReference_145 : decode cX0_passReference 145 = .ok (.getfield 54, 3) := by decide +kernel
theorem dX0_passReference_148 : decode cX0_passReference 148 = .ok (.invokevirtual 160, 3) := by decide +kernel
theorem dX0_passReference_151 : decode cX0_passReference 151 = .ok (.ifCond .eq 9, 3) := by decide +kernel
theorem dX0_passReference_154 : decode cX0_passReference 154 = .ok (.aload_n 0, 1) := by decide +kernel
theorem dX0_passReference_155 : decode cX0_passReference 155 = .ok (.iconst 2, 1) := by decide +kernel
theorem dX0_passReference_156 : decode cX0_passReference 156 = .ok (.iload_n 2, 1) := by decide +kernel
theorem dX0_passReference_157 : decode cX0_passReference 157 = .ok (.invokevirtual 87, 3) := by decide +kernel
theorem dX0_passReference_160 : decode cX0_passReference 160 = .ok (.aload_n 0, 1) := by decide +kernel
theorem dX0_passReference_161 : decode cX0_passReference 161 = .ok (.aload_n 0, 1) := by decide +kernel
theorem dX0_passReference_162 : decode cX0_passReference 162 = .ok (.iload_n 1, 1) := by decide +kernel
theorem dX0_passReference_163 : decode cX0_passReference 163 = .ok (.iload_n 3, 1) := by decide +kernel
theorem dX0_passReference_164 : decode cX0_passReference 164 = .ok (.iload_n 2, 1) := by decide +kernel
theorem dX0_passReference_165 : decode cX0_passReference 165 = .ok (.invokevirtual 223, 3) := by decide +kernel
theorem dX0_passReference_168 : decode cX0_passReference 168 = .ok (.invokevirtual 217, 3) := by decide +kernel
theorem dX0_passReference_171 : decode cX0_passReference 171 = .ok (.return_, 1) := by decide +kernel
theorem dX0_isModifierAt_0 : decode cX0_isModifierAt 0 = .ok (.aload_n 0, 1) := by decide +kernel
theorem dX0_isModifierAt_1 : decode cX0_isModifierAt 1 = .ok (.getfield 23, 3) := by decide +kernel
theorem dX0_isModifierAt_4 : decode cX0_isModifierAt 4 = .ok (.iload_n 1, 1) := by decide +kernel
theorem dX0_isModifierAt_5 : decode cX0_isModifierAt 5 = .ok (.invokevirtual 108, 3) := by decide +kernel
theorem dX0_isModifierAt_8 : decode cX0_isModifierAt 8 = .ok (.istore_n 2, 1) := by decide +kernel
theorem dX0_isModifierAt_9 : decode cX0_isModifierAt 9 = .ok (.aload_n 0, 1) := by decide +kernel
theorem dX0_isModifierAt_10 : decode cX0_isModifierAt 10 = .ok (.iload_n 1, 1) := by decide +kernel
theorem dX0_isModifierAt_11 : decode cX0_isModifierAt 11 = .ok (.invokevirtual 100, 3) := by decide +kernel
theorem dX0_isModifierAt_14 : decode cX0_isModifierAt 14 = .ok (.iconst 1, 1) := by decide +kernel
theorem dX0_isModifierAt_15 : decode cX0_isModifierAt 15 = .ok (.if_icmp .ne 32, 3) := by decide +kernel
theorem dX0_isModifierAt_18 : decode cX0_isModifierAt 18 = .ok (.aload_n 0, 1) := by decide +kernel
theorem dX0_isModifierAt_19 : decode cX0_isModifierAt 19 = .ok (.iload_n 1, 1) := by decide +kernel
theorem dX0_isModifierAt_20 : decode cX0_isModifierAt 20 = .ok (.iconst 1, 1) := by decide +kernel
theorem dX0_isModifierAt_21 : decode cX0_isModifierAt 21 = .ok (.iadd, 1) := by decide +kernel
theorem dX0_isModifierAt_22 : decode cX0_isModifierAt 22 = .ok (.invokevirtual 100, 3) := by decide +kernel
theorem dX0_isModifierAt_25 : decode cX0_isModifierAt 25 = .ok (.invokestatic 200, 3) := by decide +kernel
theorem dX0_isModifierAt_28 : decode cX0_isModifierAt 28 = .ok (.ifCond .ne 19, 3) := by decide +kernel
theorem dX0_isModifierAt_31 : decode cX0_isModifierAt 31 = .ok (.iload_n 2, 1) := by decide +kernel
theorem dX0_isModifierAt_32 : decode cX0_isModifierAt 32 = .ok (.bipush 11, 2) := by decide +kernel
theorem dX0_isModifierAt_34 : decode cX0_isModifierAt 34 = .ok (.if_icmp .eq 9, 3) := by decide +kernel
theorem dX0_isModifierAt_37 : decode cX0_isModifierAt 37 = .ok (.iload_n 2, 1) := by decide +kernel
theorem dX0_isModifierAt_38 : decode cX0_isModifierAt 38 = .ok (.bipush 12, 2) := by decide +kernel
theorem dX0_isModifierAt_40 : decode cX0_isModifierAt 40 = .ok (.if_icmp .ne 7, 3) := by decide +kernel
theorem dX0_isModifierAt_43 : decode cX0_isModifierAt 43 = .ok (.iconst 1, 1) := by decide +kernel
theorem dX0_isModifierAt_44 : decode cX0_isModifierAt 44 = .ok (.goto 4, 3) := by decide +kernel
theorem dX0_isModifierAt_47 : decode cX0_isModifierAt 47 = .ok (.iconst 0, 1) := by decide +kernel
theorem dX0_isModifierAt_48 : decode cX0_isModifierAt 48 = .ok (.ireturn, 1) := by decide +kernel
theorem dX0_refer_0 : decode cX0_refer 0 = .ok (.aload_n 0, 1) := by decide +kernel
theorem dX0_refer_1 : decode cX0_refer 1 = .ok (.getfield 37, 3) := by decide +kernel
theorem dX0_refer_4 : decode cX0_refer 4 = .ok (.ifCond .ne 10, 3) := by decide +kernel
theorem dX0_refer_7 : decode cX0_refer 7 = .ok (.aload_n 0, 1) := by decide +kernel
theorem dX0_refer_8 : decode cX0_refer 8 = .ok (.getfield 44, 3) := by decide +kernel
theorem dX0_refer_11 : decode cX0_refer 11 = .ok (.ifCond .ne 5, 3) := by decide +kernel
theorem dX0_refer_14 : decode cX0_refer 14 = .ok (.iconst 0, 1) := by decide +kernel
theorem dX0_refer_15 : decode cX0_refer 15 = .ok (.ireturn, 1) := by decide +kernel
theorem dX0_refer_16 : decode cX0_refer 16 = .ok (.iload_n 2, 1) := by decide +kernel
theorem dX0_refer_17 : decode cX0_refer 17 = .ok (.sipush 128, 3) := by decide +kernel
theorem dX0_refer_20 : decode cX0_refer 20 = .ok (.if_icmp .lt 19, 3) := by decide +kernel
theorem dX0_refer_23 : decode cX0_refer 23 = .ok (.iload_n 2, 1) := by decide +kernel
theorem dX0_refer_24 : decode cX0_refer 24 = .ok (.sipush 3968, 3) := by decide +kernel
theorem dX0_refer_27 : decode cX0_refer 27 = .ok (.iand, 1) := by decide +kernel
theorem dX0_refer_28 : decode cX0_refer 28 = .ok (.aload_n 0, 1) := by decide +kernel
theorem dX0_refer_29 : decode cX0_refer 29 = .ok (.getfield 57, 3) := by decide +kernel
theorem dX0_refer_32 : decode cX0_refer 32 = .ok (.sipush 3968, 3) := by decide +kernel
theorem dX0_refer_35 : decode cX0_refer 35 = .ok (.iand, 1) := by decide +kernel
theorem dX0_refer_36 : decode cX0_refer 36 = .ok (.if_icmp .ne 10, 3) := by decide +kernel
theorem dX0_refer_39 : decode cX0_refer 39 = .ok (.iload_n 1, 1) := by decide +kernel
theorem dX0_refer_40 : decode cX0_refer 40 = .ok (.iload_n 2, 1) := by decide +kernel
theorem dX0_refer_41 : decode cX0_refer 41 = .ok (.invokestatic 226, 3) := by decide +kernel
theorem dX0_refer_44 : decode cX0_refer 44 = .ok (.ior, 1) := by decide +kernel
theorem dX0_refer_45 : decode cX0_refer 45 = .ok (.ireturn, 1) := by decide +kernel
theorem dX0_refer_46 : decode cX0_refer 46 = .ok (.iload_n 1, 1) := by decide +kernel
theorem dX0_refer_47 : decode cX0_refer 47 = .ok (.sipush 256, 3) := by decide +kernel
theorem dX0_refer_50 : decode cX0_refer 50 = .ok (.iand, 1) := by decide +kernel
theorem dX0_refer_51 : decode cX0_refer 51 = .ok (.ifCond .eq 12, 3) := by decide +kernel
theorem dX0_refer_54 : decode cX0_refer 54 = .ok (.aload_n 0, 1) := by decide +kernel
theorem dX0_refer_55 : decode cX0_refer 55 = .ok (.bipush 7, 2) := by decide +kernel
theorem dX0_refer_57 : decode cX0_refer 57 = .ok (.iload_n 3, 1) := by decide +kernel
theorem dX0_refer_58 : decode cX0_refer 58 = .ok (.invokevirtual 87, 3) := by decide +kernel
theorem dX0_refer_61 : decode cX0_refer 61 = .ok (.iconst 0, 1) := by decide +kernel
theorem dX0_refer_62 : decode cX0_refer 62 = .ok (.ireturn, 1) := by decide +kernel
theorem dX0_refer_63 : decode cX0_refer 63 = .ok (.iload_n 1, 1) := by decide +kernel
theorem dX0_refer_64 : decode cX0_refer 64 = .ok (.sipush 256, 3) := by decide +kernel
theorem dX0_refer_67 : decode cX0_refer 67 = .ok (.ior, 1) := by decide +kernel
theorem dX0_refer_68 : decode cX0_refer 68 = .ok (.aload_n 0, 1) := by decide +kernel
theorem dX0_refer_69 : decode cX0_refer 69 = .ok (.aload_n 0, 1) := by decide +kernel
theorem dX0_refer_70 : decode cX0_refer 70 = .ok (.getfield 57, 3) := by decide +kernel
theorem dX0_refer_73 : decode cX0_refer 73 = .ok (.sipush 3968, 3) := by decide +kernel
theorem dX0_refer_76 : decode cX0_refer 76 = .ok (.iand, 1) := by decide +kernel
theorem dX0_refer_77 : decode cX0_refer 77 = .ok (.iload_n 2, 1) := by decide +kernel
theorem dX0_refer_78 : decode cX0_refer 78 = .ok (.iload_n 3, 1) := by decide +kernel
theorem dX0_refer_79 : decode cX0_refer 79 = .ok (.invokevirtual 204, 3) := by decide +kernel
theorem dX0_refer_82 : decode cX0_refer 82 = .ok (.invokestatic 226, 3) := by decide +kernel
theorem dX0_refer_85 : decode cX0_refer 85 = .ok (.ior, 1) := by decide +kernel
theorem dX0_refer_86 : decode cX0_refer 86 = .ok (.ireturn, 1) := by decide +kernel
theorem dX0_inPage_0 : decode cX0_inPage 0 = .ok (.iload_n 0, 1) := by decide +kernel
theorem dX0_inPage_1 : decode cX0_inPage 1 = .ok (.sipush 128, 3) := by decide +kernel
theorem dX0_inPage_4 : decode cX0_inPage 4 = .ok (.if_icmp .ge 7, 3) := by decide +kernel
theorem dX0_inPage_7 : decode cX0_inPage 7 = .ok (.iload_n 0, 1) := by decide +kernel
theorem dX0_inPage_8 : decode cX0_inPage 8 = .ok (.goto 11, 3) := by decide +kernel
theorem dX0_inPage_11 : decode cX0_inPage 11 = .ok (.sipush 128, 3) := by decide +kernel
theorem dX0_inPage_14 : decode cX0_inPage 14 = .ok (.iload_n 0, 1) := by decide +kernel
theorem dX0_inPage_15 : decode cX0_inPage 15 = .ok (.bipush 127, 2) := by decide +kernel
theorem dX0_inPage_17 : decode cX0_inPage 17 = .ok (.iand, 1) := by decide +kernel
theorem dX0_inPage_18 : decode cX0_inPage 18 = .ok (.ior, 1) := by decide +kernel
theorem dX0_inPage_19 : decode cX0_inPage 19 = .ok (.ireturn, 1) := by decide +kernel
theorem dX1_init_0 : decode cX1_init 0 = .ok (.aload_n 0, 1) := by decide +kernel
theorem dX1_init_1 : decode cX1_init 1 = .ok (.invokespecial 3, 3) := by decide +kernel
theorem dX1_init_4 : decode cX1_init 4 = .ok (.aload_n 0, 1) := by decide +kernel
theorem dX1_init_5 : decode cX1_init 5 = .ok (.iconst 0, 1) := by decide +kernel
theorem dX1_init_6 : decode cX1_init 6 = .ok (.putfield 9, 3) := by decide +kernel
theorem dX1_init_9 : decode cX1_init 9 = .ok (.aload_n 0, 1) := by decide +kernel
theorem dX1_init_10 : decode cX1_init 10 = .ok (.aconst_null, 1) := by decide +kernel
theorem dX1_init_11 : decode cX1_init 11 = .ok (.putfield 15, 3) := by decide +kernel
theorem dX1_init_14 : decode cX1_init 14 = .ok (.aload_n 0, 1) := by decide +kernel
theorem dX1_init_15 : decode cX1_init 15 = .ok (.aconst_null, 1) := by decide +kernel
theorem dX1_init_16 : decode cX1_init 16 = .ok (.putfield 19, 3) := by decide +kernel
theorem dX1_init_19 : decode cX1_init 19 = .ok (.aload_n 0, 1) := by decide +kernel
theorem dX1_init_20 : decode cX1_init 20 = .ok (.iconst 0, 1) := by decide +kernel
theorem dX1_init_21 : decode cX1_init 21 = .ok (.putfield 23, 3) := by decide +kernel
theorem dX1_init_24 : decode cX1_init 24 = .ok (.aload_n 0, 1) := by decide +kernel
theorem dX1_init_25 : decode cX1_init 25 = .ok (.iconst 0, 1) := by decide +kernel
theorem dX1_init_26 : decode cX1_init 26 = .ok (.putfield 26, 3) := by decide +kernel
theorem dX1_init_29 : decode cX1_init 29 = .ok (.aload_n 0, 1) := by decide +kernel
theorem dX1_init_30 : decode cX1_init 30 = .ok (.iconst 0, 1) := by decide +kernel
theorem dX1_init_31 : decode cX1_init 31 = .ok (.putfield 30, 3) := by decide +kernel
theorem dX1_init_34 : decode cX1_init 34 = .ok (.aload_n 0, 1) := by decide +kernel
theorem dX1_init_35 : decode cX1_init 35 = .ok (.iconst 0, 1) := by decide +kernel
theorem dX1_init_36 : decode cX1_init 36 = .ok (.putfield 33, 3) := by decide +kernel
theorem dX1_init_39 : decode cX1_init 39 = .ok (.aload_n 0, 1) := by decide +kernel
theorem dX1_init_40 : decode cX1_init 40 = .ok (.iconst 0, 1) := by decide +kernel
theorem dX1_init_41 : decode cX1_init 41 = .ok (.putfield 36, 3) := by decide +kernel
theorem dX1_init_44 : decode cX1_init 44 = .ok (.return_, 1) := by decide +kernel
theorem dX1_isIdle_0 : decode cX1_isIdle 0 = .ok (.aload_n 0, 1) := by decide +kernel
theorem dX1_isIdle_1 : decode cX1_isIdle 1 = .ok (.getfield 9, 3) := by decide +kernel
theorem dX1_isIdle_4 : decode cX1_isIdle 4 = .ok (.ifCond .ne 7, 3) := by decide +kernel
theorem dX1_isIdle_7 : decode cX1_isIdle 7 = .ok (.iconst 1, 1) := by decide +kernel
theorem dX1_isIdle_8 : decode cX1_isIdle 8 = .ok (.goto 4, 3) := by decide +kernel
theorem dX1_isIdle_11 : decode cX1_isIdle 11 = .ok (.iconst 0, 1) := by decide +kernel
theorem dX1_isIdle_12 : decode cX1_isIdle 12 = .ok (.ireturn, 1) := by decide +kernel
theorem dX1_isMoving_0 : decode cX1_isMoving 0 = .ok (.aload_n 0, 1) := by decide +kernel
theorem dX1_isMoving_1 : decode cX1_isMoving 1 = .ok (.getfield 9, 3) := by decide +kernel
theorem dX1_isMoving_4 : decode cX1_isMoving 4 = .ok (.ifCond .eq 15, 3) := by decide +kernel
theorem dX1_isMoving_7 : decode cX1_isMoving 7 = .ok (.aload_n 0, 1) := by decide +kernel
theorem dX1_isMoving_8 : decode cX1_isMoving 8 = .ok (.getfield 15, 3) := by decide +kernel
theorem dX1_isMoving_11 : decode cX1_isMoving 11 = .ok (.aload_n 1, 1) := by decide +kernel
theorem dX1_isMoving_12 : decode cX1_isMoving 12 = .ok (.if_acmp .ne 7, 3) := by decide +kernel
theorem dX1_isMoving_15 : decode cX1_isMoving 15 = .ok (.iconst 1, 1) := by decide +kernel
theorem dX1_isMoving_16 : decode cX1_isMoving 16 = .ok (.goto 4, 3) := by decide +kernel
theorem dX1_isMoving_19 : decode cX1_isMoving 19 = .ok (.iconst 0, 1) := by decide +kernel
theorem dX1_isMoving_20 : decode cX1_isMoving 20 = .ok (.ireturn, 1) := by decide +kernel
theorem dX1_isTakingOut_0 : decode cX1_isTakingOut 0 = .ok (.aload_n 0, 1) := by decide +kernel
theorem dX1_isTakingOut_1 : decode cX1_isTakingOut 1 = .ok (.getfield 9, 3) := by decide +kernel
theorem dX1_isTakingOut_4 : decode cX1_isTakingOut 4 = .ok (.iconst 1, 1) := by decide +kernel
theorem dX1_isTakingOut_5 : decode cX1_isTakingOut 5 = .ok (.if_icmp .ne 15, 3) := by decide +kernel
theorem dX1_isTakingOut_8 : decode cX1_isTakingOut 8 = .ok (.aload_n 0, 1) := by decide +kernel
theorem dX1_isTakingOut_9 : decode cX1_isTakingOut 9 = .ok (.getfield 15, 3) := by decide +kernel
theorem dX1_isTakingOut_12 : decode cX1_isTakingOut 12 = .ok (.aload_n 1, 1) := by decide +kernel
theorem dX1_isTakingOut_13 : decode cX1_isTakingOut 13 = .ok (.if_acmp .ne 7, 3) := by decide +kernel
theorem dX1_isTakingOut_16 : decode cX1_isTakingOut 16 = .ok (.iconst 1, 1) := by decide +kernel
theorem dX1_isTakingOut_17 : decode cX1_isTakingOut 17 = .ok (.goto 4, 3) := by decide +kernel
theorem dX1_isTakingOut_20 : decode cX1_isTakingOut 20 = .ok (.iconst 0, 1) := by decide +kernel
theorem dX1_isTakingOut_21 : decode cX1_isTakingOut 21 = .ok (.ireturn, 1) := by decide +kernel
theorem dX1_start_0 : decode cX1_start 0 = .ok (.aload_n 0, 1) := by decide +kernel
theorem dX1_start_1 : decode cX1_start 1 = .ok (.iload_n 1, 1) := by decide +kernel
theorem dX1_start_2 : decode cX1_start 2 = .ok (.putfield 9, 3) := by decide +kernel
theorem dX1_start_5 : decode cX1_start 5 = .ok (.aload_n 0, 1) := by decide +kernel
theorem dX1_start_6 : decode cX1_start 6 = .ok (.aload_n 2, 1) := by decide +kernel
theorem dX1_start_7 : decode cX1_start 7 = .ok (.putfield 15, 3) := by decide +kernel
theorem dX1_start_10 : decode cX1_start 10 = .ok (.aload_n 0, 1) := by decide +kernel
theorem dX1_start_11 : decode cX1_start 11 = .ok (.aload_n 3, 1) := by decide +kernel
theorem dX1_start_12 : decode cX1_start 12 = .ok (.putfield 19, 3) := by decide +kernel
theorem dX1_start_15 : decode cX1_start 15 = .ok (.aload_n 0, 1) := by decide +kernel
theorem dX1_start_16 : decode cX1_start 16 = .ok (.iconst 0, 1) := by decide +kernel
theorem dX1_start_17 : decode cX1_start 17 = .ok (.putfield 23, 3) := by decide +kernel
theorem dX1_start_20 : decode cX1_start 20 = .ok (.return_, 1) := by decide +kernel
theorem dX1_clear_0 : decode cX1_clear 0 = .ok (.aload_n 0, 1) := by decide +kernel
theorem dX1_clear_1 : decode cX1_clear 1 = .ok (.iconst 0, 1) := by decide +kernel
theorem dX1_clear_2 : decode cX1_clear 2 = .ok (.aconst_null, 1) := by decide +kernel
theorem dX1_clear_3 : decode cX1_clear 3 = .ok (.aconst_null, 1) := by decide +kernel
theorem dX1_clear_4 : decode cX1_clear 4 = .ok (.invokevirtual 39, 3) := by decide +kernel
theorem dX1_clear_7 : decode cX1_clear 7 = .ok (.return_, 1) := by decide +kernel
theorem dX1_advance_0 : decode cX1_advance 0 = .ok (.aload_n 0, 1) := by decide +kernel
theorem dX1_advance_1 : decode cX1_advance 1 = .ok (.getfield 15, 3) := by decide +kernel
theorem dX1_advance_4 : decode cX1_advance 4 = .ok (.ifnull 10, 3) := by decide +kernel
theorem dX1_advance_7 : decode cX1_advance 7 = .ok (.aload_n 0, 1) := by decide +kernel
theorem dX1_advance_8 : decode cX1_advance 8 = .ok (.getfield 19, 3) := by decide +kernel
theorem dX1_advance_11 : decode cX1_advance 11 = .ok (.ifnonnull 5, 3) := by decide +kernel
theorem dX1_advance_14 : decode cX1_advance 14 = .ok (.iconst 0, 1) := by decide +kernel
theorem dX1_advance_15 : decode cX1_advance 15 = .ok (.ireturn, 1) := by decide +kernel
theorem dX1_advance_16 : decode cX1_advance 16 = .ok (.aload_n 0, 1) := by decide +kernel
theorem dX1_advance_17 : decode cX1_advance 17 = .ok (.getfield 9, 3) := by decide +kernel
theorem dX1_advance_20 : decode cX1_advance 20 = .ok (.iconst 1, 1) := by decide +kernel
theorem dX1_advance_21 : decode cX1_advance 21 = .ok (.if_icmp .ne 24, 3) := by decide +kernel
theorem dX1_advance_24 : decode cX1_advance 24 = .ok (.aload_n 0, 1) := by decide +kernel
theorem dX1_advance_25 : decode cX1_advance 25 = .ok (.aload_n 0, 1) := by decide +kernel
theorem dX1_advance_26 : decode cX1_advance 26 = .ok (.getfield 19, 3) := by decide +kernel
theorem dX1_advance_29 : decode cX1_advance 29 = .ok (.getfield 43, 3) := by decide +kernel
theorem dX1_advance_32 : decode cX1_advance 32 = .ok (.aload_n 0, 1) := by decide +kernel
theorem dX1_advance_33 : decode cX1_advance 33 = .ok (.getfield 15, 3) := by decide +kernel
theorem dX1_advance_36 : decode cX1_advance 36 = .ok (.getfield 49, 3) := by decide +kernel
theorem dX1_advance_39 : decode cX1_advance 39 = .ok (.invokevirtual 54, 3) := by decide +kernel
theorem dX1_advance_42 : decode cX1_advance 42 = .ok (.goto 44, 3) := by decide +kernel
theorem dX1_advance_45 : decode cX1_advance 45 = .ok (.aload_n 0, 1) := by decide +kernel
theorem dX1_advance_46 : decode cX1_advance 46 = .ok (.getfield 9, 3) := by decide +kernel
theorem dX1_advance_49 : decode cX1_advance 49 = .ok (.iconst 2, 1) := by decide +kernel
theorem dX1_advance_50 : decode cX1_advance 50 = .ok (.if_icmp .ne 24, 3) := by decide +kernel
theorem dX1_advance_53 : decode cX1_advance 53 = .ok (.aload_n 0, 1) := by decide +kernel
theorem dX1_advance_54 : decode cX1_advance 54 = .ok (.aload_n 0, 1) := by decide +kernel
theorem dX1_advance_55 : decode cX1_advance 55 = .ok (.getfield 15, 3) := by decide +kernel
theorem dX1_advance_58 : decode cX1_advance 58 = .ok (.getfield 49, 3) := by decide +kernel
theorem dX1_advance_61 : decode cX1_advance 61 = .ok (.aload_n 0, 1) := by decide +kernel
theorem dX1_advance_62 : decode cX1_advance 62 = .ok (.getfield 19, 3) := by decide +kernel
theorem dX1_advance_65 : decode cX1_advance 65 = .ok (.getfield 43, 3) := by decide +kernel
theorem dX1_advance_68 : decode cX1_advance 68 = .ok (.invokevirtual 54, 3) := by decide +kernel
theorem dX1_advance_71 : decode cX1_advance 71 = .ok (.goto 15, 3) := by decide +kernel
theorem dX1_advance_74 : decode cX1_advance 74 = .ok (.aload_n 0, 1) := by decide +kernel
theorem dX1_advance_75 : decode cX1_advance 75 = .ok (.aload_n 0, 1) := by decide +kernel
theorem dX1_advance_76 : decode cX1_advance 76 = .ok (.getfield 15, 3) := by decide +kernel
theorem dX1_advance_79 : decode cX1_advance 79 = .ok (.aload_n 0, 1) := by decide +kernel
theorem dX1_advance_80 : decode cX1_advance 80 = .ok (.getfield 19, 3) := by decide +kernel
theorem dX1_advance_83 : decode cX1_advance 83 = .ok (.invokevirtual 58, 3) := by decide +kernel
theorem dX1_advance_86 : decode cX1_advance 86 = .ok (.aload_n 0, 1) := by decide +kernel
theorem dX1_advance_87 : decode cX1_advance 87 = .ok (.dup, 1) := by decide +kernel
theorem dX1_advance_88 : decode cX1_advance 88 = .ok (.getfield 23, 3) := by decide +kernel
theorem dX1_advance_91 : decode cX1_advance 91 = .ok (.bipush 16, 2) := by decide +kernel
theorem dX1_advance_93 : decode cX1_advance 93 = .ok (.iadd, 1) := by decide +kernel
theorem dX1_advance_94 : decode cX1_advance 94 = .ok (.putfield 23, 3) := by decide +kernel
theorem dX1_advance_97 : decode cX1_advance 97 = .ok (.aload_n 0, 1) := by decide +kernel
theorem dX1_advance_98 : decode cX1_advance 98 = .ok (.getfield 23, 3) := by decide +kernel
theorem dX1_advance_101 : decode cX1_advance 101 = .ok (.aload_n 0, 1) := by decide +kernel
theorem dX1_advance_102 : decode cX1_advance 102 = .ok (.getfield 9, 3) := by decide +kernel
theorem dX1_advance_105 : decode cX1_advance 105 = .ok (.iconst 1, 1) := by decide +kernel
theorem dX1_advance_106 : decode cX1_advance 106 = .ok (.if_icmp .eq 11, 3) := by decide +kernel
theorem dX1_advance_109 : decode cX1_advance 109 = .ok (.aload_n 0, 1) := by decide +kernel
theorem dX1_advance_110 : decode cX1_advance 110 = .ok (.getfield 9, 3) := by decide +kernel
theorem dX1_advance_113 : decode cX1_advance 113 = .ok (.iconst 2, 1) := by decide +kernel
theorem dX1_advance_114 : decode cX1_advance 114 = .ok (.if_icmp .ne 9, 3) := by decide +kernel
theorem dX1_advance_117 : decode cX1_advance 117 = .ok (.sipush 4096, 3) := by decide +kernel
theorem dX1_advance_120 : decode cX1_advance 120 = .ok (.goto 6, 3) := by decide +kernel
theorem dX1_advance_123 : decode cX1_advance 123 = .ok (.sipush 128, 3) := by decide +kernel
theorem dX1_advance_126 : decode cX1_advance 126 = .ok (.if_icmp .lt 7, 3) := by decide +kernel
theorem dX1_advance_129 : decode cX1_advance 129 = .ok (.iconst 1, 1) := by decide +kernel
theorem dX1_advance_130 : decode cX1_advance 130 = .ok (.goto 4, 3) := by decide +kernel
theorem dX1_advance_133 : decode cX1_advance 133 = .ok (.iconst 0, 1) := by decide +kernel
theorem dX1_advance_134 : decode cX1_advance 134 = .ok (.ireturn, 1) := by decide +kernel
theorem dX1_copyStep_0 : decode cX1_copyStep 0 = .ok (.aload_n 0, 1) := by decide +kernel
theorem dX1_copyStep_1 : decode cX1_copyStep 1 = .ok (.getfield 23, 3) := by decide +kernel
theorem dX1_copyStep_4 : decode cX1_copyStep 4 = .ok (.ifCond .lt 31, 3) := by decide +kernel
theorem dX1_copyStep_7 : decode cX1_copyStep 7 = .ok (.aload_n 0, 1) := by decide +kernel
theorem dX1_copyStep_8 : decode cX1_copyStep 8 = .ok (.getfield 23, 3) := by decide +kernel
theorem dX1_copyStep_11 : decode cX1_copyStep 11 = .ok (.bipush 16, 2) := by decide +kernel
theorem dX1_copyStep_13 : decode cX1_copyStep 13 = .ok (.iadd, 1) := by decide +kernel
theorem dX1_copyStep_14 : decode cX1_copyStep 14 = .ok (.sipush 4096, 3) := by decide +kernel
theorem dX1_copyStep_17 : decode cX1_copyStep 17 = .ok (.if_icmp .gt 18, 3) := by decide +kernel
theorem dX1_copyStep_20 : decode cX1_copyStep 20 = .ok (.aload_n 1, 1) := by decide +kernel
theorem dX1_copyStep_21 : decode cX1_copyStep 21 = .ok (.aload_n 0, 1) := by decide +kernel
theorem dX1_copyStep_22 : decode cX1_copyStep 22 = .ok (.getfield 23, 3) := by decide +kernel
theorem dX1_copyStep_25 : decode cX1_copyStep 25 = .ok (.aload_n 2, 1) := by decide +kernel
theorem dX1_copyStep_26 : decode cX1_copyStep 26 = .ok (.aload_n 0, 1) := by decide +kernel
theorem dX1_copyStep_27 : decode cX1_copyStep 27 = .ok (.getfield 23, 3) := by decide +kernel
theorem dX1_copyStep_30 : decode cX1_copyStep 30 = .ok (.bipush 16, 2) := by decide +kernel
theorem dX1_copyStep_32 : decode cX1_copyStep 32 = .ok (.invokestatic 62, 3) := by decide +kernel
theorem dX1_copyStep_35 : decode cX1_copyStep 35 = .ok (.return_, 1) := by decide +kernel
theorem dX1_moveBlockStep_0 : decode cX1_moveBlockStep 0 = .ok (.aload_n 1, 1) := by decide +kernel
theorem dX1_moveBlockStep_1 : decode cX1_moveBlockStep 1 = .ok (.getfield 68, 3) := by decide +kernel
theorem dX1_moveBlockStep_4 : decode cX1_moveBlockStep 4 = .ok (.bipush 7, 2) := by decide +kernel
theorem dX1_moveBlockStep_6 : decode cX1_moveBlockStep 6 = .ok (.iand, 1) := by decide +kernel
theorem dX1_moveBlockStep_7 : decode cX1_moveBlockStep 7 = .ok (.sipush 128, 3) := by decide +kernel
theorem dX1_moveBlockStep_10 : decode cX1_moveBlockStep 10 = .ok (.imul, 1) := by decide +kernel
theorem dX1_moveBlockStep_11 : decode cX1_moveBlockStep 11 = .ok (.istore_n 3, 1) := by decide +kernel
theorem dX1_moveBlockStep_12 : decode cX1_moveBlockStep 12 = .ok (.aload_n 0, 1) := by decide +kernel
theorem dX1_moveBlockStep_13 : decode cX1_moveBlockStep 13 = .ok (.getfield 23, 3) := by decide +kernel
theorem dX1_moveBlockStep_16 : decode cX1_moveBlockStep 16 = .ok (.istore 4, 2) := by decide +kernel
theorem dX1_moveBlockStep_18 : decode cX1_moveBlockStep 18 = .ok (.iload 4, 2) := by decide +kernel
theorem dX1_moveBlockStep_20 : decode cX1_moveBlockStep 20 = .ok (.aload_n 0, 1) := by decide +kernel
theorem dX1_moveBlockStep_21 : decode cX1_moveBlockStep 21 = .ok (.getfield 23, 3) := by decide +kernel
theorem dX1_moveBlockStep_24 : decode cX1_moveBlockStep 24 = .ok (.bipush 16, 2) := by decide +kernel
theorem dX1_moveBlockStep_26 : decode cX1_moveBlockStep 26 = .ok (.iadd, 1) := by decide +kernel
theorem dX1_moveBlockStep_27 : decode cX1_moveBlockStep 27 = .ok (.if_icmp .ge 72, 3) := by decide +kernel
theorem dX1_moveBlockStep_30 : decode cX1_moveBlockStep 30 = .ok (.iload 4, 2) := by decide +kernel
theorem dX1_moveBlockStep_32 : decode cX1_moveBlockStep 32 = .ok (.sipush 128, 3) := by decide +kernel
theorem dX1_moveBlockStep_35 : decode cX1_moveBlockStep 35 = .ok (.if_icmp .ge 64, 3) := by decide +kernel
theorem dX1_moveBlockStep_38 : decode cX1_moveBlockStep 38 = .ok (.aload_n 1, 1) := by decide +kernel
theorem dX1_moveBlockStep_39 : decode cX1_moveBlockStep 39 = .ok (.getfield 71, 3) := by decide +kernel
theorem dX1_moveBlockStep_42 : decode cX1_moveBlockStep 42 = .ok (.iload 4, 2) := by decide +kernel
theorem dX1_moveBlockStep_44 : decode cX1_moveBlockStep 44 = .ok (.iadd, 1) := by decide +kernel
theorem dX1_moveBlockStep_45 : decode cX1_moveBlockStep 45 = .ok (.sipush 4095, 3) := by decide +kernel
theorem dX1_moveBlockStep_48 : decode cX1_moveBlockStep 48 = .ok (.iand, 1) := by decide +kernel
theorem dX1_moveBlockStep_49 : decode cX1_moveBlockStep 49 = .ok (.istore 5, 2) := by decide +kernel
theorem dX1_moveBlockStep_51 : decode cX1_moveBlockStep 51 = .ok (.aload_n 0, 1) := by decide +kernel
theorem dX1_moveBlockStep_52 : decode cX1_moveBlockStep 52 = .ok (.getfield 9, 3) := by decide +kernel
theorem dX1_moveBlockStep_55 : decode cX1_moveBlockStep 55 = .ok (.iconst 3, 1) := by decide +kernel
theorem dX1_moveBlockStep_56 : decode cX1_moveBlockStep 56 = .ok (.if_icmp .ne 21, 3) := by decide +kernel
theorem dX1_moveBlockStep_59 : decode cX1_moveBlockStep 59 = .ok (.aload_n 2, 1) := by decide +kernel
theorem dX1_moveBlockStep_60 : decode cX1_moveBlockStep 60 = .ok (.iload 5, 2) := by decide +kernel
theorem dX1_moveBlockStep_62 : decode cX1_moveBlockStep 62 = .ok (.aload_n 1, 1) := by decide +kernel
theorem dX1_moveBlockStep_63 : decode cX1_moveBlockStep 63 = .ok (.getfield 74, 3) := by decide +kernel
theorem dX1_moveBlockStep_66 : decode cX1_moveBlockStep 66 = .ok (.iload_n 3, 1) := by decide +kernel
theorem dX1_moveBlockStep_67 : decode cX1_moveBlockStep 67 = .ok (.iload 4, 2) := by decide +kernel
theorem dX1_moveBlockStep_69 : decode cX1_moveBlockStep 69 = .ok (.iadd, 1) := by decide +kernel
theorem dX1_moveBlockStep_70 : decode cX1_moveBlockStep 70 = .ok (.iaload, 1) := by decide +kernel
theorem dX1_moveBlockStep_71 : decode cX1_moveBlockStep 71 = .ok (.invokevirtual 77, 3) := by decide +kernel
theorem dX1_moveBlockStep_74 : decode cX1_moveBlockStep 74 = .ok (.goto 19, 3) := by decide +kernel
theorem dX1_moveBlockStep_77 : decode cX1_moveBlockStep 77 = .ok (.aload_n 1, 1) := by decide +kernel
theorem dX1_moveBlockStep_78 : decode cX1_moveBlockStep 78 = .ok (.getfield 74, 3) := by decide +kernel
theorem dX1_moveBlockStep_81 : decode cX1_moveBlockStep 81 = .ok (.iload_n 3, 1) := by decide +kernel
theorem dX1_moveBlockStep_82 : decode cX1_moveBlockStep 82 = .ok (.iload 4, 2) := by decide +kernel
theorem dX1_moveBlockStep_84 : decode cX1_moveBlockStep 84 = .ok (.iadd, 1) := by decide +kernel
theorem dX1_moveBlockStep_85 : decode cX1_moveBlockStep 85 = .ok (.aload_n 2, 1) := by decide +kernel
theorem dX1_moveBlockStep_86 : decode cX1_moveBlockStep 86 = .ok (.getfield 43, 3) := by decide +kernel
theorem dX1_moveBlockStep_89 : decode cX1_moveBlockStep 89 = .ok (.iload 5, 2) := by decide +kernel
theorem dX1_moveBlockStep_91 : decode cX1_moveBlockStep 91 = .ok (.iaload, 1) := by decide +kernel
theorem dX1_moveBlockStep_92 : decode cX1_moveBlockStep 92 = .ok (.iastore, 1) := by decide +kernel
theorem dX1_moveBlockStep_93 : decode cX1_moveBlockStep 93 = .ok (.iinc 4 1, 3) := by decide +kernel
theorem dX1_moveBlockStep_96 : decode cX1_moveBlockStep 96 = .ok (.goto (-78), 3) := by decide +kernel
theorem dX1_moveBlockStep_99 : decode cX1_moveBlockStep 99 = .ok (.return_, 1) := by decide +kernel
theorem dX1_register_0 : decode cX1_register 0 = .ok (.iload_n 1, 1) := by decide +kernel
theorem dX1_register_1 : decode cX1_register 1 = .ok (.tableswitch 122 2 12 #[59, 64, 83, 88, 107, 112, 122, 122, 122, 122, 117], 59) := by decide +kernel
theorem dX1_register_60 : decode cX1_register 60 = .ok (.aload_n 0, 1) := by decide +kernel
