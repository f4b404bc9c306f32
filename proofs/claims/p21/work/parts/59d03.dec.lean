theorem dX1_register_61 : decode cX1_register 61 = .ok (.getfield 9, 3) := by decide +kernel
theorem dX1_register_64 : decode cX1_register 64 = .ok (.ireturn, 1) := by decide +kernel
theorem dX1_register_65 : decode cX1_register 65 = .ok (.aload_n 0, 1) := by decide +kernel
theorem dX1_register_66 : decode cX1_register 66 = .ok (.getfield 15, 3) := by decide +kernel
theorem dX1_register_69 : decode cX1_register 69 = .ok (.ifnonnull 7, 3) := by decide +kernel
theorem dX1_register_72 : decode cX1_register 72 = .ok (.iconst (-1), 1) := by decide +kernel
theorem dX1_register_73 : decode cX1_register 73 = .ok (.goto 10, 3) := by decide +kernel
theorem dX1_register_76 : decode cX1_register 76 = .ok (.aload_n 0, 1) := by decide +kernel
theorem dX1_register_77 : decode cX1_register 77 = .ok (.getfield 15, 3) := by decide +kernel
theorem dX1_register_80 : decode cX1_register 80 = .ok (.getfield 81, 3) := by decide +kernel
theorem dX1_register_83 : decode cX1_register 83 = .ok (.ireturn, 1) := by decide +kernel
theorem dX1_register_84 : decode cX1_register 84 = .ok (.aload_n 0, 1) := by decide +kernel
theorem dX1_register_85 : decode cX1_register 85 = .ok (.getfield 23, 3) := by decide +kernel
theorem dX1_register_88 : decode cX1_register 88 = .ok (.ireturn, 1) := by decide +kernel
theorem dX1_register_89 : decode cX1_register 89 = .ok (.aload_n 0, 1) := by decide +kernel
theorem dX1_register_90 : decode cX1_register 90 = .ok (.getfield 19, 3) := by decide +kernel
theorem dX1_register_93 : decode cX1_register 93 = .ok (.ifnonnull 7, 3) := by decide +kernel
theorem dX1_register_96 : decode cX1_register 96 = .ok (.iconst (-1), 1) := by decide +kernel
theorem dX1_register_97 : decode cX1_register 97 = .ok (.goto 10, 3) := by decide +kernel
theorem dX1_register_100 : decode cX1_register 100 = .ok (.aload_n 0, 1) := by decide +kernel
theorem dX1_register_101 : decode cX1_register 101 = .ok (.getfield 19, 3) := by decide +kernel
theorem dX1_register_104 : decode cX1_register 104 = .ok (.getfield 84, 3) := by decide +kernel
theorem dX1_register_107 : decode cX1_register 107 = .ok (.ireturn, 1) := by decide +kernel
theorem dX1_register_108 : decode cX1_register 108 = .ok (.aload_n 0, 1) := by decide +kernel
theorem dX1_register_109 : decode cX1_register 109 = .ok (.getfield 30, 3) := by decide +kernel
theorem dX1_register_112 : decode cX1_register 112 = .ok (.ireturn, 1) := by decide +kernel
theorem dX1_register_113 : decode cX1_register 113 = .ok (.aload_n 0, 1) := by decide +kernel
theorem dX1_register_114 : decode cX1_register 114 = .ok (.getfield 33, 3) := by decide +kernel
theorem dX1_register_117 : decode cX1_register 117 = .ok (.ireturn, 1) := by decide +kernel
theorem dX1_register_118 : decode cX1_register 118 = .ok (.aload_n 0, 1) := by decide +kernel
theorem dX1_register_119 : decode cX1_register 119 = .ok (.getfield 36, 3) := by decide +kernel
theorem dX1_register_122 : decode cX1_register 122 = .ok (.ireturn, 1) := by decide +kernel
theorem dX1_register_123 : decode cX1_register 123 = .ok (.iconst (-1), 1) := by decide +kernel
theorem dX1_register_124 : decode cX1_register 124 = .ok (.ireturn, 1) := by decide +kernel
theorem dX2_init_0 : decode cX2_init 0 = .ok (.aload_n 0, 1) := by decide +kernel
theorem dX2_init_1 : decode cX2_init 1 = .ok (.invokespecial 3, 3) := by decide +kernel
theorem dX2_init_4 : decode cX2_init 4 = .ok (.aload_n 0, 1) := by decide +kernel
theorem dX2_init_5 : decode cX2_init 5 = .ok (.new 9, 3) := by decide +kernel
theorem dX2_init_8 : decode cX2_init 8 = .ok (.dup, 1) := by decide +kernel
theorem dX2_init_9 : decode cX2_init 9 = .ok (.invokespecial 11, 3) := by decide +kernel
theorem dX2_init_12 : decode cX2_init 12 = .ok (.putfield 12, 3) := by decide +kernel
theorem dX2_init_15 : decode cX2_init 15 = .ok (.aload_n 0, 1) := by decide +kernel
theorem dX2_init_16 : decode cX2_init 16 = .ok (.new 18, 3) := by decide +kernel
theorem dX2_init_19 : decode cX2_init 19 = .ok (.dup, 1) := by decide +kernel
theorem dX2_init_20 : decode cX2_init 20 = .ok (.invokespecial 20, 3) := by decide +kernel
theorem dX2_init_23 : decode cX2_init 23 = .ok (.putfield 21, 3) := by decide +kernel
theorem dX2_init_26 : decode cX2_init 26 = .ok (.aload_n 0, 1) := by decide +kernel
theorem dX2_init_27 : decode cX2_init 27 = .ok (.iconst 0, 1) := by decide +kernel
theorem dX2_init_28 : decode cX2_init 28 = .ok (.putfield 25, 3) := by decide +kernel
theorem dX2_init_31 : decode cX2_init 31 = .ok (.aload_n 0, 1) := by decide +kernel
theorem dX2_init_32 : decode cX2_init 32 = .ok (.aconst_null, 1) := by decide +kernel
theorem dX2_init_33 : decode cX2_init 33 = .ok (.putfield 29, 3) := by decide +kernel
theorem dX2_init_36 : decode cX2_init 36 = .ok (.aload_n 0, 1) := by decide +kernel
theorem dX2_init_37 : decode cX2_init 37 = .ok (.iconst 0, 1) := by decide +kernel
theorem dX2_init_38 : decode cX2_init 38 = .ok (.putfield 33, 3) := by decide +kernel
theorem dX2_init_41 : decode cX2_init 41 = .ok (.aload_n 0, 1) := by decide +kernel
theorem dX2_init_42 : decode cX2_init 42 = .ok (.iconst 0, 1) := by decide +kernel
theorem dX2_init_43 : decode cX2_init 43 = .ok (.putfield 36, 3) := by decide +kernel
theorem dX2_init_46 : decode cX2_init 46 = .ok (.aload_n 0, 1) := by decide +kernel
theorem dX2_init_47 : decode cX2_init 47 = .ok (.iconst 0, 1) := by decide +kernel
theorem dX2_init_48 : decode cX2_init 48 = .ok (.putfield 39, 3) := by decide +kernel
theorem dX2_init_51 : decode cX2_init 51 = .ok (.aload_n 0, 1) := by decide +kernel
theorem dX2_init_52 : decode cX2_init 52 = .ok (.iconst 1, 1) := by decide +kernel
theorem dX2_init_53 : decode cX2_init 53 = .ok (.iload_n 1, 1) := by decide +kernel
theorem dX2_init_54 : decode cX2_init 54 = .ok (.invokestatic 42, 3) := by decide +kernel
theorem dX2_init_57 : decode cX2_init 57 = .ok (.anewarray 48, 3) := by decide +kernel
theorem dX2_init_60 : decode cX2_init 60 = .ok (.putfield 50, 3) := by decide +kernel
theorem dX2_init_63 : decode cX2_init 63 = .ok (.iconst 0, 1) := by decide +kernel
theorem dX2_init_64 : decode cX2_init 64 = .ok (.istore 5, 2) := by decide +kernel
theorem dX2_init_66 : decode cX2_init 66 = .ok (.iload 5, 2) := by decide +kernel
theorem dX2_init_68 : decode cX2_init 68 = .ok (.aload_n 0, 1) := by decide +kernel
theorem dX2_init_69 : decode cX2_init 69 = .ok (.getfield 50, 3) := by decide +kernel
theorem dX2_init_72 : decode cX2_init 72 = .ok (.arraylength, 1) := by decide +kernel
theorem dX2_init_73 : decode cX2_init 73 = .ok (.if_icmp .ge 25, 3) := by decide +kernel
theorem dX2_init_76 : decode cX2_init 76 = .ok (.aload_n 0, 1) := by decide +kernel
theorem dX2_init_77 : decode cX2_init 77 = .ok (.getfield 50, 3) := by decide +kernel
theorem dX2_init_80 : decode cX2_init 80 = .ok (.iload 5, 2) := by decide +kernel
theorem dX2_init_82 : decode cX2_init 82 = .ok (.new 48, 3) := by decide +kernel
theorem dX2_init_85 : decode cX2_init 85 = .ok (.dup, 1) := by decide +kernel
theorem dX2_init_86 : decode cX2_init 86 = .ok (.iload 5, 2) := by decide +kernel
theorem dX2_init_88 : decode cX2_init 88 = .ok (.invokespecial 54, 3) := by decide +kernel
theorem dX2_init_91 : decode cX2_init 91 = .ok (.aastore, 1) := by decide +kernel
theorem dX2_init_92 : decode cX2_init 92 = .ok (.iinc 5 1, 3) := by decide +kernel
theorem dX2_init_95 : decode cX2_init 95 = .ok (.goto (-29), 3) := by decide +kernel
theorem dX2_init_98 : decode cX2_init 98 = .ok (.aload_n 0, 1) := by decide +kernel
theorem dX2_init_99 : decode cX2_init 99 = .ok (.iconst 1, 1) := by decide +kernel
theorem dX2_init_100 : decode cX2_init 100 = .ok (.iload_n 2, 1) := by decide +kernel
theorem dX2_init_101 : decode cX2_init 101 = .ok (.invokestatic 42, 3) := by decide +kernel
theorem dX2_init_104 : decode cX2_init 104 = .ok (.anewarray 57, 3) := by decide +kernel
theorem dX2_init_107 : decode cX2_init 107 = .ok (.putfield 59, 3) := by decide +kernel
theorem dX2_init_110 : decode cX2_init 110 = .ok (.iconst 0, 1) := by decide +kernel
theorem dX2_init_111 : decode cX2_init 111 = .ok (.istore 5, 2) := by decide +kernel
theorem dX2_init_113 : decode cX2_init 113 = .ok (.iload 5, 2) := by decide +kernel
theorem dX2_init_115 : decode cX2_init 115 = .ok (.aload_n 0, 1) := by decide +kernel
theorem dX2_init_116 : decode cX2_init 116 = .ok (.getfield 59, 3) := by decide +kernel
theorem dX2_init_119 : decode cX2_init 119 = .ok (.arraylength, 1) := by decide +kernel
theorem dX2_init_120 : decode cX2_init 120 = .ok (.if_icmp .ge 25, 3) := by decide +kernel
theorem dX2_init_123 : decode cX2_init 123 = .ok (.aload_n 0, 1) := by decide +kernel
theorem dX2_init_124 : decode cX2_init 124 = .ok (.getfield 59, 3) := by decide +kernel
theorem dX2_init_127 : decode cX2_init 127 = .ok (.iload 5, 2) := by decide +kernel
theorem dX2_init_129 : decode cX2_init 129 = .ok (.new 57, 3) := by decide +kernel
theorem dX2_init_132 : decode cX2_init 132 = .ok (.dup, 1) := by decide +kernel
theorem dX2_init_133 : decode cX2_init 133 = .ok (.iload 5, 2) := by decide +kernel
theorem dX2_init_135 : decode cX2_init 135 = .ok (.invokespecial 63, 3) := by decide +kernel
theorem dX2_init_138 : decode cX2_init 138 = .ok (.aastore, 1) := by decide +kernel
theorem dX2_init_139 : decode cX2_init 139 = .ok (.iinc 5 1, 3) := by decide +kernel
theorem dX2_init_142 : decode cX2_init 142 = .ok (.goto (-29), 3) := by decide +kernel
theorem dX2_init_145 : decode cX2_init 145 = .ok (.aload_n 0, 1) := by decide +kernel
theorem dX2_init_146 : decode cX2_init 146 = .ok (.new 64, 3) := by decide +kernel
theorem dX2_init_149 : decode cX2_init 149 = .ok (.dup, 1) := by decide +kernel
theorem dX2_init_150 : decode cX2_init 150 = .ok (.aload_n 0, 1) := by decide +kernel
theorem dX2_init_151 : decode cX2_init 151 = .ok (.getfield 50, 3) := by decide +kernel
theorem dX2_init_154 : decode cX2_init 154 = .ok (.arraylength, 1) := by decide +kernel
theorem dX2_init_155 : decode cX2_init 155 = .ok (.invokespecial 66, 3) := by decide +kernel
theorem dX2_init_158 : decode cX2_init 158 = .ok (.putfield 67, 3) := by decide +kernel
theorem dX2_init_161 : decode cX2_init 161 = .ok (.aload_n 0, 1) := by decide +kernel
theorem dX2_init_162 : decode cX2_init 162 = .ok (.iload_n 3, 1) := by decide +kernel
theorem dX2_init_163 : decode cX2_init 163 = .ok (.putfield 71, 3) := by decide +kernel
theorem dX2_init_166 : decode cX2_init 166 = .ok (.aload_n 0, 1) := by decide +kernel
theorem dX2_init_167 : decode cX2_init 167 = .ok (.iload 4, 2) := by decide +kernel
theorem dX2_init_169 : decode cX2_init 169 = .ok (.putfield 74, 3) := by decide +kernel
theorem dX2_init_172 : decode cX2_init 172 = .ok (.return_, 1) := by decide +kernel
theorem dX2_userAt_0 : decode cX2_userAt 0 = .ok (.iload_n 1, 1) := by decide +kernel
theorem dX2_userAt_1 : decode cX2_userAt 1 = .ok (.ifCond .lt 12, 3) := by decide +kernel
theorem dX2_userAt_4 : decode cX2_userAt 4 = .ok (.iload_n 1, 1) := by decide +kernel
theorem dX2_userAt_5 : decode cX2_userAt 5 = .ok (.aload_n 0, 1) := by decide +kernel
theorem dX2_userAt_6 : decode cX2_userAt 6 = .ok (.getfield 50, 3) := by decide +kernel
theorem dX2_userAt_9 : decode cX2_userAt 9 = .ok (.arraylength, 1) := by decide +kernel
theorem dX2_userAt_10 : decode cX2_userAt 10 = .ok (.if_icmp .lt 7, 3) := by decide +kernel
theorem dX2_userAt_13 : decode cX2_userAt 13 = .ok (.aconst_null, 1) := by decide +kernel
theorem dX2_userAt_14 : decode cX2_userAt 14 = .ok (.goto 9, 3) := by decide +kernel
theorem dX2_userAt_17 : decode cX2_userAt 17 = .ok (.aload_n 0, 1) := by decide +kernel
theorem dX2_userAt_18 : decode cX2_userAt 18 = .ok (.getfield 50, 3) := by decide +kernel
theorem dX2_userAt_21 : decode cX2_userAt 21 = .ok (.iload_n 1, 1) := by decide +kernel
theorem dX2_userAt_22 : decode cX2_userAt 22 = .ok (.aaload, 1) := by decide +kernel
theorem dX2_userAt_23 : decode cX2_userAt 23 = .ok (.areturn, 1) := by decide +kernel
theorem dX2_slotAt_0 : decode cX2_slotAt 0 = .ok (.iload_n 1, 1) := by decide +kernel
theorem dX2_slotAt_1 : decode cX2_slotAt 1 = .ok (.ifCond .lt 12, 3) := by decide +kernel
theorem dX2_slotAt_4 : decode cX2_slotAt 4 = .ok (.iload_n 1, 1) := by decide +kernel
theorem dX2_slotAt_5 : decode cX2_slotAt 5 = .ok (.aload_n 0, 1) := by decide +kernel
theorem dX2_slotAt_6 : decode cX2_slotAt 6 = .ok (.getfield 59, 3) := by decide +kernel
theorem dX2_slotAt_9 : decode cX2_slotAt 9 = .ok (.arraylength, 1) := by decide +kernel
theorem dX2_slotAt_10 : decode cX2_slotAt 10 = .ok (.if_icmp .lt 7, 3) := by decide +kernel
theorem dX2_slotAt_13 : decode cX2_slotAt 13 = .ok (.aconst_null, 1) := by decide +kernel
theorem dX2_slotAt_14 : decode cX2_slotAt 14 = .ok (.goto 9, 3) := by decide +kernel
theorem dX2_slotAt_17 : decode cX2_slotAt 17 = .ok (.aload_n 0, 1) := by decide +kernel
theorem dX2_slotAt_18 : decode cX2_slotAt 18 = .ok (.getfield 59, 3) := by decide +kernel
theorem dX2_slotAt_21 : decode cX2_slotAt 21 = .ok (.iload_n 1, 1) := by decide +kernel
theorem dX2_slotAt_22 : decode cX2_slotAt 22 = .ok (.aaload, 1) := by decide +kernel
theorem dX2_slotAt_23 : decode cX2_slotAt 23 = .ok (.areturn, 1) := by decide +kernel
theorem dX2_mayChange_0 : decode cX2_mayChange 0 = .ok (.aload_n 1, 1) := by decide +kernel
theorem dX2_mayChange_1 : decode cX2_mayChange 1 = .ok (.getfield 77, 3) := by decide +kernel
theorem dX2_mayChange_4 : decode cX2_mayChange 4 = .ok (.ifCond .eq 10, 3) := by decide +kernel
theorem dX2_mayChange_7 : decode cX2_mayChange 7 = .ok (.aload_n 1, 1) := by decide +kernel
theorem dX2_mayChange_8 : decode cX2_mayChange 8 = .ok (.invokevirtual 80, 3) := by decide +kernel
theorem dX2_mayChange_11 : decode cX2_mayChange 11 = .ok (.ifCond .eq 18, 3) := by decide +kernel
theorem dX2_mayChange_14 : decode cX2_mayChange 14 = .ok (.aload_n 0, 1) := by decide +kernel
theorem dX2_mayChange_15 : decode cX2_mayChange 15 = .ok (.getfield 12, 3) := by decide +kernel
theorem dX2_mayChange_18 : decode cX2_mayChange 18 = .ok (.aload_n 1, 1) := by decide +kernel
theorem dX2_mayChange_19 : decode cX2_mayChange 19 = .ok (.invokevirtual 84, 3) := by decide +kernel
theorem dX2_mayChange_22 : decode cX2_mayChange 22 = .ok (.ifCond .ne 7, 3) := by decide +kernel
theorem dX2_mayChange_25 : decode cX2_mayChange 25 = .ok (.iconst 1, 1) := by decide +kernel
theorem dX2_mayChange_26 : decode cX2_mayChange 26 = .ok (.goto 4, 3) := by decide +kernel
theorem dX2_mayChange_29 : decode cX2_mayChange 29 = .ok (.iconst 0, 1) := by decide +kernel
theorem dX2_mayChange_30 : decode cX2_mayChange 30 = .ok (.ireturn, 1) := by decide +kernel
theorem dX2_load_0 : decode cX2_load 0 = .ok (.aload_n 1, 1) := by decide +kernel
theorem dX2_load_1 : decode cX2_load 1 = .ok (.getfield 88, 3) := by decide +kernel
theorem dX2_load_4 : decode cX2_load 4 = .ok (.ifnull 10, 3) := by decide +kernel
theorem dX2_load_7 : decode cX2_load 7 = .ok (.aload_n 1, 1) := by decide +kernel
theorem dX2_load_8 : decode cX2_load 8 = .ok (.getfield 88, 3) := by decide +kernel
theorem dX2_load_11 : decode cX2_load 11 = .ok (.invokevirtual 92, 3) := by decide +kernel
theorem dX2_load_14 : decode cX2_load 14 = .ok (.aload_n 2, 1) := by decide +kernel
theorem dX2_load_15 : decode cX2_load 15 = .ok (.aload_n 1, 1) := by decide +kernel
theorem dX2_load_16 : decode cX2_load 16 = .ok (.getfield 95, 3) := by decide +kernel
theorem dX2_load_19 : decode cX2_load 19 = .ok (.invokevirtual 99, 3) := by decide +kernel
theorem dX2_load_22 : decode cX2_load 22 = .ok (.aload_n 1, 1) := by decide +kernel
theorem dX2_load_23 : decode cX2_load 23 = .ok (.invokevirtual 105, 3) := by decide +kernel
theorem dX2_load_26 : decode cX2_load 26 = .ok (.aload_n 1, 1) := by decide +kernel
theorem dX2_load_27 : decode cX2_load 27 = .ok (.bipush 6, 2) := by decide +kernel
theorem dX2_load_29 : decode cX2_load 29 = .ok (.putfield 77, 3) := by decide +kernel
theorem dX2_load_32 : decode cX2_load 32 = .ok (.return_, 1) := by decide +kernel
theorem dX2_makeReady_0 : decode cX2_makeReady 0 = .ok (.aload_n 1, 1) := by decide +kernel
theorem dX2_makeReady_1 : decode cX2_makeReady 1 = .ok (.iconst 1, 1) := by decide +kernel
theorem dX2_makeReady_2 : decode cX2_makeReady 2 = .ok (.putfield 77, 3) := by decide +kernel
theorem dX2_makeReady_5 : decode cX2_makeReady 5 = .ok (.aload_n 0, 1) := by decide +kernel
theorem dX2_makeReady_6 : decode cX2_makeReady 6 = .ok (.getfield 67, 3) := by decide +kernel
theorem dX2_makeReady_9 : decode cX2_makeReady 9 = .ok (.aload_n 1, 1) := by decide +kernel
theorem dX2_makeReady_10 : decode cX2_makeReady 10 = .ok (.invokevirtual 108, 3) := by decide +kernel
theorem dX2_makeReady_13 : decode cX2_makeReady 13 = .ok (.return_, 1) := by decide +kernel
theorem dX2_stop_0 : decode cX2_stop 0 = .ok (.aload_n 1, 1) := by decide +kernel
theorem dX2_stop_1 : decode cX2_stop 1 = .ok (.bipush 6, 2) := by decide +kernel
theorem dX2_stop_3 : decode cX2_stop 3 = .ok (.putfield 77, 3) := by decide +kernel
theorem dX2_stop_6 : decode cX2_stop 6 = .ok (.aload_n 0, 1) := by decide +kernel
theorem dX2_stop_7 : decode cX2_stop 7 = .ok (.getfield 67, 3) := by decide +kernel
theorem dX2_stop_10 : decode cX2_stop 10 = .ok (.aload_n 1, 1) := by decide +kernel
theorem dX2_stop_11 : decode cX2_stop 11 = .ok (.invokevirtual 112, 3) := by decide +kernel
theorem dX2_stop_14 : decode cX2_stop 14 = .ok (.aload_n 0, 1) := by decide +kernel
theorem dX2_stop_15 : decode cX2_stop 15 = .ok (.getfield 29, 3) := by decide +kernel
theorem dX2_stop_18 : decode cX2_stop 18 = .ok (.aload_n 1, 1) := by decide +kernel
theorem dX2_stop_19 : decode cX2_stop 19 = .ok (.if_acmp .ne 8, 3) := by decide +kernel
theorem dX2_stop_22 : decode cX2_stop 22 = .ok (.aload_n 0, 1) := by decide +kernel
theorem dX2_stop_23 : decode cX2_stop 23 = .ok (.aload_n 1, 1) := by decide +kernel
theorem dX2_stop_24 : decode cX2_stop 24 = .ok (.invokevirtual 115, 3) := by decide +kernel
theorem dX2_stop_27 : decode cX2_stop 27 = .ok (.return_, 1) := by decide +kernel
theorem dX2_press_0 : decode cX2_press 0 = .ok (.aload_n 1, 1) := by decide +kernel
theorem dX2_press_1 : decode cX2_press 1 = .ok (.getfield 118, 3) := by decide +kernel
theorem dX2_press_4 : decode cX2_press 4 = .ok (.invokevirtual 122, 3) := by decide +kernel
theorem dX2_press_7 : decode cX2_press 7 = .ok (.ifCond .eq 15, 3) := by decide +kernel
theorem dX2_press_10 : decode cX2_press 10 = .ok (.aload_n 1, 1) := by decide +kernel
theorem dX2_press_11 : decode cX2_press 11 = .ok (.dup, 1) := by decide +kernel
theorem dX2_press_12 : decode cX2_press 12 = .ok (.getfield 127, 3) := by decide +kernel
theorem dX2_press_15 : decode cX2_press 15 = .ok (.iconst 1, 1) := by decide +kernel
theorem dX2_press_16 : decode cX2_press 16 = .ok (.iadd, 1) := by decide +kernel
theorem dX2_press_17 : decode cX2_press 17 = .ok (.putfield 127, 3) := by decide +kernel
theorem dX2_press_20 : decode cX2_press 20 = .ok (.iconst 0, 1) := by decide +kernel
theorem dX2_press_21 : decode cX2_press 21 = .ok (.ireturn, 1) := by decide +kernel
theorem dX2_press_22 : decode cX2_press 22 = .ok (.aload_n 1, 1) := by decide +kernel
theorem dX2_press_23 : decode cX2_press 23 = .ok (.getfield 118, 3) := by decide +kernel
theorem dX2_press_26 : decode cX2_press 26 = .ok (.iload_n 2, 1) := by decide +kernel
theorem dX2_press_27 : decode cX2_press 27 = .ok (.invokevirtual 130, 3) := by decide +kernel
theorem dX2_press_30 : decode cX2_press 30 = .ok (.aload_n 1, 1) := by decide +kernel
theorem dX2_press_31 : decode cX2_press 31 = .ok (.getfield 77, 3) := by decide +kernel
theorem dX2_press_34 : decode cX2_press 34 = .ok (.iconst 2, 1) := by decide +kernel
theorem dX2_press_35 : decode cX2_press 35 = .ok (.if_icmp .ne 8, 3) := by decide +kernel
theorem dX2_press_38 : decode cX2_press 38 = .ok (.aload_n 0, 1) := by decide +kernel
theorem dX2_press_39 : decode cX2_press 39 = .ok (.aload_n 1, 1) := by decide +kernel
theorem dX2_press_40 : decode cX2_press 40 = .ok (.invokevirtual 132, 3) := by decide +kernel
theorem dX2_press_43 : decode cX2_press 43 = .ok (.iconst 1, 1) := by decide +kernel
theorem dX2_press_44 : decode cX2_press 44 = .ok (.ireturn, 1) := by decide +kernel
theorem dX2_tick_0 : decode cX2_tick 0 = .ok (.aload_n 0, 1) := by decide +kernel
theorem dX2_tick_1 : decode cX2_tick 1 = .ok (.dup, 1) := by decide +kernel
theorem dX2_tick_2 : decode cX2_tick 2 = .ok (.getfield 25, 3) := by decide +kernel
theorem dX2_tick_5 : decode cX2_tick 5 = .ok (.iconst 1, 1) := by decide +kernel
theorem dX2_tick_6 : decode cX2_tick 6 = .ok (.iadd, 1) := by decide +kernel
theorem dX2_tick_7 : decode cX2_tick 7 = .ok (.putfield 25, 3) := by decide +kernel
theorem dX2_tick_10 : decode cX2_tick 10 = .ok (.iconst 0, 1) := by decide +kernel
theorem dX2_tick_11 : decode cX2_tick 11 = .ok (.istore_n 1, 1) := by decide +kernel
theorem dX2_tick_12 : decode cX2_tick 12 = .ok (.iload_n 1, 1) := by decide +kernel
theorem dX2_tick_13 : decode cX2_tick 13 = .ok (.aload_n 0, 1) := by decide +kernel
theorem dX2_tick_14 : decode cX2_tick 14 = .ok (.getfield 50, 3) := by decide +kernel
theorem dX2_tick_17 : decode cX2_tick 17 = .ok (.arraylength, 1) := by decide +kernel
theorem dX2_tick_18 : decode cX2_tick 18 = .ok (.if_icmp .ge 39, 3) := by decide +kernel
theorem dX2_tick_21 : decode cX2_tick 21 = .ok (.aload_n 0, 1) := by decide +kernel
theorem dX2_tick_22 : decode cX2_tick 22 = .ok (.getfield 50, 3) := by decide +kernel
theorem dX2_tick_25 : decode cX2_tick 25 = .ok (.iload_n 1, 1) := by decide +kernel
theorem dX2_tick_26 : decode cX2_tick 26 = .ok (.aaload, 1) := by decide +kernel
theorem dX2_tick_27 : decode cX2_tick 27 = .ok (.astore_n 2, 1) := by decide +kernel
theorem dX2_tick_28 : decode cX2_tick 28 = .ok (.aload_n 2, 1) := by decide +kernel
theorem dX2_tick_29 : decode cX2_tick 29 = .ok (.getfield 77, 3) := by decide +kernel
theorem dX2_tick_32 : decode cX2_tick 32 = .ok (.iconst 4, 1) := by decide +kernel
theorem dX2_tick_33 : decode cX2_tick 33 = .ok (.if_icmp .eq 13, 3) := by decide +kernel
theorem dX2_tick_36 : decode cX2_tick 36 = .ok (.aload_n 2, 1) := by decide +kernel
theorem dX2_tick_37 : decode cX2_tick 37 = .ok (.getfield 135, 3) := by decide +kernel
theorem dX2_tick_40 : decode cX2_tick 40 = .ok (.getfield 138, 3) := by decide +kernel
theorem dX2_tick_43 : decode cX2_tick 43 = .ok (.ifCond .le 8, 3) := by decide +kernel
theorem dX2_tick_46 : decode cX2_tick 46 = .ok (.aload_n 0, 1) := by decide +kernel
theorem dX2_tick_47 : decode cX2_tick 47 = .ok (.aload_n 2, 1) := by decide +kernel
theorem dX2_tick_48 : decode cX2_tick 48 = .ok (.invokevirtual 141, 3) := by decide +kernel
theorem dX2_tick_51 : decode cX2_tick 51 = .ok (.iinc 1 1, 3) := by decide +kernel
theorem dX2_tick_54 : decode cX2_tick 54 = .ok (.goto (-42), 3) := by decide +kernel
theorem dX2_tick_57 : decode cX2_tick 57 = .ok (.aload_n 0, 1) := by decide +kernel
theorem dX2_tick_58 : decode cX2_tick 58 = .ok (.getfield 12, 3) := by decide +kernel
theorem dX2_tick_61 : decode cX2_tick 61 = .ok (.invokevirtual 144, 3) := by decide +kernel
theorem dX2_tick_64 : decode cX2_tick 64 = .ok (.ifCond .ne 31, 3) := by decide +kernel
theorem dX2_tick_67 : decode cX2_tick 67 = .ok (.aload_n 0, 1) := by decide +kernel
theorem dX2_tick_68 : decode cX2_tick 68 = .ok (.getfield 12, 3) := by decide +kernel
theorem dX2_tick_71 : decode cX2_tick 71 = .ok (.invokevirtual 147, 3) := by decide +kernel
theorem dX2_tick_74 : decode cX2_tick 74 = .ok (.ifCond .eq 21, 3) := by decide +kernel
theorem dX2_tick_77 : decode cX2_tick 77 = .ok (.aload_n 0, 1) := by decide +kernel
theorem dX2_tick_78 : decode cX2_tick 78 = .ok (.aload_n 0, 1) := by decide +kernel
theorem dX2_tick_79 : decode cX2_tick 79 = .ok (.getfield 12, 3) := by decide +kernel
theorem dX2_tick_82 : decode cX2_tick 82 = .ok (.getfield 150, 3) := by decide +kernel
theorem dX2_tick_85 : decode cX2_tick 85 = .ok (.aload_n 0, 1) := by decide +kernel
theorem dX2_tick_86 : decode cX2_tick 86 = .ok (.getfield 12, 3) := by decide +kernel
theorem dX2_tick_89 : decode cX2_tick 89 = .ok (.getfield 153, 3) := by decide +kernel
theorem dX2_tick_92 : decode cX2_tick 92 = .ok (.invokevirtual 154, 3) := by decide +kernel
theorem dX2_tick_95 : decode cX2_tick 95 = .ok (.aload_n 0, 1) := by decide +kernel
theorem dX2_tick_96 : decode cX2_tick 96 = .ok (.getfield 12, 3) := by decide +kernel
theorem dX2_tick_99 : decode cX2_tick 99 = .ok (.invokevirtual 144, 3) := by decide +kernel
theorem dX2_tick_102 : decode cX2_tick 102 = .ok (.ifCond .eq 7, 3) := by decide +kernel
theorem dX2_tick_105 : decode cX2_tick 105 = .ok (.aload_n 0, 1) := by decide +kernel
theorem dX2_tick_106 : decode cX2_tick 106 = .ok (.invokevirtual 158, 3) := by decide +kernel
theorem dX2_tick_109 : decode cX2_tick 109 = .ok (.aload_n 0, 1) := by decide +kernel
theorem dX2_tick_110 : decode cX2_tick 110 = .ok (.invokevirtual 161, 3) := by decide +kernel
theorem dX2_tick_113 : decode cX2_tick 113 = .ok (.return_, 1) := by decide +kernel
theorem dX2_attend_0 : decode cX2_attend 0 = .ok (.aload_n 1, 1) := by decide +kernel
theorem dX2_attend_1 : decode cX2_attend 1 = .ok (.getfield 77, 3) := by decide +kernel
theorem dX2_attend_4 : decode cX2_attend 4 = .ok (.iconst 4, 1) := by decide +kernel
theorem dX2_attend_5 : decode cX2_attend 5 = .ok (.if_icmp .ne 19, 3) := by decide +kernel
theorem dX2_attend_8 : decode cX2_attend 8 = .ok (.aload_n 0, 1) := by decide +kernel
theorem dX2_attend_9 : decode cX2_attend 9 = .ok (.getfield 25, 3) := by decide +kernel
theorem dX2_attend_12 : decode cX2_attend 12 = .ok (.aload_n 1, 1) := by decide +kernel
theorem dX2_attend_13 : decode cX2_attend 13 = .ok (.getfield 164, 3) := by decide +kernel
theorem dX2_attend_16 : decode cX2_attend 16 = .ok (.if_icmp .lt 8, 3) := by decide +kernel
theorem dX2_attend_19 : decode cX2_attend 19 = .ok (.aload_n 0, 1) := by decide +kernel
theorem dX2_attend_20 : decode cX2_attend 20 = .ok (.aload_n 1, 1) := by decide +kernel
theorem dX2_attend_21 : decode cX2_attend 21 = .ok (.invokevirtual 132, 3) := by decide +kernel
theorem dX2_attend_24 : decode cX2_attend 24 = .ok (.aload_n 1, 1) := by decide +kernel
theorem dX2_attend_25 : decode cX2_attend 25 = .ok (.getfield 135, 3) := by decide +kernel
theorem dX2_attend_28 : decode cX2_attend 28 = .ok (.invokevirtual 167, 3) := by decide +kernel
theorem dX2_attend_31 : decode cX2_attend 31 = .ok (.ifCond .ne 14, 3) := by decide +kernel
theorem dX2_attend_34 : decode cX2_attend 34 = .ok (.aload_n 0, 1) := by decide +kernel
theorem dX2_attend_35 : decode cX2_attend 35 = .ok (.getfield 25, 3) := by decide +kernel
theorem dX2_attend_38 : decode cX2_attend 38 = .ok (.aload_n 1, 1) := by decide +kernel
theorem dX2_attend_39 : decode cX2_attend 39 = .ok (.getfield 170, 3) := by decide +kernel
theorem dX2_attend_42 : decode cX2_attend 42 = .ok (.if_icmp .ge 4, 3) := by decide +kernel
theorem dX2_attend_45 : decode cX2_attend 45 = .ok (.return_, 1) := by decide +kernel
theorem dX2_attend_46 : decode cX2_attend 46 = .ok (.aload_n 1, 1) := by decide +kernel
theorem dX2_attend_47 : decode cX2_attend 47 = .ok (.invokevirtual 173, 3) := by decide +kernel
theorem dX2_attend_50 : decode cX2_attend 50 = .ok (.aload_n 1, 1) := by decide +kernel
theorem dX2_attend_51 : decode cX2_attend 51 = .ok (.aload_n 0, 1) := by decide +kernel
theorem dX2_attend_52 : decode cX2_attend 52 = .ok (.getfield 25, 3) := by decide +kernel
theorem dX2_attend_55 : decode cX2_attend 55 = .ok (.aload_n 0, 1) := by decide +kernel
theorem dX2_attend_56 : decode cX2_attend 56 = .ok (.getfield 74, 3) := by decide +kernel
theorem dX2_attend_59 : decode cX2_attend 59 = .ok (.iadd, 1) := by decide +kernel
theorem dX2_attend_60 : decode cX2_attend 60 = .ok (.putfield 170, 3) := by decide +kernel
theorem dX2_attend_63 : decode cX2_attend 63 = .ok (.aload_n 1, 1) := by decide +kernel
theorem dX2_attend_64 : decode cX2_attend 64 = .ok (.getfield 77, 3) := by decide +kernel
theorem dX2_attend_67 : decode cX2_attend 67 = .ok (.iconst 3, 1) := by decide +kernel
theorem dX2_attend_68 : decode cX2_attend 68 = .ok (.if_icmp .ne 8, 3) := by decide +kernel
theorem dX2_attend_71 : decode cX2_attend 71 = .ok (.aload_n 0, 1) := by decide +kernel
theorem dX2_attend_72 : decode cX2_attend 72 = .ok (.aload_n 1, 1) := by decide +kernel
theorem dX2_attend_73 : decode cX2_attend 73 = .ok (.invokevirtual 132, 3) := by decide +kernel
theorem dX2_attend_76 : decode cX2_attend 76 = .ok (.return_, 1) := by decide +kernel
theorem dX2_finishTask_0 : decode cX2_finishTask 0 = .ok (.aload_n 1, 1) := by decide +kernel
theorem dX2_finishTask_1 : decode cX2_finishTask 1 = .ok (.ifnull 7, 3) := by decide +kernel
theorem dX2_finishTask_4 : decode cX2_finishTask 4 = .ok (.aload_n 2, 1) := by decide +kernel
theorem dX2_finishTask_5 : decode cX2_finishTask 5 = .ok (.ifnonnull 4, 3) := by decide +kernel
theorem dX2_finishTask_8 : decode cX2_finishTask 8 = .ok (.return_, 1) := by decide +kernel
theorem dX2_finishTask_9 : decode cX2_finishTask 9 = .ok (.aload_n 0, 1) := by decide +kernel
theorem dX2_finishTask_10 : decode cX2_finishTask 10 = .ok (.getfield 12, 3) := by decide +kernel
theorem dX2_finishTask_13 : decode cX2_finishTask 13 = .ok (.iconst 0, 1) := by decide +kernel
theorem dX2_finishTask_14 : decode cX2_finishTask 14 = .ok (.putfield 176, 3) := by decide +kernel
theorem dX2_finishTask_17 : decode cX2_finishTask 17 = .ok (.aload_n 0, 1) := by decide +kernel
theorem dX2_finishTask_18 : decode cX2_finishTask 18 = .ok (.getfield 12, 3) := by decide +kernel
theorem dX2_finishTask_21 : decode cX2_finishTask 21 = .ok (.getfield 180, 3) := by decide +kernel
theorem dX2_finishTask_24 : decode cX2_finishTask 24 = .ok (.iconst 1, 1) := by decide +kernel
theorem dX2_finishTask_25 : decode cX2_finishTask 25 = .ok (.if_icmp .ne 23, 3) := by decide +kernel
theorem dX2_finishTask_28 : decode cX2_finishTask 28 = .ok (.aload_n 2, 1) := by decide +kernel
theorem dX2_finishTask_29 : decode cX2_finishTask 29 = .ok (.invokevirtual 92, 3) := by decide +kernel
theorem dX2_finishTask_32 : decode cX2_finishTask 32 = .ok (.aload_n 0, 1) := by decide +kernel
theorem dX2_finishTask_33 : decode cX2_finishTask 33 = .ok (.getfield 12, 3) := by decide +kernel
theorem dX2_finishTask_36 : decode cX2_finishTask 36 = .ok (.dup, 1) := by decide +kernel
theorem dX2_finishTask_37 : decode cX2_finishTask 37 = .ok (.getfield 183, 3) := by decide +kernel
theorem dX2_finishTask_40 : decode cX2_finishTask 40 = .ok (.iconst 1, 1) := by decide +kernel
theorem dX2_finishTask_41 : decode cX2_finishTask 41 = .ok (.iadd, 1) := by decide +kernel
theorem dX2_finishTask_42 : decode cX2_finishTask 42 = .ok (.putfield 183, 3) := by decide +kernel
theorem dX2_finishTask_45 : decode cX2_finishTask 45 = .ok (.goto 41, 3) := by decide +kernel
theorem dX2_finishTask_48 : decode cX2_finishTask 48 = .ok (.aload_n 0, 1) := by decide +kernel
theorem dX2_finishTask_49 : decode cX2_finishTask 49 = .ok (.getfield 12, 3) := by decide +kernel
theorem dX2_finishTask_52 : decode cX2_finishTask 52 = .ok (.getfield 180, 3) := by decide +kernel
theorem dX2_finishTask_55 : decode cX2_finishTask 55 = .ok (.iconst 2, 1) := by decide +kernel
theorem dX2_finishTask_56 : decode cX2_finishTask 56 = .ok (.if_icmp .ne 24, 3) := by decide +kernel
theorem dX2_finishTask_59 : decode cX2_finishTask 59 = .ok (.aload_n 2, 1) := by decide +kernel
theorem dX2_finishTask_60 : decode cX2_finishTask 60 = .ok (.aload_n 1, 1) := by decide +kernel
theorem dX2_finishTask_61 : decode cX2_finishTask 61 = .ok (.invokevirtual 186, 3) := by decide +kernel
theorem dX2_finishTask_64 : decode cX2_finishTask 64 = .ok (.aload_n 0, 1) := by decide +kernel
theorem dX2_finishTask_65 : decode cX2_finishTask 65 = .ok (.getfield 12, 3) := by decide +kernel
theorem dX2_finishTask_68 : decode cX2_finishTask 68 = .ok (.dup, 1) := by decide +kernel
theorem dX2_finishTask_69 : decode cX2_finishTask 69 = .ok (.getfield 189, 3) := by decide +kernel
theorem dX2_finishTask_72 : decode cX2_finishTask 72 = .ok (.iconst 1, 1) := by decide +kernel
theorem dX2_finishTask_73 : decode cX2_finishTask 73 = .ok (.iadd, 1) := by decide +kernel
theorem dX2_finishTask_74 : decode cX2_finishTask 74 = .ok (.putfield 189, 3) := by decide +kernel
theorem dX2_finishTask_77 : decode cX2_finishTask 77 = .ok (.goto 9, 3) := by decide +kernel
theorem dX2_finishTask_80 : decode cX2_finishTask 80 = .ok (.aload_n 0, 1) := by decide +kernel
theorem dX2_finishTask_81 : decode cX2_finishTask 81 = .ok (.aload_n 1, 1) := by decide +kernel
theorem dX2_finishTask_82 : decode cX2_finishTask 82 = .ok (.aload_n 2, 1) := by decide +kernel
theorem dX2_finishTask_83 : decode cX2_finishTask 83 = .ok (.invokevirtual 192, 3) := by decide +kernel
theorem dX2_finishTask_86 : decode cX2_finishTask 86 = .ok (.aload_n 0, 1) := by decide +kernel
theorem dX2_finishTask_87 : decode cX2_finishTask 87 = .ok (.getfield 12, 3) := by decide +kernel
theorem dX2_finishTask_90 : decode cX2_finishTask 90 = .ok (.invokevirtual 195, 3) := by decide +kernel
theorem dX2_finishTask_93 : decode cX2_finishTask 93 = .ok (.return_, 1) := by decide +kernel
theorem dX2_finishBlock_0 : decode cX2_finishBlock 0 = .ok (.aload_n 0, 1) := by decide +kernel
theorem dX2_finishBlock_1 : decode cX2_finishBlock 1 = .ok (.getfield 12, 3) := by decide +kernel
theorem dX2_finishBlock_4 : decode cX2_finishBlock 4 = .ok (.iconst 1, 1) := by decide +kernel
theorem dX2_finishBlock_5 : decode cX2_finishBlock 5 = .ok (.putfield 176, 3) := by decide +kernel
theorem dX2_finishBlock_8 : decode cX2_finishBlock 8 = .ok (.aload_n 0, 1) := by decide +kernel
theorem dX2_finishBlock_9 : decode cX2_finishBlock 9 = .ok (.getfield 12, 3) := by decide +kernel
theorem dX2_finishBlock_12 : decode cX2_finishBlock 12 = .ok (.dup, 1) := by decide +kernel
theorem dX2_finishBlock_13 : decode cX2_finishBlock 13 = .ok (.getfield 198, 3) := by decide +kernel
theorem dX2_finishBlock_16 : decode cX2_finishBlock 16 = .ok (.iconst 1, 1) := by decide +kernel
theorem dX2_finishBlock_17 : decode cX2_finishBlock 17 = .ok (.iadd, 1) := by decide +kernel
theorem dX2_finishBlock_18 : decode cX2_finishBlock 18 = .ok (.putfield 198, 3) := by decide +kernel
theorem dX2_finishBlock_21 : decode cX2_finishBlock 21 = .ok (.aload_n 1, 1) := by decide +kernel
theorem dX2_finishBlock_22 : decode cX2_finishBlock 22 = .ok (.iconst 0, 1) := by decide +kernel
theorem dX2_finishBlock_23 : decode cX2_finishBlock 23 = .ok (.putfield 201, 3) := by decide +kernel
theorem dX2_finishBlock_26 : decode cX2_finishBlock 26 = .ok (.aload_n 1, 1) := by decide +kernel
theorem dX2_finishBlock_27 : decode cX2_finishBlock 27 = .ok (.dup, 1) := by decide +kernel
theorem dX2_finishBlock_28 : decode cX2_finishBlock 28 = .ok (.getfield 204, 3) := by decide +kernel
theorem dX2_finishBlock_31 : decode cX2_finishBlock 31 = .ok (.iconst 1, 1) := by decide +kernel
theorem dX2_finishBlock_32 : decode cX2_finishBlock 32 = .ok (.iadd, 1) := by decide +kernel
theorem dX2_finishBlock_33 : decode cX2_finishBlock 33 = .ok (.putfield 204, 3) := by decide +kernel
theorem dX2_finishBlock_36 : decode cX2_finishBlock 36 = .ok (.aload_n 0, 1) := by decide +kernel
theorem dX2_finishBlock_37 : decode cX2_finishBlock 37 = .ok (.dup, 1) := by decide +kernel
theorem dX2_finishBlock_38 : decode cX2_finishBlock 38 = .ok (.getfield 39, 3) := by decide +kernel
theorem dX2_finishBlock_41 : decode cX2_finishBlock 41 = .ok (.iconst 1, 1) := by decide +kernel
theorem dX2_finishBlock_42 : decode cX2_finishBlock 42 = .ok (.iadd, 1) := by decide +kernel
theorem dX2_finishBlock_43 : decode cX2_finishBlock 43 = .ok (.putfield 39, 3) := by decide +kernel
theorem dX2_finishBlock_46 : decode cX2_finishBlock 46 = .ok (.aload_n 2, 1) := by decide +kernel
theorem dX2_finishBlock_47 : decode cX2_finishBlock 47 = .ok (.iconst 1, 1) := by decide +kernel
theorem dX2_finishBlock_48 : decode cX2_finishBlock 48 = .ok (.putfield 205, 3) := by decide +kernel
theorem dX2_finishBlock_51 : decode cX2_finishBlock 51 = .ok (.aload_n 0, 1) := by decide +kernel
theorem dX2_finishBlock_52 : decode cX2_finishBlock 52 = .ok (.aload_n 1, 1) := by decide +kernel
theorem dX2_finishBlock_53 : decode cX2_finishBlock 53 = .ok (.invokevirtual 132, 3) := by decide +kernel
theorem dX2_finishBlock_56 : decode cX2_finishBlock 56 = .ok (.return_, 1) := by decide +kernel
theorem dX2_lookForTask_0 : decode cX2_lookForTask 0 = .ok (.aload_n 0, 1) := by decide +kernel
theorem dX2_lookForTask_1 : decode cX2_lookForTask 1 = .ok (.getfield 12, 3) := by decide +kernel
theorem dX2_lookForTask_4 : decode cX2_lookForTask 4 = .ok (.getfield 176, 3) := by decide +kernel
theorem dX2_lookForTask_7 : decode cX2_lookForTask 7 = .ok (.ifCond .eq 18, 3) := by decide +kernel
theorem dX2_lookForTask_10 : decode cX2_lookForTask 10 = .ok (.aload_n 0, 1) := by decide +kernel
theorem dX2_lookForTask_11 : decode cX2_lookForTask 11 = .ok (.invokevirtual 208, 3) := by decide +kernel
theorem dX2_lookForTask_14 : decode cX2_lookForTask 14 = .ok (.ifCond .ne 23, 3) := by decide +kernel
theorem dX2_lookForTask_17 : decode cX2_lookForTask 17 = .ok (.aload_n 0, 1) := by decide +kernel
theorem dX2_lookForTask_18 : decode cX2_lookForTask 18 = .ok (.invokevirtual 211, 3) := by decide +kernel
theorem dX2_lookForTask_21 : decode cX2_lookForTask 21 = .ok (.pop, 1) := by decide +kernel
theorem dX2_lookForTask_22 : decode cX2_lookForTask 22 = .ok (.goto 15, 3) := by decide +kernel
theorem dX2_lookForTask_25 : decode cX2_lookForTask 25 = .ok (.aload_n 0, 1) := by decide +kernel
theorem dX2_lookForTask_26 : decode cX2_lookForTask 26 = .ok (.invokevirtual 211, 3) := by decide +kernel
theorem dX2_lookForTask_29 : decode cX2_lookForTask 29 = .ok (.ifCond .ne 8, 3) := by decide +kernel
theorem dX2_lookForTask_32 : decode cX2_lookForTask 32 = .ok (.aload_n 0, 1) := by decide +kernel
theorem dX2_lookForTask_33 : decode cX2_lookForTask 33 = .ok (.invokevirtual 208, 3) := by decide +kernel
theorem dX2_lookForTask_36 : decode cX2_lookForTask 36 = .ok (.pop, 1) := by decide +kernel
theorem dX2_lookForTask_37 : decode cX2_lookForTask 37 = .ok (.return_, 1) := by decide +kernel
theorem dX2_serveBlocks_0 : decode cX2_serveBlocks 0 = .ok (.aconst_null, 1) := by decide +kernel
theorem dX2_serveBlocks_1 : decode cX2_serveBlocks 1 = .ok (.astore_n 1, 1) := by decide +kernel
theorem dX2_serveBlocks_2 : decode cX2_serveBlocks 2 = .ok (.iconst 0, 1) := by decide +kernel
theorem dX2_serveBlocks_3 : decode cX2_serveBlocks 3 = .ok (.istore_n 2, 1) := by decide +kernel
theorem dX2_serveBlocks_4 : decode cX2_serveBlocks 4 = .ok (.iload_n 2, 1) := by decide +kernel
theorem dX2_serveBlocks_5 : decode cX2_serveBlocks 5 = .ok (.aload_n 0, 1) := by decide +kernel
theorem dX2_serveBlocks_6 : decode cX2_serveBlocks 6 = .ok (.getfield 50, 3) := by decide +kernel
theorem dX2_serveBlocks_9 : decode cX2_serveBlocks 9 = .ok (.arraylength, 1) := by decide +kernel
theorem dX2_serveBlocks_10 : decode cX2_serveBlocks 10 = .ok (.if_icmp .ge 41, 3) := by decide +kernel
theorem dX2_serveBlocks_13 : decode cX2_serveBlocks 13 = .ok (.aload_n 0, 1) := by decide +kernel
theorem dX2_serveBlocks_14 : decode cX2_serveBlocks 14 = .ok (.getfield 50, 3) := by decide +kernel
theorem dX2_serveBlocks_17 : decode cX2_serveBlocks 17 = .ok (.iload_n 2, 1) := by decide +kernel
theorem dX2_serveBlocks_18 : decode cX2_serveBlocks 18 = .ok (.aaload, 1) := by decide +kernel
theorem dX2_serveBlocks_19 : decode cX2_serveBlocks 19 = .ok (.astore_n 3, 1) := by decide +kernel
theorem dX2_serveBlocks_20 : decode cX2_serveBlocks 20 = .ok (.aload_n 3, 1) := by decide +kernel
theorem dX2_serveBlocks_21 : decode cX2_serveBlocks 21 = .ok (.getfield 77, 3) := by decide +kernel
theorem dX2_serveBlocks_24 : decode cX2_serveBlocks 24 = .ok (.iconst 5, 1) := by decide +kernel
theorem dX2_serveBlocks_25 : decode cX2_serveBlocks 25 = .ok (.if_icmp .ne 20, 3) := by decide +kernel
theorem dX2_serveBlocks_28 : decode cX2_serveBlocks 28 = .ok (.aload_n 1, 1) := by decide +kernel
theorem dX2_serveBlocks_29 : decode cX2_serveBlocks 29 = .ok (.ifnull 14, 3) := by decide +kernel
theorem dX2_serveBlocks_32 : decode cX2_serveBlocks 32 = .ok (.aload_n 3, 1) := by decide +kernel
theorem dX2_serveBlocks_33 : decode cX2_serveBlocks 33 = .ok (.getfield 214, 3) := by decide +kernel
theorem dX2_serveBlocks_36 : decode cX2_serveBlocks 36 = .ok (.aload_n 1, 1) := by decide +kernel
theorem dX2_serveBlocks_37 : decode cX2_serveBlocks 37 = .ok (.getfield 214, 3) := by decide +kernel
theorem dX2_serveBlocks_40 : decode cX2_serveBlocks 40 = .ok (.if_icmp .ge 5, 3) := by decide +kernel
theorem dX2_serveBlocks_43 : decode cX2_serveBlocks 43 = .ok (.aload_n 3, 1) := by decide +kernel
theorem dX2_serveBlocks_44 : decode cX2_serveBlocks 44 = .ok (.astore_n 1, 1) := by decide +kernel
theorem dX2_serveBlocks_45 : decode cX2_serveBlocks 45 = .ok (.iinc 2 1, 3) := by decide +kernel
theorem dX2_serveBlocks_48 : decode cX2_serveBlocks 48 = .ok (.goto (-44), 3) := by decide +kernel
theorem dX2_serveBlocks_51 : decode cX2_serveBlocks 51 = .ok (.aload_n 1, 1) := by decide +kernel
theorem dX2_serveBlocks_52 : decode cX2_serveBlocks 52 = .ok (.ifnull 10, 3) := by decide +kernel
theorem dX2_serveBlocks_55 : decode cX2_serveBlocks 55 = .ok (.aload_n 1, 1) := by decide +kernel
theorem dX2_serveBlocks_56 : decode cX2_serveBlocks 56 = .ok (.getfield 88, 3) := by decide +kernel
theorem dX2_serveBlocks_59 : decode cX2_serveBlocks 59 = .ok (.ifnonnull 5, 3) := by decide +kernel
theorem dX2_serveBlocks_62 : decode cX2_serveBlocks 62 = .ok (.iconst 0, 1) := by decide +kernel
theorem dX2_serveBlocks_63 : decode cX2_serveBlocks 63 = .ok (.ireturn, 1) := by decide +kernel
theorem dX2_serveBlocks_64 : decode cX2_serveBlocks 64 = .ok (.aload_n 0, 1) := by decide +kernel
theorem dX2_serveBlocks_65 : decode cX2_serveBlocks 65 = .ok (.getfield 12, 3) := by decide +kernel
theorem dX2_serveBlocks_68 : decode cX2_serveBlocks 68 = .ok (.aload_n 1, 1) := by decide +kernel
theorem dX2_serveBlocks_69 : decode cX2_serveBlocks 69 = .ok (.getfield 217, 3) := by decide +kernel
theorem dX2_serveBlocks_72 : decode cX2_serveBlocks 72 = .ok (.aload_n 1, 1) := by decide +kernel
theorem dX2_serveBlocks_73 : decode cX2_serveBlocks 73 = .ok (.aload_n 1, 1) := by decide +kernel
theorem dX2_serveBlocks_74 : decode cX2_serveBlocks 74 = .ok (.getfield 88, 3) := by decide +kernel
theorem dX2_serveBlocks_77 : decode cX2_serveBlocks 77 = .ok (.invokevirtual 220, 3) := by decide +kernel
theorem dX2_serveBlocks_80 : decode cX2_serveBlocks 80 = .ok (.iconst 1, 1) := by decide +kernel
theorem dX2_serveBlocks_81 : decode cX2_serveBlocks 81 = .ok (.ireturn, 1) := by decide +kernel
theorem dX2_serveQueue_0 : decode cX2_serveQueue 0 = .ok (.aload_n 0, 1) := by decide +kernel
theorem dX2_serveQueue_1 : decode cX2_serveQueue 1 = .ok (.invokevirtual 224, 3) := by decide +kernel
theorem dX2_serveQueue_4 : decode cX2_serveQueue 4 = .ok (.astore_n 1, 1) := by decide +kernel
theorem dX2_serveQueue_5 : decode cX2_serveQueue 5 = .ok (.aload_n 1, 1) := by decide +kernel
theorem dX2_serveQueue_6 : decode cX2_serveQueue 6 = .ok (.ifnonnull 5, 3) := by decide +kernel
theorem dX2_serveQueue_9 : decode cX2_serveQueue 9 = .ok (.iconst 0, 1) := by decide +kernel
theorem dX2_serveQueue_10 : decode cX2_serveQueue 10 = .ok (.ireturn, 1) := by decide +kernel
theorem dX2_serveQueue_11 : decode cX2_serveQueue 11 = .ok (.aload_n 0, 1) := by decide +kernel
theorem dX2_serveQueue_12 : decode cX2_serveQueue 12 = .ok (.invokevirtual 228, 3) := by decide +kernel
theorem dX2_serveQueue_15 : decode cX2_serveQueue 15 = .ok (.astore_n 2, 1) := by decide +kernel
theorem dX2_serveQueue_16 : decode cX2_serveQueue 16 = .ok (.aload_n 2, 1) := by decide +kernel
theorem dX2_serveQueue_17 : decode cX2_serveQueue 17 = .ok (.ifnonnull 8, 3) := by decide +kernel
theorem dX2_serveQueue_20 : decode cX2_serveQueue 20 = .ok (.aload_n 0, 1) := by decide +kernel
theorem dX2_serveQueue_21 : decode cX2_serveQueue 21 = .ok (.invokevirtual 232, 3) := by decide +kernel
theorem dX2_serveQueue_24 : decode cX2_serveQueue 24 = .ok (.astore_n 2, 1) := by decide +kernel
theorem dX2_serveQueue_25 : decode cX2_serveQueue 25 = .ok (.aload_n 2, 1) := by decide +kernel
theorem dX2_serveQueue_26 : decode cX2_serveQueue 26 = .ok (.ifnonnull 5, 3) := by decide +kernel
theorem dX2_serveQueue_29 : decode cX2_serveQueue 29 = .ok (.iconst 0, 1) := by decide +kernel
theorem dX2_serveQueue_30 : decode cX2_serveQueue 30 = .ok (.ireturn, 1) := by decide +kernel
theorem dX2_serveQueue_31 : decode cX2_serveQueue 31 = .ok (.aload_n 2, 1) := by decide +kernel
theorem dX2_serveQueue_32 : decode cX2_serveQueue 32 = .ok (.getfield 235, 3) := by decide +kernel
theorem dX2_serveQueue_35 : decode cX2_serveQueue 35 = .ok (.ifCond .eq 18, 3) := by decide +kernel
theorem dX2_serveQueue_38 : decode cX2_serveQueue 38 = .ok (.aload_n 0, 1) := by decide +kernel
theorem dX2_serveQueue_39 : decode cX2_serveQueue 39 = .ok (.getfield 12, 3) := by decide +kernel
theorem dX2_serveQueue_42 : decode cX2_serveQueue 42 = .ok (.iconst 1, 1) := by decide +kernel
theorem dX2_serveQueue_43 : decode cX2_serveQueue 43 = .ok (.aload_n 2, 1) := by decide +kernel
theorem dX2_serveQueue_44 : decode cX2_serveQueue 44 = .ok (.getfield 238, 3) := by decide +kernel
theorem dX2_serveQueue_47 : decode cX2_serveQueue 47 = .ok (.aload_n 2, 1) := by decide +kernel
theorem dX2_serveQueue_48 : decode cX2_serveQueue 48 = .ok (.invokevirtual 220, 3) := by decide +kernel
theorem dX2_serveQueue_51 : decode cX2_serveQueue 51 = .ok (.iconst 1, 1) := by decide +kernel
theorem dX2_serveQueue_52 : decode cX2_serveQueue 52 = .ok (.ireturn, 1) := by decide +kernel
theorem dX2_serveQueue_53 : decode cX2_serveQueue 53 = .ok (.aload_n 2, 1) := by decide +kernel
theorem dX2_serveQueue_54 : decode cX2_serveQueue 54 = .ok (.invokevirtual 92, 3) := by decide +kernel
theorem dX2_serveQueue_57 : decode cX2_serveQueue 57 = .ok (.aload_n 0, 1) := by decide +kernel
theorem dX2_serveQueue_58 : decode cX2_serveQueue 58 = .ok (.getfield 12, 3) := by decide +kernel
theorem dX2_serveQueue_61 : decode cX2_serveQueue 61 = .ok (.iconst 2, 1) := by decide +kernel
theorem dX2_serveQueue_62 : decode cX2_serveQueue 62 = .ok (.aload_n 1, 1) := by decide +kernel
theorem dX2_serveQueue_63 : decode cX2_serveQueue 63 = .ok (.aload_n 2, 1) := by decide +kernel
theorem dX2_serveQueue_64 : decode cX2_serveQueue 64 = .ok (.invokevirtual 220, 3) := by decide +kernel
theorem dX2_serveQueue_67 : decode cX2_serveQueue 67 = .ok (.iconst 1, 1) := by decide +kernel
theorem dX2_serveQueue_68 : decode cX2_serveQueue 68 = .ok (.ireturn, 1) := by decide +kernel
theorem dX2_firstWithoutSlot_0 : decode cX2_firstWithoutSlot 0 = .ok (.iconst 0, 1) := by decide +kernel
theorem dX2_firstWithoutSlot_1 : decode cX2_firstWithoutSlot 1 = .ok (.istore_n 1, 1) := by decide +kernel
theorem dX2_firstWithoutSlot_2 : decode cX2_firstWithoutSlot 2 = .ok (.iload_n 1, 1) := by decide +kernel
theorem dX2_firstWithoutSlot_3 : decode cX2_firstWithoutSlot 3 = .ok (.aload_n 0, 1) := by decide +kernel
theorem dX2_firstWithoutSlot_4 : decode cX2_firstWithoutSlot 4 = .ok (.getfield 67, 3) := by decide +kernel
theorem dX2_firstWithoutSlot_7 : decode cX2_firstWithoutSlot 7 = .ok (.getfield 241, 3) := by decide +kernel
theorem dX2_firstWithoutSlot_10 : decode cX2_firstWithoutSlot 10 = .ok (.if_icmp .ge 31, 3) := by decide +kernel
theorem dX2_firstWithoutSlot_13 : decode cX2_firstWithoutSlot 13 = .ok (.aload_n 0, 1) := by decide +kernel
theorem dX2_firstWithoutSlot_14 : decode cX2_firstWithoutSlot 14 = .ok (.getfield 67, 3) := by decide +kernel
theorem dX2_firstWithoutSlot_17 : decode cX2_firstWithoutSlot 17 = .ok (.iload_n 1, 1) := by decide +kernel
theorem dX2_firstWithoutSlot_18 : decode cX2_firstWithoutSlot 18 = .ok (.invokevirtual 242, 3) := by decide +kernel
theorem dX2_firstWithoutSlot_21 : decode cX2_firstWithoutSlot 21 = .ok (.astore_n 2, 1) := by decide +kernel
theorem dX2_firstWithoutSlot_22 : decode cX2_firstWithoutSlot 22 = .ok (.aload_n 2, 1) := by decide +kernel
theorem dX2_firstWithoutSlot_23 : decode cX2_firstWithoutSlot 23 = .ok (.ifnull 12, 3) := by decide +kernel
theorem dX2_firstWithoutSlot_26 : decode cX2_firstWithoutSlot 26 = .ok (.aload_n 2, 1) := by decide +kernel
theorem dX2_firstWithoutSlot_27 : decode cX2_firstWithoutSlot 27 = .ok (.getfield 88, 3) := by decide +kernel
theorem dX2_firstWithoutSlot_30 : decode cX2_firstWithoutSlot 30 = .ok (.ifnonnull 5, 3) := by decide +kernel
theorem dX2_firstWithoutSlot_33 : decode cX2_firstWithoutSlot 33 = .ok (.aload_n 2, 1) := by decide +kernel
theorem dX2_firstWithoutSlot_34 : decode cX2_firstWithoutSlot 34 = .ok (.areturn, 1) := by decide +kernel
theorem dX2_firstWithoutSlot_35 : decode cX2_firstWithoutSlot 35 = .ok (.iinc 1 1, 3) := by decide +kernel
theorem dX2_firstWithoutSlot_38 : decode cX2_firstWithoutSlot 38 = .ok (.goto (-36), 3) := by decide +kernel
theorem dX2_firstWithoutSlot_41 : decode cX2_firstWithoutSlot 41 = .ok (.aconst_null, 1) := by decide +kernel
theorem dX2_firstWithoutSlot_42 : decode cX2_firstWithoutSlot 42 = .ok (.areturn, 1) := by decide +kernel
theorem dX2_freeSlot_0 : decode cX2_freeSlot 0 = .ok (.iconst 0, 1) := by decide +kernel
theorem dX2_freeSlot_1 : decode cX2_freeSlot 1 = .ok (.istore_n 1, 1) := by decide +kernel
theorem dX2_freeSlot_2 : decode cX2_freeSlot 2 = .ok (.iload_n 1, 1) := by decide +kernel
theorem dX2_freeSlot_3 : decode cX2_freeSlot 3 = .ok (.aload_n 0, 1) := by decide +kernel
theorem dX2_freeSlot_4 : decode cX2_freeSlot 4 = .ok (.getfield 59, 3) := by decide +kernel
theorem dX2_freeSlot_7 : decode cX2_freeSlot 7 = .ok (.arraylength, 1) := by decide +kernel
theorem dX2_freeSlot_8 : decode cX2_freeSlot 8 = .ok (.if_icmp .ge 28, 3) := by decide +kernel
theorem dX2_freeSlot_11 : decode cX2_freeSlot 11 = .ok (.aload_n 0, 1) := by decide +kernel
theorem dX2_freeSlot_12 : decode cX2_freeSlot 12 = .ok (.getfield 59, 3) := by decide +kernel
theorem dX2_freeSlot_15 : decode cX2_freeSlot 15 = .ok (.iload_n 1, 1) := by decide +kernel
theorem dX2_freeSlot_16 : decode cX2_freeSlot 16 = .ok (.aaload, 1) := by decide +kernel
theorem dX2_freeSlot_17 : decode cX2_freeSlot 17 = .ok (.getfield 238, 3) := by decide +kernel
theorem dX2_freeSlot_20 : decode cX2_freeSlot 20 = .ok (.ifnonnull 10, 3) := by decide +kernel
theorem dX2_freeSlot_23 : decode cX2_freeSlot 23 = .ok (.aload_n 0, 1) := by decide +kernel
theorem dX2_freeSlot_24 : decode cX2_freeSlot 24 = .ok (.getfield 59, 3) := by decide +kernel
theorem dX2_freeSlot_27 : decode cX2_freeSlot 27 = .ok (.iload_n 1, 1) := by decide +kernel
theorem dX2_freeSlot_28 : decode cX2_freeSlot 28 = .ok (.aaload, 1) := by decide +kernel
theorem dX2_freeSlot_29 : decode cX2_freeSlot 29 = .ok (.areturn, 1) := by decide +kernel
theorem dX2_freeSlot_30 : decode cX2_freeSlot 30 = .ok (.iinc 1 1, 3) := by decide +kernel
theorem dX2_freeSlot_33 : decode cX2_freeSlot 33 = .ok (.goto (-31), 3) := by decide +kernel
theorem dX2_freeSlot_36 : decode cX2_freeSlot 36 = .ok (.aconst_null, 1) := by decide +kernel
theorem dX2_freeSlot_37 : decode cX2_freeSlot 37 = .ok (.areturn, 1) := by decide +kernel
theorem dX2_slotToClear_0 : decode cX2_slotToClear 0 = .ok (.aconst_null, 1) := by decide +kernel
theorem dX2_slotToClear_1 : decode cX2_slotToClear 1 = .ok (.astore_n 1, 1) := by decide +kernel
theorem dX2_slotToClear_2 : decode cX2_slotToClear 2 = .ok (.iconst 0, 1) := by decide +kernel
theorem dX2_slotToClear_3 : decode cX2_slotToClear 3 = .ok (.istore_n 2, 1) := by decide +kernel
theorem dX2_slotToClear_4 : decode cX2_slotToClear 4 = .ok (.iload_n 2, 1) := by decide +kernel
theorem dX2_slotToClear_5 : decode cX2_slotToClear 5 = .ok (.aload_n 0, 1) := by decide +kernel
theorem dX2_slotToClear_6 : decode cX2_slotToClear 6 = .ok (.getfield 59, 3) := by decide +kernel
theorem dX2_slotToClear_9 : decode cX2_slotToClear 9 = .ok (.arraylength, 1) := by decide +kernel
theorem dX2_slotToClear_10 : decode cX2_slotToClear 10 = .ok (.if_icmp .ge 80, 3) := by decide +kernel
theorem dX2_slotToClear_13 : decode cX2_slotToClear 13 = .ok (.aload_n 0, 1) := by decide +kernel
theorem dX2_slotToClear_14 : decode cX2_slotToClear 14 = .ok (.getfield 59, 3) := by decide +kernel
theorem dX2_slotToClear_17 : decode cX2_slotToClear 17 = .ok (.iload_n 2, 1) := by decide +kernel
theorem dX2_slotToClear_18 : decode cX2_slotToClear 18 = .ok (.aaload, 1) := by decide +kernel
theorem dX2_slotToClear_19 : decode cX2_slotToClear 19 = .ok (.getfield 238, 3) := by decide +kernel
theorem dX2_slotToClear_22 : decode cX2_slotToClear 22 = .ok (.astore_n 3, 1) := by decide +kernel
theorem dX2_slotToClear_23 : decode cX2_slotToClear 23 = .ok (.aload_n 3, 1) := by decide +kernel
theorem dX2_slotToClear_24 : decode cX2_slotToClear 24 = .ok (.ifnull 60, 3) := by decide +kernel
theorem dX2_slotToClear_27 : decode cX2_slotToClear 27 = .ok (.aload_n 3, 1) := by decide +kernel
theorem dX2_slotToClear_28 : decode cX2_slotToClear 28 = .ok (.getfield 77, 3) := by decide +kernel
theorem dX2_slotToClear_31 : decode cX2_slotToClear 31 = .ok (.iconst 5, 1) := by decide +kernel
theorem dX2_slotToClear_32 : decode cX2_slotToClear 32 = .ok (.if_icmp .ne 6, 3) := by decide +kernel
theorem dX2_slotToClear_35 : decode cX2_slotToClear 35 = .ok (.goto 49, 3) := by decide +kernel
theorem dX2_slotToClear_38 : decode cX2_slotToClear 38 = .ok (.aload_n 3, 1) := by decide +kernel
theorem dX2_slotToClear_39 : decode cX2_slotToClear 39 = .ok (.getfield 77, 3) := by decide +kernel
theorem dX2_slotToClear_42 : decode cX2_slotToClear 42 = .ok (.iconst 1, 1) := by decide +kernel
theorem dX2_slotToClear_43 : decode cX2_slotToClear 43 = .ok (.if_icmp .eq 10, 3) := by decide +kernel
theorem dX2_slotToClear_46 : decode cX2_slotToClear 46 = .ok (.aload_n 0, 1) := by decide +kernel
theorem dX2_slotToClear_47 : decode cX2_slotToClear 47 = .ok (.getfield 59, 3) := by decide +kernel
theorem dX2_slotToClear_50 : decode cX2_slotToClear 50 = .ok (.iload_n 2, 1) := by decide +kernel
theorem dX2_slotToClear_51 : decode cX2_slotToClear 51 = .ok (.aaload, 1) := by decide +kernel
theorem dX2_slotToClear_52 : decode cX2_slotToClear 52 = .ok (.areturn, 1) := by decide +kernel
theorem dX2_slotToClear_53 : decode cX2_slotToClear 53 = .ok (.aload_n 1, 1) := by decide +kernel
theorem dX2_slotToClear_54 : decode cX2_slotToClear 54 = .ok (.ifnonnull 30, 3) := by decide +kernel
theorem dX2_slotToClear_57 : decode cX2_slotToClear 57 = .ok (.aload_n 0, 1) := by decide +kernel
theorem dX2_slotToClear_58 : decode cX2_slotToClear 58 = .ok (.getfield 59, 3) := by decide +kernel
theorem dX2_slotToClear_61 : decode cX2_slotToClear 61 = .ok (.iload_n 2, 1) := by decide +kernel
theorem dX2_slotToClear_62 : decode cX2_slotToClear 62 = .ok (.aaload, 1) := by decide +kernel
theorem dX2_slotToClear_63 : decode cX2_slotToClear 63 = .ok (.getfield 205, 3) := by decide +kernel
theorem dX2_slotToClear_66 : decode cX2_slotToClear 66 = .ok (.ifCond .eq 18, 3) := by decide +kernel
theorem dX2_slotToClear_69 : decode cX2_slotToClear 69 = .ok (.aload_n 3, 1) := by decide +kernel
theorem dX2_slotToClear_70 : decode cX2_slotToClear 70 = .ok (.aload_n 0, 1) := by decide +kernel
theorem dX2_slotToClear_71 : decode cX2_slotToClear 71 = .ok (.getfield 29, 3) := by decide +kernel
theorem dX2_slotToClear_74 : decode cX2_slotToClear 74 = .ok (.if_acmp .eq 10, 3) := by decide +kernel
theorem dX2_slotToClear_77 : decode cX2_slotToClear 77 = .ok (.aload_n 0, 1) := by decide +kernel
theorem dX2_slotToClear_78 : decode cX2_slotToClear 78 = .ok (.getfield 59, 3) := by decide +kernel
theorem dX2_slotToClear_81 : decode cX2_slotToClear 81 = .ok (.iload_n 2, 1) := by decide +kernel
theorem dX2_slotToClear_82 : decode cX2_slotToClear 82 = .ok (.aaload, 1) := by decide +kernel
theorem dX2_slotToClear_83 : decode cX2_slotToClear 83 = .ok (.astore_n 1, 1) := by decide +kernel
theorem dX2_slotToClear_84 : decode cX2_slotToClear 84 = .ok (.iinc 2 1, 3) := by decide +kernel
theorem dX2_slotToClear_87 : decode cX2_slotToClear 87 = .ok (.goto (-83), 3) := by decide +kernel
theorem dX2_slotToClear_90 : decode cX2_slotToClear 90 = .ok (.aload_n 1, 1) := by decide +kernel
theorem dX2_slotToClear_91 : decode cX2_slotToClear 91 = .ok (.areturn, 1) := by decide +kernel
theorem dX2_process_0 : decode cX2_process 0 = .ok (.aload_n 0, 1) := by decide +kernel
theorem dX2_process_1 : decode cX2_process 1 = .ok (.getfield 29, 3) := by decide +kernel
theorem dX2_process_4 : decode cX2_process 4 = .ok (.ifnonnull 7, 3) := by decide +kernel
theorem dX2_process_7 : decode cX2_process 7 = .ok (.aload_n 0, 1) := by decide +kernel
theorem dX2_process_8 : decode cX2_process 8 = .ok (.invokevirtual 246, 3) := by decide +kernel
theorem dX2_process_11 : decode cX2_process 11 = .ok (.aload_n 0, 1) := by decide +kernel
theorem dX2_process_12 : decode cX2_process 12 = .ok (.getfield 29, 3) := by decide +kernel
theorem dX2_process_15 : decode cX2_process 15 = .ok (.astore_n 1, 1) := by decide +kernel
theorem dX2_process_16 : decode cX2_process 16 = .ok (.aload_n 1, 1) := by decide +kernel
theorem dX2_process_17 : decode cX2_process 17 = .ok (.ifnull 10, 3) := by decide +kernel
theorem dX2_process_20 : decode cX2_process 20 = .ok (.aload_n 1, 1) := by decide +kernel
theorem dX2_process_21 : decode cX2_process 21 = .ok (.getfield 88, 3) := by decide +kernel
theorem dX2_process_24 : decode cX2_process 24 = .ok (.ifnonnull 14, 3) := by decide +kernel
theorem dX2_process_27 : decode cX2_process 27 = .ok (.aload_n 0, 1) := by decide +kernel
theorem dX2_process_28 : decode cX2_process 28 = .ok (.dup, 1) := by decide +kernel
theorem dX2_process_29 : decode cX2_process 29 = .ok (.getfield 36, 3) := by decide +kernel
theorem dX2_process_32 : decode cX2_process 32 = .ok (.iconst 1, 1) := by decide +kernel
theorem dX2_process_33 : decode cX2_process 33 = .ok (.iadd, 1) := by decide +kernel
theorem dX2_process_34 : decode cX2_process 34 = .ok (.putfield 36, 3) := by decide +kernel
theorem dX2_process_37 : decode cX2_process 37 = .ok (.return_, 1) := by decide +kernel
theorem dX2_process_38 : decode cX2_process 38 = .ok (.aload_n 0, 1) := by decide +kernel
theorem dX2_process_39 : decode cX2_process 39 = .ok (.getfield 21, 3) := by decide +kernel
theorem dX2_process_42 : decode cX2_process 42 = .ok (.aload_n 1, 1) := by decide +kernel
theorem dX2_process_43 : decode cX2_process 43 = .ok (.aload_n 1, 1) := by decide +kernel
theorem dX2_process_44 : decode cX2_process 44 = .ok (.getfield 88, 3) := by decide +kernel
theorem dX2_process_47 : decode cX2_process 47 = .ok (.aload_n 0, 1) := by decide +kernel
theorem dX2_process_48 : decode cX2_process 48 = .ok (.getfield 25, 3) := by decide +kernel
theorem dX2_process_51 : decode cX2_process 51 = .ok (.invokevirtual 249, 3) := by decide +kernel
theorem dX2_process_54 : decode cX2_process 54 = .ok (.ifCond .eq 23, 3) := by decide +kernel
theorem dX2_process_57 : decode cX2_process 57 = .ok (.aload_n 1, 1) := by decide +kernel
theorem dX2_process_58 : decode cX2_process 58 = .ok (.dup, 1) := by decide +kernel
theorem dX2_process_59 : decode cX2_process 59 = .ok (.getfield 204, 3) := by decide +kernel
theorem dX2_process_62 : decode cX2_process 62 = .ok (.iconst 1, 1) := by decide +kernel
theorem dX2_process_63 : decode cX2_process 63 = .ok (.iadd, 1) := by decide +kernel
theorem dX2_process_64 : decode cX2_process 64 = .ok (.putfield 204, 3) := by decide +kernel
theorem dX2_process_67 : decode cX2_process 67 = .ok (.aload_n 0, 1) := by decide +kernel
theorem dX2_process_68 : decode cX2_process 68 = .ok (.dup, 1) := by decide +kernel
theorem dX2_process_69 : decode cX2_process 69 = .ok (.getfield 39, 3) := by decide +kernel
theorem dX2_process_72 : decode cX2_process 72 = .ok (.iconst 1, 1) := by decide +kernel
theorem dX2_process_73 : decode cX2_process 73 = .ok (.iadd, 1) := by decide +kernel
theorem dX2_process_74 : decode cX2_process 74 = .ok (.putfield 39, 3) := by decide +kernel
theorem dX2_process_77 : decode cX2_process 77 = .ok (.aload_n 0, 1) := by decide +kernel
theorem dX2_process_78 : decode cX2_process 78 = .ok (.dup, 1) := by decide +kernel
theorem dX2_process_79 : decode cX2_process 79 = .ok (.getfield 33, 3) := by decide +kernel
theorem dX2_process_82 : decode cX2_process 82 = .ok (.iconst 1, 1) := by decide +kernel
theorem dX2_process_83 : decode cX2_process 83 = .ok (.isub, 1) := by decide +kernel
theorem dX2_process_84 : decode cX2_process 84 = .ok (.putfield 33, 3) := by decide +kernel
theorem dX2_process_87 : decode cX2_process 87 = .ok (.aload_n 1, 1) := by decide +kernel
theorem dX2_process_88 : decode cX2_process 88 = .ok (.getfield 77, 3) := by decide +kernel
theorem dX2_process_91 : decode cX2_process 91 = .ok (.iconst 1, 1) := by decide +kernel
theorem dX2_process_92 : decode cX2_process 92 = .ok (.if_icmp .eq 11, 3) := by decide +kernel
theorem dX2_process_95 : decode cX2_process 95 = .ok (.aload_n 0, 1) := by decide +kernel
theorem dX2_process_96 : decode cX2_process 96 = .ok (.aload_n 1, 1) := by decide +kernel
theorem dX2_process_97 : decode cX2_process 97 = .ok (.invokevirtual 115, 3) := by decide +kernel
theorem dX2_process_100 : decode cX2_process 100 = .ok (.goto 15, 3) := by decide +kernel
theorem dX2_process_103 : decode cX2_process 103 = .ok (.aload_n 0, 1) := by decide +kernel
theorem dX2_process_104 : decode cX2_process 104 = .ok (.getfield 33, 3) := by decide +kernel
theorem dX2_process_107 : decode cX2_process 107 = .ok (.ifCond .gt 8, 3) := by decide +kernel
theorem dX2_process_110 : decode cX2_process 110 = .ok (.aload_n 0, 1) := by decide +kernel
theorem dX2_process_111 : decode cX2_process 111 = .ok (.aload_n 1, 1) := by decide +kernel
theorem dX2_process_112 : decode cX2_process 112 = .ok (.invokevirtual 253, 3) := by decide +kernel
theorem dX2_process_115 : decode cX2_process 115 = .ok (.return_, 1) := by decide +kernel
theorem dX2_chooseRunning_0 : decode cX2_chooseRunning 0 = .ok (.iconst 0, 1) := by decide +kernel
theorem dX2_chooseRunning_1 : decode cX2_chooseRunning 1 = .ok (.istore_n 1, 1) := by decide +kernel
theorem dX2_chooseRunning_2 : decode cX2_chooseRunning 2 = .ok (.iload_n 1, 1) := by decide +kernel
theorem dX2_chooseRunning_3 : decode cX2_chooseRunning 3 = .ok (.aload_n 0, 1) := by decide +kernel
theorem dX2_chooseRunning_4 : decode cX2_chooseRunning 4 = .ok (.getfield 67, 3) := by decide +kernel
theorem dX2_chooseRunning_7 : decode cX2_chooseRunning 7 = .ok (.getfield 241, 3) := by decide +kernel
theorem dX2_chooseRunning_10 : decode cX2_chooseRunning 10 = .ok (.if_icmp .ge 62, 3) := by decide +kernel
theorem dX2_chooseRunning_13 : decode cX2_chooseRunning 13 = .ok (.aload_n 0, 1) := by decide +kernel
theorem dX2_chooseRunning_14 : decode cX2_chooseRunning 14 = .ok (.getfield 67, 3) := by decide +kernel
theorem dX2_chooseRunning_17 : decode cX2_chooseRunning 17 = .ok (.iload_n 1, 1) := by decide +kernel
theorem dX2_chooseRunning_18 : decode cX2_chooseRunning 18 = .ok (.invokevirtual 242, 3) := by decide +kernel
theorem dX2_chooseRunning_21 : decode cX2_chooseRunning 21 = .ok (.astore_n 2, 1) := by decide +kernel
theorem dX2_chooseRunning_22 : decode cX2_chooseRunning 22 = .ok (.aload_n 2, 1) := by decide +kernel
theorem dX2_chooseRunning_23 : decode cX2_chooseRunning 23 = .ok (.ifnull 43, 3) := by decide +kernel
theorem dX2_chooseRunning_26 : decode cX2_chooseRunning 26 = .ok (.aload_n 2, 1) := by decide +kernel
theorem dX2_chooseRunning_27 : decode cX2_chooseRunning 27 = .ok (.getfield 88, 3) := by decide +kernel
theorem dX2_chooseRunning_30 : decode cX2_chooseRunning 30 = .ok (.ifnull 36, 3) := by decide +kernel
theorem dX2_chooseRunning_33 : decode cX2_chooseRunning 33 = .ok (.aload_n 0, 1) := by decide +kernel
theorem dX2_chooseRunning_34 : decode cX2_chooseRunning 34 = .ok (.getfield 12, 3) := by decide +kernel
theorem dX2_chooseRunning_37 : decode cX2_chooseRunning 37 = .ok (.aload_n 2, 1) := by decide +kernel
theorem dX2_chooseRunning_38 : decode cX2_chooseRunning 38 = .ok (.invokevirtual 256, 3) := by decide +kernel
theorem dX2_chooseRunning_41 : decode cX2_chooseRunning 41 = .ok (.ifCond .ne 25, 3) := by decide +kernel
theorem dX2_chooseRunning_44 : decode cX2_chooseRunning 44 = .ok (.aload_n 0, 1) := by decide +kernel
theorem dX2_chooseRunning_45 : decode cX2_chooseRunning 45 = .ok (.getfield 67, 3) := by decide +kernel
theorem dX2_chooseRunning_48 : decode cX2_chooseRunning 48 = .ok (.aload_n 2, 1) := by decide +kernel
theorem dX2_chooseRunning_49 : decode cX2_chooseRunning 49 = .ok (.invokevirtual 112, 3) := by decide +kernel
theorem dX2_chooseRunning_52 : decode cX2_chooseRunning 52 = .ok (.aload_n 0, 1) := by decide +kernel
theorem dX2_chooseRunning_53 : decode cX2_chooseRunning 53 = .ok (.aload_n 2, 1) := by decide +kernel
theorem dX2_chooseRunning_54 : decode cX2_chooseRunning 54 = .ok (.putfield 29, 3) := by decide +kernel
theorem dX2_chooseRunning_57 : decode cX2_chooseRunning 57 = .ok (.aload_n 0, 1) := by decide +kernel
theorem dX2_chooseRunning_58 : decode cX2_chooseRunning 58 = .ok (.aload_n 0, 1) := by decide +kernel
theorem dX2_chooseRunning_59 : decode cX2_chooseRunning 59 = .ok (.getfield 71, 3) := by decide +kernel
theorem dX2_chooseRunning_62 : decode cX2_chooseRunning 62 = .ok (.putfield 33, 3) := by decide +kernel
theorem dX2_chooseRunning_65 : decode cX2_chooseRunning 65 = .ok (.return_, 1) := by decide +kernel
theorem dX2_chooseRunning_66 : decode cX2_chooseRunning 66 = .ok (.iinc 1 1, 3) := by decide +kernel
theorem dX2_chooseRunning_69 : decode cX2_chooseRunning 69 = .ok (.goto (-67), 3) := by decide +kernel
theorem dX2_chooseRunning_72 : decode cX2_chooseRunning 72 = .ok (.return_, 1) := by decide +kernel
theorem dX2_endTurn_0 : decode cX2_endTurn 0 = .ok (.aload_n 0, 1) := by decide +kernel
theorem dX2_endTurn_1 : decode cX2_endTurn 1 = .ok (.aconst_null, 1) := by decide +kernel
theorem dX2_endTurn_2 : decode cX2_endTurn 2 = .ok (.putfield 29, 3) := by decide +kernel
theorem dX2_endTurn_5 : decode cX2_endTurn 5 = .ok (.aload_n 0, 1) := by decide +kernel
theorem dX2_endTurn_6 : decode cX2_endTurn 6 = .ok (.iconst 0, 1) := by decide +kernel
theorem dX2_endTurn_7 : decode cX2_endTurn 7 = .ok (.putfield 33, 3) := by decide +kernel
theorem dX2_endTurn_10 : decode cX2_endTurn 10 = .ok (.aload_n 1, 1) := by decide +kernel
theorem dX2_endTurn_11 : decode cX2_endTurn 11 = .ok (.getfield 88, 3) := by decide +kernel
theorem dX2_endTurn_14 : decode cX2_endTurn 14 = .ok (.ifnull 11, 3) := by decide +kernel
theorem dX2_endTurn_17 : decode cX2_endTurn 17 = .ok (.aload_n 1, 1) := by decide +kernel
theorem dX2_endTurn_18 : decode cX2_endTurn 18 = .ok (.getfield 88, 3) := by decide +kernel
theorem dX2_endTurn_21 : decode cX2_endTurn 21 = .ok (.iconst 1, 1) := by decide +kernel
theorem dX2_endTurn_22 : decode cX2_endTurn 22 = .ok (.putfield 205, 3) := by decide +kernel
theorem dX2_endTurn_25 : decode cX2_endTurn 25 = .ok (.return_, 1) := by decide +kernel
theorem dX2_endQuantum_0 : decode cX2_endQuantum 0 = .ok (.aload_n 0, 1) := by decide +kernel
theorem dX2_endQuantum_1 : decode cX2_endQuantum 1 = .ok (.aload_n 1, 1) := by decide +kernel
theorem dX2_endQuantum_2 : decode cX2_endQuantum 2 = .ok (.invokevirtual 115, 3) := by decide +kernel
theorem dX2_endQuantum_5 : decode cX2_endQuantum 5 = .ok (.aload_n 0, 1) := by decide +kernel
theorem dX2_endQuantum_6 : decode cX2_endQuantum 6 = .ok (.getfield 67, 3) := by decide +kernel
theorem dX2_endQuantum_9 : decode cX2_endQuantum 9 = .ok (.getfield 241, 3) := by decide +kernel
theorem dX2_endQuantum_12 : decode cX2_endQuantum 12 = .ok (.ifCond .le 14, 3) := by decide +kernel
theorem dX2_endQuantum_15 : decode cX2_endQuantum 15 = .ok (.aload_n 0, 1) := by decide +kernel
theorem dX2_endQuantum_16 : decode cX2_endQuantum 16 = .ok (.getfield 67, 3) := by decide +kernel
theorem dX2_endQuantum_19 : decode cX2_endQuantum 19 = .ok (.aload_n 1, 1) := by decide +kernel
theorem dX2_endQuantum_20 : decode cX2_endQuantum 20 = .ok (.invokevirtual 108, 3) := by decide +kernel
theorem dX2_endQuantum_23 : decode cX2_endQuantum 23 = .ok (.goto 16, 3) := by decide +kernel
theorem dX2_endQuantum_26 : decode cX2_endQuantum 26 = .ok (.aload_n 0, 1) := by decide +kernel
theorem dX2_endQuantum_27 : decode cX2_endQuantum 27 = .ok (.aload_n 1, 1) := by decide +kernel
theorem dX2_endQuantum_28 : decode cX2_endQuantum 28 = .ok (.putfield 29, 3) := by decide +kernel
theorem dX2_endQuantum_31 : decode cX2_endQuantum 31 = .ok (.aload_n 0, 1) := by decide +kernel
theorem dX2_endQuantum_32 : decode cX2_endQuantum 32 = .ok (.aload_n 0, 1) := by decide +kernel
theorem dX2_endQuantum_33 : decode cX2_endQuantum 33 = .ok (.getfield 71, 3) := by decide +kernel
theorem dX2_endQuantum_36 : decode cX2_endQuantum 36 = .ok (.putfield 33, 3) := by decide +kernel
theorem dX2_endQuantum_39 : decode cX2_endQuantum 39 = .ok (.return_, 1) := by decide +kernel
theorem dX3_init_0 : decode cX3_init 0 = .ok (.aload_n 0, 1) := by decide +kernel
theorem dX3_init_1 : decode cX3_init 1 = .ok (.invokespecial 3, 3) := by decide +kernel
theorem dX3_init_4 : decode cX3_init 4 = .ok (.aload_n 0, 1) := by decide +kernel
theorem dX3_init_5 : decode cX3_init 5 = .ok (.iconst 0, 1) := by decide +kernel
theorem dX3_init_6 : decode cX3_init 6 = .ok (.putfield 9, 3) := by decide +kernel
theorem dX3_init_9 : decode cX3_init 9 = .ok (.aload_n 0, 1) := by decide +kernel
theorem dX3_init_10 : decode cX3_init 10 = .ok (.iconst 0, 1) := by decide +kernel
theorem dX3_init_11 : decode cX3_init 11 = .ok (.putfield 15, 3) := by decide +kernel
theorem dX3_init_14 : decode cX3_init 14 = .ok (.return_, 1) := by decide +kernel
theorem dX3_step_0 : decode cX3_step 0 = .ok (.aload_n 0, 1) := by decide +kernel
theorem dX3_step_1 : decode cX3_step 1 = .ok (.iload_n 3, 1) := by decide +kernel
theorem dX3_step_2 : decode cX3_step 2 = .ok (.putfield 9, 3) := by decide +kernel
theorem dX3_step_5 : decode cX3_step 5 = .ok (.aload_n 0, 1) := by decide +kernel
theorem dX3_step_6 : decode cX3_step 6 = .ok (.aload_n 1, 1) := by decide +kernel
theorem dX3_step_7 : decode cX3_step 7 = .ok (.getfield 18, 3) := by decide +kernel
theorem dX3_step_10 : decode cX3_step 10 = .ok (.sipush 4095, 3) := by decide +kernel
theorem dX3_step_13 : decode cX3_step 13 = .ok (.iand, 1) := by decide +kernel
theorem dX3_step_14 : decode cX3_step 14 = .ok (.putfield 15, 3) := by decide +kernel
theorem dX3_step_17 : decode cX3_step 17 = .ok (.aload_n 2, 1) := by decide +kernel
theorem dX3_step_18 : decode cX3_step 18 = .ok (.getfield 23, 3) := by decide +kernel
theorem dX3_step_21 : decode cX3_step 21 = .ok (.aload_n 0, 1) := by decide +kernel
theorem dX3_step_22 : decode cX3_step 22 = .ok (.getfield 15, 3) := by decide +kernel
theorem dX3_step_25 : decode cX3_step 25 = .ok (.iaload, 1) := by decide +kernel
theorem dX3_step_26 : decode cX3_step 26 = .ok (.istore 4, 2) := by decide +kernel
theorem dX3_step_28 : decode cX3_step 28 = .ok (.aload_n 1, 1) := by decide +kernel
theorem dX3_step_29 : decode cX3_step 29 = .ok (.aload_n 0, 1) := by decide +kernel
theorem dX3_step_30 : decode cX3_step 30 = .ok (.getfield 15, 3) := by decide +kernel
theorem dX3_step_33 : decode cX3_step 33 = .ok (.iconst 1, 1) := by decide +kernel
theorem dX3_step_34 : decode cX3_step 34 = .ok (.iadd, 1) := by decide +kernel
theorem dX3_step_35 : decode cX3_step 35 = .ok (.sipush 4095, 3) := by decide +kernel
theorem dX3_step_38 : decode cX3_step 38 = .ok (.iand, 1) := by decide +kernel
theorem dX3_step_39 : decode cX3_step 39 = .ok (.putfield 18, 3) := by decide +kernel
theorem dX3_step_42 : decode cX3_step 42 = .ok (.iload 4, 2) := by decide +kernel
theorem dX3_step_44 : decode cX3_step 44 = .ok (.bipush 9, 2) := by decide +kernel
theorem dX3_step_46 : decode cX3_step 46 = .ok (.ishr, 1) := by decide +kernel
theorem dX3_step_47 : decode cX3_step 47 = .ok (.istore 5, 2) := by decide +kernel
theorem dX3_step_49 : decode cX3_step 49 = .ok (.iload 5, 2) := by decide +kernel
theorem dX3_step_51 : decode cX3_step 51 = .ok (.bipush 6, 2) := by decide +kernel
theorem dX3_step_53 : decode cX3_step 53 = .ok (.if_icmp .ge 15, 3) := by decide +kernel
theorem dX3_step_56 : decode cX3_step 56 = .ok (.aload_n 0, 1) := by decide +kernel
theorem dX3_step_57 : decode cX3_step 57 = .ok (.aload_n 1, 1) := by decide +kernel
theorem dX3_step_58 : decode cX3_step 58 = .ok (.aload_n 2, 1) := by decide +kernel
theorem dX3_step_59 : decode cX3_step 59 = .ok (.iload 5, 2) := by decide +kernel
theorem dX3_step_61 : decode cX3_step 61 = .ok (.iload 4, 2) := by decide +kernel
theorem dX3_step_63 : decode cX3_step 63 = .ok (.invokevirtual 29, 3) := by decide +kernel
theorem dX3_step_66 : decode cX3_step 66 = .ok (.iconst 1, 1) := by decide +kernel
theorem dX3_step_67 : decode cX3_step 67 = .ok (.ireturn, 1) := by decide +kernel
theorem dX3_step_68 : decode cX3_step 68 = .ok (.iload 5, 2) := by decide +kernel
theorem dX3_step_70 : decode cX3_step 70 = .ok (.bipush 6, 2) := by decide +kernel
theorem dX3_step_72 : decode cX3_step 72 = .ok (.if_icmp .ne 11, 3) := by decide +kernel
theorem dX3_step_75 : decode cX3_step 75 = .ok (.aload_n 0, 1) := by decide +kernel
theorem dX3_step_76 : decode cX3_step 76 = .ok (.aload_n 1, 1) := by decide +kernel
theorem dX3_step_77 : decode cX3_step 77 = .ok (.iload 4, 2) := by decide +kernel
theorem dX3_step_79 : decode cX3_step 79 = .ok (.invokevirtual 33, 3) := by decide +kernel
theorem dX3_step_82 : decode cX3_step 82 = .ok (.ireturn, 1) := by decide +kernel
theorem dX3_step_83 : decode cX3_step 83 = .ok (.iload 4, 2) := by decide +kernel
theorem dX3_step_85 : decode cX3_step 85 = .ok (.sipush 256, 3) := by decide +kernel
theorem dX3_step_88 : decode cX3_step 88 = .ok (.iand, 1) := by decide +kernel
theorem dX3_step_89 : decode cX3_step 89 = .ok (.ifCond .ne 11, 3) := by decide +kernel
theorem dX3_step_92 : decode cX3_step 92 = .ok (.aload_n 1, 1) := by decide +kernel
