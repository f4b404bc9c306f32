theorem dX4_init_140 : decode cX4_init 140 = .ok (.iconst 3, 1) := by decide +kernel
theorem dX4_init_141 : decode cX4_init 141 = .ok (.iastore, 1) := by decide +kernel
theorem dX4_init_142 : decode cX4_init 142 = .ok (.aload_n 0, 1) := by decide +kernel
theorem dX4_init_143 : decode cX4_init 143 = .ok (.dup, 1) := by decide +kernel
theorem dX4_init_144 : decode cX4_init 144 = .ok (.getfield 25, 3) := by decide +kernel
theorem dX4_init_147 : decode cX4_init 147 = .ok (.iconst 1, 1) := by decide +kernel
theorem dX4_init_148 : decode cX4_init 148 = .ok (.iadd, 1) := by decide +kernel
theorem dX4_init_149 : decode cX4_init 149 = .ok (.putfield 25, 3) := by decide +kernel
theorem dX4_init_152 : decode cX4_init 152 = .ok (.lconst 0, 1) := by decide +kernel
theorem dX4_init_153 : decode cX4_init 153 = .ok (.lstore_n 1, 1) := by decide +kernel
theorem dX4_init_154 : decode cX4_init 154 = .ok (.iinc 3 1, 3) := by decide +kernel
theorem dX4_init_157 : decode cX4_init 157 = .ok (.goto (-97), 3) := by decide +kernel
theorem dX4_init_160 : decode cX4_init 160 = .ok (.return_, 1) := by decide +kernel
theorem dX4_withLetter_0 : decode cX4_withLetter 0 = .ok (.lload_n 0, 1) := by decide +kernel
theorem dX4_withLetter_1 : decode cX4_withLetter 1 = .ok (.bipush 8, 2) := by decide +kernel
theorem dX4_withLetter_3 : decode cX4_withLetter 3 = .ok (.lshl, 1) := by decide +kernel
theorem dX4_withLetter_4 : decode cX4_withLetter 4 = .ok (.iload_n 2, 1) := by decide +kernel
theorem dX4_withLetter_5 : decode cX4_withLetter 5 = .ok (.i2l, 1) := by decide +kernel
theorem dX4_withLetter_6 : decode cX4_withLetter 6 = .ok (.lor, 1) := by decide +kernel
theorem dX4_withLetter_7 : decode cX4_withLetter 7 = .ok (.lreturn, 1) := by decide +kernel
theorem dX4_forget_0 : decode cX4_forget 0 = .ok (.aload_n 0, 1) := by decide +kernel
theorem dX4_forget_1 : decode cX4_forget 1 = .ok (.getstatic 9, 3) := by decide +kernel
theorem dX4_forget_4 : decode cX4_forget 4 = .ok (.arraylength, 1) := by decide +kernel
theorem dX4_forget_5 : decode cX4_forget 5 = .ok (.putfield 25, 3) := by decide +kernel
theorem dX4_forget_8 : decode cX4_forget 8 = .ok (.aload_n 0, 1) := by decide +kernel
theorem dX4_forget_9 : decode cX4_forget 9 = .ok (.iconst 0, 1) := by decide +kernel
theorem dX4_forget_10 : decode cX4_forget 10 = .ok (.putfield 29, 3) := by decide +kernel
theorem dX4_forget_13 : decode cX4_forget 13 = .ok (.return_, 1) := by decide +kernel
theorem dX4_numberOf_0 : decode cX4_numberOf 0 = .ok (.iconst 0, 1) := by decide +kernel
theorem dX4_numberOf_1 : decode cX4_numberOf 1 = .ok (.istore_n 3, 1) := by decide +kernel
theorem dX4_numberOf_2 : decode cX4_numberOf 2 = .ok (.iload_n 3, 1) := by decide +kernel
theorem dX4_numberOf_3 : decode cX4_numberOf 3 = .ok (.aload_n 0, 1) := by decide +kernel
theorem dX4_numberOf_4 : decode cX4_numberOf 4 = .ok (.getfield 25, 3) := by decide +kernel
theorem dX4_numberOf_7 : decode cX4_numberOf 7 = .ok (.if_icmp .ge 22, 3) := by decide +kernel
theorem dX4_numberOf_10 : decode cX4_numberOf 10 = .ok (.aload_n 0, 1) := by decide +kernel
theorem dX4_numberOf_11 : decode cX4_numberOf 11 = .ok (.getfield 15, 3) := by decide +kernel
theorem dX4_numberOf_14 : decode cX4_numberOf 14 = .ok (.iload_n 3, 1) := by decide +kernel
theorem dX4_numberOf_15 : decode cX4_numberOf 15 = .ok (.laload, 1) := by decide +kernel
theorem dX4_numberOf_16 : decode cX4_numberOf 16 = .ok (.lload_n 1, 1) := by decide +kernel
theorem dX4_numberOf_17 : decode cX4_numberOf 17 = .ok (.lcmp, 1) := by decide +kernel
theorem dX4_numberOf_18 : decode cX4_numberOf 18 = .ok (.ifCond .ne 5, 3) := by decide +kernel
theorem dX4_numberOf_21 : decode cX4_numberOf 21 = .ok (.iload_n 3, 1) := by decide +kernel
theorem dX4_numberOf_22 : decode cX4_numberOf 22 = .ok (.ireturn, 1) := by decide +kernel
theorem dX4_numberOf_23 : decode cX4_numberOf 23 = .ok (.iinc 3 1, 3) := by decide +kernel
theorem dX4_numberOf_26 : decode cX4_numberOf 26 = .ok (.goto (-24), 3) := by decide +kernel
theorem dX4_numberOf_29 : decode cX4_numberOf 29 = .ok (.aload_n 0, 1) := by decide +kernel
theorem dX4_numberOf_30 : decode cX4_numberOf 30 = .ok (.getfield 25, 3) := by decide +kernel
theorem dX4_numberOf_33 : decode cX4_numberOf 33 = .ok (.aload_n 0, 1) := by decide +kernel
theorem dX4_numberOf_34 : decode cX4_numberOf 34 = .ok (.getfield 15, 3) := by decide +kernel
theorem dX4_numberOf_37 : decode cX4_numberOf 37 = .ok (.arraylength, 1) := by decide +kernel
theorem dX4_numberOf_38 : decode cX4_numberOf 38 = .ok (.if_icmp .lt 5, 3) := by decide +kernel
theorem dX4_numberOf_41 : decode cX4_numberOf 41 = .ok (.iconst (-1), 1) := by decide +kernel
theorem dX4_numberOf_42 : decode cX4_numberOf 42 = .ok (.ireturn, 1) := by decide +kernel
theorem dX4_numberOf_43 : decode cX4_numberOf 43 = .ok (.aload_n 0, 1) := by decide +kernel
theorem dX4_numberOf_44 : decode cX4_numberOf 44 = .ok (.getfield 15, 3) := by decide +kernel
theorem dX4_numberOf_47 : decode cX4_numberOf 47 = .ok (.aload_n 0, 1) := by decide +kernel
theorem dX4_numberOf_48 : decode cX4_numberOf 48 = .ok (.getfield 25, 3) := by decide +kernel
theorem dX4_numberOf_51 : decode cX4_numberOf 51 = .ok (.lload_n 1, 1) := by decide +kernel
theorem dX4_numberOf_52 : decode cX4_numberOf 52 = .ok (.lastore, 1) := by decide +kernel
theorem dX4_numberOf_53 : decode cX4_numberOf 53 = .ok (.aload_n 0, 1) := by decide +kernel
theorem dX4_numberOf_54 : decode cX4_numberOf 54 = .ok (.getfield 19, 3) := by decide +kernel
theorem dX4_numberOf_57 : decode cX4_numberOf 57 = .ok (.aload_n 0, 1) := by decide +kernel
theorem dX4_numberOf_58 : decode cX4_numberOf 58 = .ok (.getfield 25, 3) := by decide +kernel
theorem dX4_numberOf_61 : decode cX4_numberOf 61 = .ok (.iconst 0, 1) := by decide +kernel
theorem dX4_numberOf_62 : decode cX4_numberOf 62 = .ok (.iastore, 1) := by decide +kernel
theorem dX4_numberOf_63 : decode cX4_numberOf 63 = .ok (.aload_n 0, 1) := by decide +kernel
theorem dX4_numberOf_64 : decode cX4_numberOf 64 = .ok (.getfield 22, 3) := by decide +kernel
theorem dX4_numberOf_67 : decode cX4_numberOf 67 = .ok (.aload_n 0, 1) := by decide +kernel
theorem dX4_numberOf_68 : decode cX4_numberOf 68 = .ok (.getfield 25, 3) := by decide +kernel
theorem dX4_numberOf_71 : decode cX4_numberOf 71 = .ok (.iconst 0, 1) := by decide +kernel
theorem dX4_numberOf_72 : decode cX4_numberOf 72 = .ok (.iastore, 1) := by decide +kernel
theorem dX4_numberOf_73 : decode cX4_numberOf 73 = .ok (.aload_n 0, 1) := by decide +kernel
theorem dX4_numberOf_74 : decode cX4_numberOf 74 = .ok (.dup, 1) := by decide +kernel
theorem dX4_numberOf_75 : decode cX4_numberOf 75 = .ok (.getfield 25, 3) := by decide +kernel
theorem dX4_numberOf_78 : decode cX4_numberOf 78 = .ok (.iconst 1, 1) := by decide +kernel
theorem dX4_numberOf_79 : decode cX4_numberOf 79 = .ok (.iadd, 1) := by decide +kernel
theorem dX4_numberOf_80 : decode cX4_numberOf 80 = .ok (.putfield 25, 3) := by decide +kernel
theorem dX4_numberOf_83 : decode cX4_numberOf 83 = .ok (.aload_n 0, 1) := by decide +kernel
theorem dX4_numberOf_84 : decode cX4_numberOf 84 = .ok (.getfield 25, 3) := by decide +kernel
theorem dX4_numberOf_87 : decode cX4_numberOf 87 = .ok (.iconst 1, 1) := by decide +kernel
theorem dX4_numberOf_88 : decode cX4_numberOf 88 = .ok (.isub, 1) := by decide +kernel
theorem dX4_numberOf_89 : decode cX4_numberOf 89 = .ok (.ireturn, 1) := by decide +kernel
theorem dX4_tellingOf_0 : decode cX4_tellingOf 0 = .ok (.iload_n 1, 1) := by decide +kernel
theorem dX4_tellingOf_1 : decode cX4_tellingOf 1 = .ok (.ifCond .lt 11, 3) := by decide +kernel
theorem dX4_tellingOf_4 : decode cX4_tellingOf 4 = .ok (.iload_n 1, 1) := by decide +kernel
theorem dX4_tellingOf_5 : decode cX4_tellingOf 5 = .ok (.aload_n 0, 1) := by decide +kernel
theorem dX4_tellingOf_6 : decode cX4_tellingOf 6 = .ok (.getfield 25, 3) := by decide +kernel
theorem dX4_tellingOf_9 : decode cX4_tellingOf 9 = .ok (.if_icmp .lt 7, 3) := by decide +kernel
theorem dX4_tellingOf_12 : decode cX4_tellingOf 12 = .ok (.iconst 0, 1) := by decide +kernel
theorem dX4_tellingOf_13 : decode cX4_tellingOf 13 = .ok (.goto 9, 3) := by decide +kernel
theorem dX4_tellingOf_16 : decode cX4_tellingOf 16 = .ok (.aload_n 0, 1) := by decide +kernel
theorem dX4_tellingOf_17 : decode cX4_tellingOf 17 = .ok (.getfield 22, 3) := by decide +kernel
theorem dX4_tellingOf_20 : decode cX4_tellingOf 20 = .ok (.iload_n 1, 1) := by decide +kernel
theorem dX4_tellingOf_21 : decode cX4_tellingOf 21 = .ok (.iaload, 1) := by decide +kernel
theorem dX4_tellingOf_22 : decode cX4_tellingOf 22 = .ok (.ireturn, 1) := by decide +kernel
theorem dX4_valueOf_0 : decode cX4_valueOf 0 = .ok (.iload_n 1, 1) := by decide +kernel
theorem dX4_valueOf_1 : decode cX4_valueOf 1 = .ok (.ifCond .lt 11, 3) := by decide +kernel
theorem dX4_valueOf_4 : decode cX4_valueOf 4 = .ok (.iload_n 1, 1) := by decide +kernel
theorem dX4_valueOf_5 : decode cX4_valueOf 5 = .ok (.aload_n 0, 1) := by decide +kernel
theorem dX4_valueOf_6 : decode cX4_valueOf 6 = .ok (.getfield 25, 3) := by decide +kernel
theorem dX4_valueOf_9 : decode cX4_valueOf 9 = .ok (.if_icmp .lt 7, 3) := by decide +kernel
theorem dX4_valueOf_12 : decode cX4_valueOf 12 = .ok (.iconst 0, 1) := by decide +kernel
theorem dX4_valueOf_13 : decode cX4_valueOf 13 = .ok (.goto 9, 3) := by decide +kernel
theorem dX4_valueOf_16 : decode cX4_valueOf 16 = .ok (.aload_n 0, 1) := by decide +kernel
theorem dX4_valueOf_17 : decode cX4_valueOf 17 = .ok (.getfield 19, 3) := by decide +kernel
theorem dX4_valueOf_20 : decode cX4_valueOf 20 = .ok (.iload_n 1, 1) := by decide +kernel
theorem dX4_valueOf_21 : decode cX4_valueOf 21 = .ok (.iaload, 1) := by decide +kernel
theorem dX4_valueOf_22 : decode cX4_valueOf 22 = .ok (.ireturn, 1) := by decide +kernel
theorem dX4_tell_0 : decode cX4_tell 0 = .ok (.iload_n 1, 1) := by decide +kernel
theorem dX4_tell_1 : decode cX4_tell 1 = .ok (.ifCond .lt 11, 3) := by decide +kernel
theorem dX4_tell_4 : decode cX4_tell 4 = .ok (.iload_n 1, 1) := by decide +kernel
theorem dX4_tell_5 : decode cX4_tell 5 = .ok (.aload_n 0, 1) := by decide +kernel
theorem dX4_tell_6 : decode cX4_tell 6 = .ok (.getfield 25, 3) := by decide +kernel
theorem dX4_tell_9 : decode cX4_tell 9 = .ok (.if_icmp .lt 4, 3) := by decide +kernel
theorem dX4_tell_12 : decode cX4_tell 12 = .ok (.return_, 1) := by decide +kernel
theorem dX4_tell_13 : decode cX4_tell 13 = .ok (.aload_n 0, 1) := by decide +kernel
theorem dX4_tell_14 : decode cX4_tell 14 = .ok (.getfield 22, 3) := by decide +kernel
theorem dX4_tell_17 : decode cX4_tell 17 = .ok (.iload_n 1, 1) := by decide +kernel
theorem dX4_tell_18 : decode cX4_tell 18 = .ok (.iaload, 1) := by decide +kernel
theorem dX4_tell_19 : decode cX4_tell 19 = .ok (.ifCond .ne 13, 3) := by decide +kernel
theorem dX4_tell_22 : decode cX4_tell 22 = .ok (.aload_n 0, 1) := by decide +kernel
theorem dX4_tell_23 : decode cX4_tell 23 = .ok (.dup, 1) := by decide +kernel
theorem dX4_tell_24 : decode cX4_tell 24 = .ok (.getfield 29, 3) := by decide +kernel
theorem dX4_tell_27 : decode cX4_tell 27 = .ok (.iconst 1, 1) := by decide +kernel
theorem dX4_tell_28 : decode cX4_tell 28 = .ok (.iadd, 1) := by decide +kernel
theorem dX4_tell_29 : decode cX4_tell 29 = .ok (.putfield 29, 3) := by decide +kernel
theorem dX4_tell_32 : decode cX4_tell 32 = .ok (.aload_n 0, 1) := by decide +kernel
theorem dX4_tell_33 : decode cX4_tell 33 = .ok (.getfield 19, 3) := by decide +kernel
theorem dX4_tell_36 : decode cX4_tell 36 = .ok (.iload_n 1, 1) := by decide +kernel
theorem dX4_tell_37 : decode cX4_tell 37 = .ok (.iload_n 2, 1) := by decide +kernel
theorem dX4_tell_38 : decode cX4_tell 38 = .ok (.iastore, 1) := by decide +kernel
theorem dX4_tell_39 : decode cX4_tell 39 = .ok (.aload_n 0, 1) := by decide +kernel
theorem dX4_tell_40 : decode cX4_tell 40 = .ok (.getfield 22, 3) := by decide +kernel
theorem dX4_tell_43 : decode cX4_tell 43 = .ok (.iload_n 1, 1) := by decide +kernel
theorem dX4_tell_44 : decode cX4_tell 44 = .ok (.iload_n 3, 1) := by decide +kernel
theorem dX4_tell_45 : decode cX4_tell 45 = .ok (.iastore, 1) := by decide +kernel
theorem dX4_tell_46 : decode cX4_tell 46 = .ok (.return_, 1) := by decide +kernel
theorem dX5_init_0 : decode cX5_init 0 = .ok (.aload_n 0, 1) := by decide +kernel
theorem dX5_init_1 : decode cX5_init 1 = .ok (.invokespecial 3, 3) := by decide +kernel
theorem dX5_init_4 : decode cX5_init 4 = .ok (.aload_n 0, 1) := by decide +kernel
theorem dX5_init_5 : decode cX5_init 5 = .ok (.iconst 0, 1) := by decide +kernel
theorem dX5_init_6 : decode cX5_init 6 = .ok (.putfield 9, 3) := by decide +kernel
theorem dX5_init_9 : decode cX5_init 9 = .ok (.aload_n 0, 1) := by decide +kernel
theorem dX5_init_10 : decode cX5_init 10 = .ok (.iconst 1, 1) := by decide +kernel
theorem dX5_init_11 : decode cX5_init 11 = .ok (.iload_n 1, 1) := by decide +kernel
theorem dX5_init_12 : decode cX5_init 12 = .ok (.invokestatic 15, 3) := by decide +kernel
theorem dX5_init_15 : decode cX5_init 15 = .ok (.anewarray 21, 3) := by decide +kernel
theorem dX5_init_18 : decode cX5_init 18 = .ok (.putfield 23, 3) := by decide +kernel
theorem dX5_init_21 : decode cX5_init 21 = .ok (.return_, 1) := by decide +kernel
theorem dX5_at_0 : decode cX5_at 0 = .ok (.iload_n 1, 1) := by decide +kernel
theorem dX5_at_1 : decode cX5_at 1 = .ok (.ifCond .lt 11, 3) := by decide +kernel
theorem dX5_at_4 : decode cX5_at 4 = .ok (.iload_n 1, 1) := by decide +kernel
theorem dX5_at_5 : decode cX5_at 5 = .ok (.aload_n 0, 1) := by decide +kernel
theorem dX5_at_6 : decode cX5_at 6 = .ok (.getfield 9, 3) := by decide +kernel
theorem dX5_at_9 : decode cX5_at 9 = .ok (.if_icmp .lt 7, 3) := by decide +kernel
theorem dX5_at_12 : decode cX5_at 12 = .ok (.aconst_null, 1) := by decide +kernel
theorem dX5_at_13 : decode cX5_at 13 = .ok (.goto 9, 3) := by decide +kernel
theorem dX5_at_16 : decode cX5_at 16 = .ok (.aload_n 0, 1) := by decide +kernel
theorem dX5_at_17 : decode cX5_at 17 = .ok (.getfield 23, 3) := by decide +kernel
theorem dX5_at_20 : decode cX5_at 20 = .ok (.iload_n 1, 1) := by decide +kernel
theorem dX5_at_21 : decode cX5_at 21 = .ok (.aaload, 1) := by decide +kernel
theorem dX5_at_22 : decode cX5_at 22 = .ok (.areturn, 1) := by decide +kernel
theorem dX5_append_0 : decode cX5_append 0 = .ok (.aload_n 0, 1) := by decide +kernel
theorem dX5_append_1 : decode cX5_append 1 = .ok (.getfield 9, 3) := by decide +kernel
theorem dX5_append_4 : decode cX5_append 4 = .ok (.aload_n 0, 1) := by decide +kernel
theorem dX5_append_5 : decode cX5_append 5 = .ok (.getfield 23, 3) := by decide +kernel
theorem dX5_append_8 : decode cX5_append 8 = .ok (.arraylength, 1) := by decide +kernel
theorem dX5_append_9 : decode cX5_append 9 = .ok (.if_icmp .ge 23, 3) := by decide +kernel
theorem dX5_append_12 : decode cX5_append 12 = .ok (.aload_n 0, 1) := by decide +kernel
theorem dX5_append_13 : decode cX5_append 13 = .ok (.getfield 23, 3) := by decide +kernel
theorem dX5_append_16 : decode cX5_append 16 = .ok (.aload_n 0, 1) := by decide +kernel
theorem dX5_append_17 : decode cX5_append 17 = .ok (.getfield 9, 3) := by decide +kernel
theorem dX5_append_20 : decode cX5_append 20 = .ok (.aload_n 1, 1) := by decide +kernel
theorem dX5_append_21 : decode cX5_append 21 = .ok (.aastore, 1) := by decide +kernel
theorem dX5_append_22 : decode cX5_append 22 = .ok (.aload_n 0, 1) := by decide +kernel
theorem dX5_append_23 : decode cX5_append 23 = .ok (.dup, 1) := by decide +kernel
theorem dX5_append_24 : decode cX5_append 24 = .ok (.getfield 9, 3) := by decide +kernel
theorem dX5_append_27 : decode cX5_append 27 = .ok (.iconst 1, 1) := by decide +kernel
theorem dX5_append_28 : decode cX5_append 28 = .ok (.iadd, 1) := by decide +kernel
theorem dX5_append_29 : decode cX5_append 29 = .ok (.putfield 9, 3) := by decide +kernel
theorem dX5_append_32 : decode cX5_append 32 = .ok (.return_, 1) := by decide +kernel
theorem dX5_placeOf_0 : decode cX5_placeOf 0 = .ok (.iconst 0, 1) := by decide +kernel
theorem dX5_placeOf_1 : decode cX5_placeOf 1 = .ok (.istore_n 2, 1) := by decide +kernel
theorem dX5_placeOf_2 : decode cX5_placeOf 2 = .ok (.iload_n 2, 1) := by decide +kernel
theorem dX5_placeOf_3 : decode cX5_placeOf 3 = .ok (.aload_n 0, 1) := by decide +kernel
theorem dX5_placeOf_4 : decode cX5_placeOf 4 = .ok (.getfield 9, 3) := by decide +kernel
theorem dX5_placeOf_7 : decode cX5_placeOf 7 = .ok (.if_icmp .ge 21, 3) := by decide +kernel
theorem dX5_placeOf_10 : decode cX5_placeOf 10 = .ok (.aload_n 0, 1) := by decide +kernel
theorem dX5_placeOf_11 : decode cX5_placeOf 11 = .ok (.getfield 23, 3) := by decide +kernel
theorem dX5_placeOf_14 : decode cX5_placeOf 14 = .ok (.iload_n 2, 1) := by decide +kernel
theorem dX5_placeOf_15 : decode cX5_placeOf 15 = .ok (.aaload, 1) := by decide +kernel
theorem dX5_placeOf_16 : decode cX5_placeOf 16 = .ok (.aload_n 1, 1) := by decide +kernel
theorem dX5_placeOf_17 : decode cX5_placeOf 17 = .ok (.if_acmp .ne 5, 3) := by decide +kernel
theorem dX5_placeOf_20 : decode cX5_placeOf 20 = .ok (.iload_n 2, 1) := by decide +kernel
theorem dX5_placeOf_21 : decode cX5_placeOf 21 = .ok (.ireturn, 1) := by decide +kernel
theorem dX5_placeOf_22 : decode cX5_placeOf 22 = .ok (.iinc 2 1, 3) := by decide +kernel
theorem dX5_placeOf_25 : decode cX5_placeOf 25 = .ok (.goto (-23), 3) := by decide +kernel
theorem dX5_placeOf_28 : decode cX5_placeOf 28 = .ok (.iconst (-1), 1) := by decide +kernel
theorem dX5_placeOf_29 : decode cX5_placeOf 29 = .ok (.ireturn, 1) := by decide +kernel
theorem dX5_remove_0 : decode cX5_remove 0 = .ok (.aload_n 0, 1) := by decide +kernel
theorem dX5_remove_1 : decode cX5_remove 1 = .ok (.aload_n 1, 1) := by decide +kernel
theorem dX5_remove_2 : decode cX5_remove 2 = .ok (.invokevirtual 27, 3) := by decide +kernel
theorem dX5_remove_5 : decode cX5_remove 5 = .ok (.istore_n 2, 1) := by decide +kernel
theorem dX5_remove_6 : decode cX5_remove 6 = .ok (.iload_n 2, 1) := by decide +kernel
theorem dX5_remove_7 : decode cX5_remove 7 = .ok (.iconst (-1), 1) := by decide +kernel
theorem dX5_remove_8 : decode cX5_remove 8 = .ok (.if_icmp .ne 4, 3) := by decide +kernel
theorem dX5_remove_11 : decode cX5_remove 11 = .ok (.return_, 1) := by decide +kernel
theorem dX5_remove_12 : decode cX5_remove 12 = .ok (.iload_n 2, 1) := by decide +kernel
theorem dX5_remove_13 : decode cX5_remove 13 = .ok (.istore_n 3, 1) := by decide +kernel
theorem dX5_remove_14 : decode cX5_remove 14 = .ok (.iload_n 3, 1) := by decide +kernel
theorem dX5_remove_15 : decode cX5_remove 15 = .ok (.iconst 1, 1) := by decide +kernel
theorem dX5_remove_16 : decode cX5_remove 16 = .ok (.iadd, 1) := by decide +kernel
theorem dX5_remove_17 : decode cX5_remove 17 = .ok (.aload_n 0, 1) := by decide +kernel
theorem dX5_remove_18 : decode cX5_remove 18 = .ok (.getfield 9, 3) := by decide +kernel
theorem dX5_remove_21 : decode cX5_remove 21 = .ok (.if_icmp .ge 23, 3) := by decide +kernel
theorem dX5_remove_24 : decode cX5_remove 24 = .ok (.aload_n 0, 1) := by decide +kernel
theorem dX5_remove_25 : decode cX5_remove 25 = .ok (.getfield 23, 3) := by decide +kernel
theorem dX5_remove_28 : decode cX5_remove 28 = .ok (.iload_n 3, 1) := by decide +kernel
theorem dX5_remove_29 : decode cX5_remove 29 = .ok (.aload_n 0, 1) := by decide +kernel
theorem dX5_remove_30 : decode cX5_remove 30 = .ok (.getfield 23, 3) := by decide +kernel
theorem dX5_remove_33 : decode cX5_remove 33 = .ok (.iload_n 3, 1) := by decide +kernel
theorem dX5_remove_34 : decode cX5_remove 34 = .ok (.iconst 1, 1) := by decide +kernel
theorem dX5_remove_35 : decode cX5_remove 35 = .ok (.iadd, 1) := by decide +kernel
theorem dX5_remove_36 : decode cX5_remove 36 = .ok (.aaload, 1) := by decide +kernel
theorem dX5_remove_37 : decode cX5_remove 37 = .ok (.aastore, 1) := by decide +kernel
theorem dX5_remove_38 : decode cX5_remove 38 = .ok (.iinc 3 1, 3) := by decide +kernel
theorem dX5_remove_41 : decode cX5_remove 41 = .ok (.goto (-27), 3) := by decide +kernel
theorem dX5_remove_44 : decode cX5_remove 44 = .ok (.aload_n 0, 1) := by decide +kernel
theorem dX5_remove_45 : decode cX5_remove 45 = .ok (.dup, 1) := by decide +kernel
theorem dX5_remove_46 : decode cX5_remove 46 = .ok (.getfield 9, 3) := by decide +kernel
theorem dX5_remove_49 : decode cX5_remove 49 = .ok (.iconst 1, 1) := by decide +kernel
theorem dX5_remove_50 : decode cX5_remove 50 = .ok (.isub, 1) := by decide +kernel
theorem dX5_remove_51 : decode cX5_remove 51 = .ok (.putfield 9, 3) := by decide +kernel
theorem dX5_remove_54 : decode cX5_remove 54 = .ok (.aload_n 0, 1) := by decide +kernel
theorem dX5_remove_55 : decode cX5_remove 55 = .ok (.getfield 23, 3) := by decide +kernel
theorem dX5_remove_58 : decode cX5_remove 58 = .ok (.aload_n 0, 1) := by decide +kernel
theorem dX5_remove_59 : decode cX5_remove 59 = .ok (.getfield 9, 3) := by decide +kernel
theorem dX5_remove_62 : decode cX5_remove 62 = .ok (.aconst_null, 1) := by decide +kernel
theorem dX5_remove_63 : decode cX5_remove 63 = .ok (.aastore, 1) := by decide +kernel
theorem dX5_remove_64 : decode cX5_remove 64 = .ok (.return_, 1) := by decide +kernel
theorem dX6_init_0 : decode cX6_init 0 = .ok (.aload_n 0, 1) := by decide +kernel
theorem dX6_init_1 : decode cX6_init 1 = .ok (.invokespecial 3, 3) := by decide +kernel
theorem dX6_init_4 : decode cX6_init 4 = .ok (.aload_n 0, 1) := by decide +kernel
theorem dX6_init_5 : decode cX6_init 5 = .ok (.bipush 16, 2) := by decide +kernel
theorem dX6_init_7 : decode cX6_init 7 = .ok (.newarray .int, 2) := by decide +kernel
theorem dX6_init_9 : decode cX6_init 9 = .ok (.putfield 9, 3) := by decide +kernel
theorem dX6_init_12 : decode cX6_init 12 = .ok (.aload_n 0, 1) := by decide +kernel
theorem dX6_init_13 : decode cX6_init 13 = .ok (.iconst 0, 1) := by decide +kernel
theorem dX6_init_14 : decode cX6_init 14 = .ok (.putfield 15, 3) := by decide +kernel
theorem dX6_init_17 : decode cX6_init 17 = .ok (.aload_n 0, 1) := by decide +kernel
theorem dX6_init_18 : decode cX6_init 18 = .ok (.iconst 0, 1) := by decide +kernel
theorem dX6_init_19 : decode cX6_init 19 = .ok (.putfield 19, 3) := by decide +kernel
theorem dX6_init_22 : decode cX6_init 22 = .ok (.return_, 1) := by decide +kernel
theorem dX6_isFull_0 : decode cX6_isFull 0 = .ok (.aload_n 0, 1) := by decide +kernel
theorem dX6_isFull_1 : decode cX6_isFull 1 = .ok (.getfield 19, 3) := by decide +kernel
theorem dX6_isFull_4 : decode cX6_isFull 4 = .ok (.bipush 16, 2) := by decide +kernel
theorem dX6_isFull_6 : decode cX6_isFull 6 = .ok (.if_icmp .lt 7, 3) := by decide +kernel
theorem dX6_isFull_9 : decode cX6_isFull 9 = .ok (.iconst 1, 1) := by decide +kernel
theorem dX6_isFull_10 : decode cX6_isFull 10 = .ok (.goto 4, 3) := by decide +kernel
theorem dX6_isFull_13 : decode cX6_isFull 13 = .ok (.iconst 0, 1) := by decide +kernel
theorem dX6_isFull_14 : decode cX6_isFull 14 = .ok (.ireturn, 1) := by decide +kernel
theorem dX6_isEmpty_0 : decode cX6_isEmpty 0 = .ok (.aload_n 0, 1) := by decide +kernel
theorem dX6_isEmpty_1 : decode cX6_isEmpty 1 = .ok (.getfield 19, 3) := by decide +kernel
theorem dX6_isEmpty_4 : decode cX6_isEmpty 4 = .ok (.ifCond .ne 7, 3) := by decide +kernel
theorem dX6_isEmpty_7 : decode cX6_isEmpty 7 = .ok (.iconst 1, 1) := by decide +kernel
theorem dX6_isEmpty_8 : decode cX6_isEmpty 8 = .ok (.goto 4, 3) := by decide +kernel
theorem dX6_isEmpty_11 : decode cX6_isEmpty 11 = .ok (.iconst 0, 1) := by decide +kernel
theorem dX6_isEmpty_12 : decode cX6_isEmpty 12 = .ok (.ireturn, 1) := by decide +kernel
theorem dX6_append_0 : decode cX6_append 0 = .ok (.aload_n 0, 1) := by decide +kernel
theorem dX6_append_1 : decode cX6_append 1 = .ok (.invokevirtual 22, 3) := by decide +kernel
theorem dX6_append_4 : decode cX6_append 4 = .ok (.ifCond .eq 4, 3) := by decide +kernel
theorem dX6_append_7 : decode cX6_append 7 = .ok (.return_, 1) := by decide +kernel
theorem dX6_append_8 : decode cX6_append 8 = .ok (.aload_n 0, 1) := by decide +kernel
theorem dX6_append_9 : decode cX6_append 9 = .ok (.getfield 9, 3) := by decide +kernel
theorem dX6_append_12 : decode cX6_append 12 = .ok (.aload_n 0, 1) := by decide +kernel
theorem dX6_append_13 : decode cX6_append 13 = .ok (.getfield 15, 3) := by decide +kernel
theorem dX6_append_16 : decode cX6_append 16 = .ok (.aload_n 0, 1) := by decide +kernel
theorem dX6_append_17 : decode cX6_append 17 = .ok (.getfield 19, 3) := by decide +kernel
theorem dX6_append_20 : decode cX6_append 20 = .ok (.iadd, 1) := by decide +kernel
theorem dX6_append_21 : decode cX6_append 21 = .ok (.bipush 16, 2) := by decide +kernel
theorem dX6_append_23 : decode cX6_append 23 = .ok (.irem, 1) := by decide +kernel
theorem dX6_append_24 : decode cX6_append 24 = .ok (.iload_n 1, 1) := by decide +kernel
theorem dX6_append_25 : decode cX6_append 25 = .ok (.iastore, 1) := by decide +kernel
theorem dX6_append_26 : decode cX6_append 26 = .ok (.aload_n 0, 1) := by decide +kernel
theorem dX6_append_27 : decode cX6_append 27 = .ok (.dup, 1) := by decide +kernel
theorem dX6_append_28 : decode cX6_append 28 = .ok (.getfield 19, 3) := by decide +kernel
theorem dX6_append_31 : decode cX6_append 31 = .ok (.iconst 1, 1) := by decide +kernel
theorem dX6_append_32 : decode cX6_append 32 = .ok (.iadd, 1) := by decide +kernel
theorem dX6_append_33 : decode cX6_append 33 = .ok (.putfield 19, 3) := by decide +kernel
theorem dX6_append_36 : decode cX6_append 36 = .ok (.return_, 1) := by decide +kernel
theorem dX6_head_0 : decode cX6_head 0 = .ok (.aload_n 0, 1) := by decide +kernel
theorem dX6_head_1 : decode cX6_head 1 = .ok (.invokevirtual 26, 3) := by decide +kernel
theorem dX6_head_4 : decode cX6_head 4 = .ok (.ifCond .eq 7, 3) := by decide +kernel
theorem dX6_head_7 : decode cX6_head 7 = .ok (.iconst (-1), 1) := by decide +kernel
theorem dX6_head_8 : decode cX6_head 8 = .ok (.goto 12, 3) := by decide +kernel
theorem dX6_head_11 : decode cX6_head 11 = .ok (.aload_n 0, 1) := by decide +kernel
theorem dX6_head_12 : decode cX6_head 12 = .ok (.getfield 9, 3) := by decide +kernel
theorem dX6_head_15 : decode cX6_head 15 = .ok (.aload_n 0, 1) := by decide +kernel
theorem dX6_head_16 : decode cX6_head 16 = .ok (.getfield 15, 3) := by decide +kernel
theorem dX6_head_19 : decode cX6_head 19 = .ok (.iaload, 1) := by decide +kernel
theorem dX6_head_20 : decode cX6_head 20 = .ok (.ireturn, 1) := by decide +kernel
theorem dX6_drop_0 : decode cX6_drop 0 = .ok (.aload_n 0, 1) := by decide +kernel
theorem dX6_drop_1 : decode cX6_drop 1 = .ok (.invokevirtual 26, 3) := by decide +kernel
theorem dX6_drop_4 : decode cX6_drop 4 = .ok (.ifCond .eq 4, 3) := by decide +kernel
theorem dX6_drop_7 : decode cX6_drop 7 = .ok (.return_, 1) := by decide +kernel
theorem dX6_drop_8 : decode cX6_drop 8 = .ok (.aload_n 0, 1) := by decide +kernel
theorem dX6_drop_9 : decode cX6_drop 9 = .ok (.aload_n 0, 1) := by decide +kernel
theorem dX6_drop_10 : decode cX6_drop 10 = .ok (.getfield 15, 3) := by decide +kernel
theorem dX6_drop_13 : decode cX6_drop 13 = .ok (.iconst 1, 1) := by decide +kernel
theorem dX6_drop_14 : decode cX6_drop 14 = .ok (.iadd, 1) := by decide +kernel
theorem dX6_drop_15 : decode cX6_drop 15 = .ok (.bipush 16, 2) := by decide +kernel
theorem dX6_drop_17 : decode cX6_drop 17 = .ok (.irem, 1) := by decide +kernel
theorem dX6_drop_18 : decode cX6_drop 18 = .ok (.putfield 15, 3) := by decide +kernel
theorem dX6_drop_21 : decode cX6_drop 21 = .ok (.aload_n 0, 1) := by decide +kernel
theorem dX6_drop_22 : decode cX6_drop 22 = .ok (.dup, 1) := by decide +kernel
theorem dX6_drop_23 : decode cX6_drop 23 = .ok (.getfield 19, 3) := by decide +kernel
theorem dX6_drop_26 : decode cX6_drop 26 = .ok (.iconst 1, 1) := by decide +kernel
theorem dX6_drop_27 : decode cX6_drop 27 = .ok (.isub, 1) := by decide +kernel
theorem dX6_drop_28 : decode cX6_drop 28 = .ok (.putfield 19, 3) := by decide +kernel
theorem dX6_drop_31 : decode cX6_drop 31 = .ok (.return_, 1) := by decide +kernel
theorem dX7_init_0 : decode cX7_init 0 = .ok (.aload_n 0, 1) := by decide +kernel
theorem dX7_init_1 : decode cX7_init 1 = .ok (.invokespecial 3, 3) := by decide +kernel
theorem dX7_init_4 : decode cX7_init 4 = .ok (.aload_n 0, 1) := by decide +kernel
theorem dX7_init_5 : decode cX7_init 5 = .ok (.sipush 4096, 3) := by decide +kernel
theorem dX7_init_8 : decode cX7_init 8 = .ok (.newarray .int, 2) := by decide +kernel
theorem dX7_init_10 : decode cX7_init 10 = .ok (.putfield 9, 3) := by decide +kernel
theorem dX7_init_13 : decode cX7_init 13 = .ok (.aload_n 0, 1) := by decide +kernel
theorem dX7_init_14 : decode cX7_init 14 = .ok (.iconst 0, 1) := by decide +kernel
theorem dX7_init_15 : decode cX7_init 15 = .ok (.putfield 15, 3) := by decide +kernel
theorem dX7_init_18 : decode cX7_init 18 = .ok (.aload_n 0, 1) := by decide +kernel
theorem dX7_init_19 : decode cX7_init 19 = .ok (.getfield 9, 3) := by decide +kernel
theorem dX7_init_22 : decode cX7_init 22 = .ok (.iconst (-1), 1) := by decide +kernel
theorem dX7_init_23 : decode cX7_init 23 = .ok (.invokestatic 19, 3) := by decide +kernel
theorem dX7_init_26 : decode cX7_init 26 = .ok (.return_, 1) := by decide +kernel
theorem dX7_clear_0 : decode cX7_clear 0 = .ok (.aload_n 0, 1) := by decide +kernel
theorem dX7_clear_1 : decode cX7_clear 1 = .ok (.getfield 9, 3) := by decide +kernel
theorem dX7_clear_4 : decode cX7_clear 4 = .ok (.iconst (-1), 1) := by decide +kernel
theorem dX7_clear_5 : decode cX7_clear 5 = .ok (.invokestatic 19, 3) := by decide +kernel
theorem dX7_clear_8 : decode cX7_clear 8 = .ok (.aload_n 0, 1) := by decide +kernel
theorem dX7_clear_9 : decode cX7_clear 9 = .ok (.iconst 0, 1) := by decide +kernel
theorem dX7_clear_10 : decode cX7_clear 10 = .ok (.putfield 15, 3) := by decide +kernel
theorem dX7_clear_13 : decode cX7_clear 13 = .ok (.return_, 1) := by decide +kernel
theorem dX7_at_0 : decode cX7_at 0 = .ok (.iload_n 1, 1) := by decide +kernel
theorem dX7_at_1 : decode cX7_at 1 = .ok (.ifCond .lt 20, 3) := by decide +kernel
theorem dX7_at_4 : decode cX7_at 4 = .ok (.iload_n 1, 1) := by decide +kernel
theorem dX7_at_5 : decode cX7_at 5 = .ok (.sipush 4096, 3) := by decide +kernel
theorem dX7_at_8 : decode cX7_at 8 = .ok (.if_icmp .ge 13, 3) := by decide +kernel
theorem dX7_at_11 : decode cX7_at 11 = .ok (.aload_n 0, 1) := by decide +kernel
theorem dX7_at_12 : decode cX7_at 12 = .ok (.getfield 9, 3) := by decide +kernel
theorem dX7_at_15 : decode cX7_at 15 = .ok (.iload_n 1, 1) := by decide +kernel
theorem dX7_at_16 : decode cX7_at 16 = .ok (.iaload, 1) := by decide +kernel
theorem dX7_at_17 : decode cX7_at 17 = .ok (.iconst (-1), 1) := by decide +kernel
theorem dX7_at_18 : decode cX7_at 18 = .ok (.if_icmp .ne 7, 3) := by decide +kernel
theorem dX7_at_21 : decode cX7_at 21 = .ok (.iconst (-1), 1) := by decide +kernel
theorem dX7_at_22 : decode cX7_at 22 = .ok (.goto 13, 3) := by decide +kernel
theorem dX7_at_25 : decode cX7_at 25 = .ok (.aload_n 0, 1) := by decide +kernel
theorem dX7_at_26 : decode cX7_at 26 = .ok (.getfield 9, 3) := by decide +kernel
theorem dX7_at_29 : decode cX7_at 29 = .ok (.iload_n 1, 1) := by decide +kernel
theorem dX7_at_30 : decode cX7_at 30 = .ok (.iaload, 1) := by decide +kernel
theorem dX7_at_31 : decode cX7_at 31 = .ok (.sipush 4095, 3) := by decide +kernel
theorem dX7_at_34 : decode cX7_at 34 = .ok (.iand, 1) := by decide +kernel
theorem dX7_at_35 : decode cX7_at 35 = .ok (.ireturn, 1) := by decide +kernel
theorem dX7_copyTo_0 : decode cX7_copyTo 0 = .ok (.iconst 0, 1) := by decide +kernel
theorem dX7_copyTo_1 : decode cX7_copyTo 1 = .ok (.istore_n 2, 1) := by decide +kernel
theorem dX7_copyTo_2 : decode cX7_copyTo 2 = .ok (.iload_n 2, 1) := by decide +kernel
theorem dX7_copyTo_3 : decode cX7_copyTo 3 = .ok (.sipush 4096, 3) := by decide +kernel
theorem dX7_copyTo_6 : decode cX7_copyTo 6 = .ok (.if_icmp .ge 42, 3) := by decide +kernel
theorem dX7_copyTo_9 : decode cX7_copyTo 9 = .ok (.iload_n 2, 1) := by decide +kernel
theorem dX7_copyTo_10 : decode cX7_copyTo 10 = .ok (.aload_n 1, 1) := by decide +kernel
theorem dX7_copyTo_11 : decode cX7_copyTo 11 = .ok (.arraylength, 1) := by decide +kernel
theorem dX7_copyTo_12 : decode cX7_copyTo 12 = .ok (.if_icmp .ge 36, 3) := by decide +kernel
theorem dX7_copyTo_15 : decode cX7_copyTo 15 = .ok (.aload_n 1, 1) := by decide +kernel
theorem dX7_copyTo_16 : decode cX7_copyTo 16 = .ok (.iload_n 2, 1) := by decide +kernel
theorem dX7_copyTo_17 : decode cX7_copyTo 17 = .ok (.aload_n 0, 1) := by decide +kernel
theorem dX7_copyTo_18 : decode cX7_copyTo 18 = .ok (.getfield 9, 3) := by decide +kernel
theorem dX7_copyTo_21 : decode cX7_copyTo 21 = .ok (.iload_n 2, 1) := by decide +kernel
theorem dX7_copyTo_22 : decode cX7_copyTo 22 = .ok (.iaload, 1) := by decide +kernel
theorem dX7_copyTo_23 : decode cX7_copyTo 23 = .ok (.iconst (-1), 1) := by decide +kernel
theorem dX7_copyTo_24 : decode cX7_copyTo 24 = .ok (.if_icmp .ne 7, 3) := by decide +kernel
theorem dX7_copyTo_27 : decode cX7_copyTo 27 = .ok (.iconst 0, 1) := by decide +kernel
theorem dX7_copyTo_28 : decode cX7_copyTo 28 = .ok (.goto 13, 3) := by decide +kernel
theorem dX7_copyTo_31 : decode cX7_copyTo 31 = .ok (.aload_n 0, 1) := by decide +kernel
theorem dX7_copyTo_32 : decode cX7_copyTo 32 = .ok (.getfield 9, 3) := by decide +kernel
theorem dX7_copyTo_35 : decode cX7_copyTo 35 = .ok (.iload_n 2, 1) := by decide +kernel
theorem dX7_copyTo_36 : decode cX7_copyTo 36 = .ok (.iaload, 1) := by decide +kernel
theorem dX7_copyTo_37 : decode cX7_copyTo 37 = .ok (.sipush 4095, 3) := by decide +kernel
theorem dX7_copyTo_40 : decode cX7_copyTo 40 = .ok (.iand, 1) := by decide +kernel
theorem dX7_copyTo_41 : decode cX7_copyTo 41 = .ok (.iastore, 1) := by decide +kernel
theorem dX7_copyTo_42 : decode cX7_copyTo 42 = .ok (.iinc 2 1, 3) := by decide +kernel
theorem dX7_copyTo_45 : decode cX7_copyTo 45 = .ok (.goto (-43), 3) := by decide +kernel
theorem dX7_copyTo_48 : decode cX7_copyTo 48 = .ok (.return_, 1) := by decide +kernel
theorem dX7_hasLiteral_0 : decode cX7_hasLiteral 0 = .ok (.iconst 0, 1) := by decide +kernel
theorem dX7_hasLiteral_1 : decode cX7_hasLiteral 1 = .ok (.iload_n 1, 1) := by decide +kernel
theorem dX7_hasLiteral_2 : decode cX7_hasLiteral 2 = .ok (.invokestatic 25, 3) := by decide +kernel
theorem dX7_hasLiteral_5 : decode cX7_hasLiteral 5 = .ok (.istore_n 3, 1) := by decide +kernel
theorem dX7_hasLiteral_6 : decode cX7_hasLiteral 6 = .ok (.iload_n 3, 1) := by decide +kernel
theorem dX7_hasLiteral_7 : decode cX7_hasLiteral 7 = .ok (.iload_n 1, 1) := by decide +kernel
theorem dX7_hasLiteral_8 : decode cX7_hasLiteral 8 = .ok (.iload_n 2, 1) := by decide +kernel
theorem dX7_hasLiteral_9 : decode cX7_hasLiteral 9 = .ok (.iadd, 1) := by decide +kernel
theorem dX7_hasLiteral_10 : decode cX7_hasLiteral 10 = .ok (.if_icmp .ge 30, 3) := by decide +kernel
theorem dX7_hasLiteral_13 : decode cX7_hasLiteral 13 = .ok (.iload_n 3, 1) := by decide +kernel
theorem dX7_hasLiteral_14 : decode cX7_hasLiteral 14 = .ok (.sipush 4096, 3) := by decide +kernel
theorem dX7_hasLiteral_17 : decode cX7_hasLiteral 17 = .ok (.if_icmp .ge 23, 3) := by decide +kernel
theorem dX7_hasLiteral_20 : decode cX7_hasLiteral 20 = .ok (.aload_n 0, 1) := by decide +kernel
theorem dX7_hasLiteral_21 : decode cX7_hasLiteral 21 = .ok (.getfield 9, 3) := by decide +kernel
theorem dX7_hasLiteral_24 : decode cX7_hasLiteral 24 = .ok (.iload_n 3, 1) := by decide +kernel
theorem dX7_hasLiteral_25 : decode cX7_hasLiteral 25 = .ok (.iaload, 1) := by decide +kernel
theorem dX7_hasLiteral_26 : decode cX7_hasLiteral 26 = .ok (.sipush 4096, 3) := by decide +kernel
theorem dX7_hasLiteral_29 : decode cX7_hasLiteral 29 = .ok (.if_icmp .lt 5, 3) := by decide +kernel
theorem dX7_hasLiteral_32 : decode cX7_hasLiteral 32 = .ok (.iconst 1, 1) := by decide +kernel
theorem dX7_hasLiteral_33 : decode cX7_hasLiteral 33 = .ok (.ireturn, 1) := by decide +kernel
theorem dX7_hasLiteral_34 : decode cX7_hasLiteral 34 = .ok (.iinc 3 1, 3) := by decide +kernel
theorem dX7_hasLiteral_37 : decode cX7_hasLiteral 37 = .ok (.goto (-31), 3) := by decide +kernel
theorem dX7_hasLiteral_40 : decode cX7_hasLiteral 40 = .ok (.iconst 0, 1) := by decide +kernel
theorem dX7_hasLiteral_41 : decode cX7_hasLiteral 41 = .ok (.ireturn, 1) := by decide +kernel
theorem dX7_lay_0 : decode cX7_lay 0 = .ok (.iload_n 1, 1) := by decide +kernel
theorem dX7_lay_1 : decode cX7_lay 1 = .ok (.ifCond .lt 10, 3) := by decide +kernel
theorem dX7_lay_4 : decode cX7_lay 4 = .ok (.iload_n 1, 1) := by decide +kernel
theorem dX7_lay_5 : decode cX7_lay 5 = .ok (.sipush 4096, 3) := by decide +kernel
theorem dX7_lay_8 : decode cX7_lay 8 = .ok (.if_icmp .lt 4, 3) := by decide +kernel
theorem dX7_lay_11 : decode cX7_lay 11 = .ok (.return_, 1) := by decide +kernel
theorem dX7_lay_12 : decode cX7_lay 12 = .ok (.aload_n 0, 1) := by decide +kernel
theorem dX7_lay_13 : decode cX7_lay 13 = .ok (.getfield 9, 3) := by decide +kernel
theorem dX7_lay_16 : decode cX7_lay 16 = .ok (.iload_n 1, 1) := by decide +kernel
theorem dX7_lay_17 : decode cX7_lay 17 = .ok (.iaload, 1) := by decide +kernel
theorem dX7_lay_18 : decode cX7_lay 18 = .ok (.iconst (-1), 1) := by decide +kernel
theorem dX7_lay_19 : decode cX7_lay 19 = .ok (.if_icmp .ne 13, 3) := by decide +kernel
theorem dX7_lay_22 : decode cX7_lay 22 = .ok (.aload_n 0, 1) := by decide +kernel
theorem dX7_lay_23 : decode cX7_lay 23 = .ok (.dup, 1) := by decide +kernel
theorem dX7_lay_24 : decode cX7_lay 24 = .ok (.getfield 15, 3) := by decide +kernel
theorem dX7_lay_27 : decode cX7_lay 27 = .ok (.iconst 1, 1) := by decide +kernel
theorem dX7_lay_28 : decode cX7_lay 28 = .ok (.iadd, 1) := by decide +kernel
theorem dX7_lay_29 : decode cX7_lay 29 = .ok (.putfield 15, 3) := by decide +kernel
theorem dX7_lay_32 : decode cX7_lay 32 = .ok (.aload_n 0, 1) := by decide +kernel
theorem dX7_lay_33 : decode cX7_lay 33 = .ok (.getfield 9, 3) := by decide +kernel
theorem dX7_lay_36 : decode cX7_lay 36 = .ok (.iload_n 1, 1) := by decide +kernel
theorem dX7_lay_37 : decode cX7_lay 37 = .ok (.iload_n 2, 1) := by decide +kernel
theorem dX7_lay_38 : decode cX7_lay 38 = .ok (.iastore, 1) := by decide +kernel
theorem dX7_lay_39 : decode cX7_lay 39 = .ok (.return_, 1) := by decide +kernel
theorem dX7_literalPlace_0 : decode cX7_literalPlace 0 = .ok (.sipush 4096, 3) := by decide +kernel
theorem dX7_literalPlace_3 : decode cX7_literalPlace 3 = .ok (.iload_n 2, 1) := by decide +kernel
theorem dX7_literalPlace_4 : decode cX7_literalPlace 4 = .ok (.ior, 1) := by decide +kernel
theorem dX7_literalPlace_5 : decode cX7_literalPlace 5 = .ok (.istore_n 3, 1) := by decide +kernel
theorem dX7_literalPlace_6 : decode cX7_literalPlace 6 = .ok (.iload_n 1, 1) := by decide +kernel
theorem dX7_literalPlace_7 : decode cX7_literalPlace 7 = .ok (.sipush 128, 3) := by decide +kernel
theorem dX7_literalPlace_10 : decode cX7_literalPlace 10 = .ok (.iadd, 1) := by decide +kernel
theorem dX7_literalPlace_11 : decode cX7_literalPlace 11 = .ok (.iconst 1, 1) := by decide +kernel
theorem dX7_literalPlace_12 : decode cX7_literalPlace 12 = .ok (.isub, 1) := by decide +kernel
theorem dX7_literalPlace_13 : decode cX7_literalPlace 13 = .ok (.istore 4, 2) := by decide +kernel
theorem dX7_literalPlace_15 : decode cX7_literalPlace 15 = .ok (.iload 4, 2) := by decide +kernel
theorem dX7_literalPlace_17 : decode cX7_literalPlace 17 = .ok (.iload_n 1, 1) := by decide +kernel
theorem dX7_literalPlace_18 : decode cX7_literalPlace 18 = .ok (.if_icmp .lt 72, 3) := by decide +kernel
theorem dX7_literalPlace_21 : decode cX7_literalPlace 21 = .ok (.iload 4, 2) := by decide +kernel
theorem dX7_literalPlace_23 : decode cX7_literalPlace 23 = .ok (.ifCond .lt 67, 3) := by decide +kernel
theorem dX7_literalPlace_26 : decode cX7_literalPlace 26 = .ok (.iload 4, 2) := by decide +kernel
theorem dX7_literalPlace_28 : decode cX7_literalPlace 28 = .ok (.sipush 4096, 3) := by decide +kernel
theorem dX7_literalPlace_31 : decode cX7_literalPlace 31 = .ok (.if_icmp .ge 59, 3) := by decide +kernel
theorem dX7_literalPlace_34 : decode cX7_literalPlace 34 = .ok (.aload_n 0, 1) := by decide +kernel
theorem dX7_literalPlace_35 : decode cX7_literalPlace 35 = .ok (.getfield 9, 3) := by decide +kernel
theorem dX7_literalPlace_38 : decode cX7_literalPlace 38 = .ok (.iload 4, 2) := by decide +kernel
theorem dX7_literalPlace_40 : decode cX7_literalPlace 40 = .ok (.iaload, 1) := by decide +kernel
theorem dX7_literalPlace_41 : decode cX7_literalPlace 41 = .ok (.iconst (-1), 1) := by decide +kernel
theorem dX7_literalPlace_42 : decode cX7_literalPlace 42 = .ok (.if_icmp .ne 13, 3) := by decide +kernel
theorem dX7_literalPlace_45 : decode cX7_literalPlace 45 = .ok (.aload_n 0, 1) := by decide +kernel
theorem dX7_literalPlace_46 : decode cX7_literalPlace 46 = .ok (.iload 4, 2) := by decide +kernel
theorem dX7_literalPlace_48 : decode cX7_literalPlace 48 = .ok (.iload_n 3, 1) := by decide +kernel
theorem dX7_literalPlace_49 : decode cX7_literalPlace 49 = .ok (.invokevirtual 31, 3) := by decide +kernel
theorem dX7_literalPlace_52 : decode cX7_literalPlace 52 = .ok (.iload 4, 2) := by decide +kernel
theorem dX7_literalPlace_54 : decode cX7_literalPlace 54 = .ok (.ireturn, 1) := by decide +kernel
theorem dX7_literalPlace_55 : decode cX7_literalPlace 55 = .ok (.aload_n 0, 1) := by decide +kernel
theorem dX7_literalPlace_56 : decode cX7_literalPlace 56 = .ok (.getfield 9, 3) := by decide +kernel
theorem dX7_literalPlace_59 : decode cX7_literalPlace 59 = .ok (.iload 4, 2) := by decide +kernel
theorem dX7_literalPlace_61 : decode cX7_literalPlace 61 = .ok (.iaload, 1) := by decide +kernel
theorem dX7_literalPlace_62 : decode cX7_literalPlace 62 = .ok (.iload_n 3, 1) := by decide +kernel
theorem dX7_literalPlace_63 : decode cX7_literalPlace 63 = .ok (.if_icmp .ne 6, 3) := by decide +kernel
theorem dX7_literalPlace_66 : decode cX7_literalPlace 66 = .ok (.iload 4, 2) := by decide +kernel
theorem dX7_literalPlace_68 : decode cX7_literalPlace 68 = .ok (.ireturn, 1) := by decide +kernel
theorem dX7_literalPlace_69 : decode cX7_literalPlace 69 = .ok (.aload_n 0, 1) := by decide +kernel
theorem dX7_literalPlace_70 : decode cX7_literalPlace 70 = .ok (.getfield 9, 3) := by decide +kernel
theorem dX7_literalPlace_73 : decode cX7_literalPlace 73 = .ok (.iload 4, 2) := by decide +kernel
theorem dX7_literalPlace_75 : decode cX7_literalPlace 75 = .ok (.iaload, 1) := by decide +kernel
theorem dX7_literalPlace_76 : decode cX7_literalPlace 76 = .ok (.sipush 4096, 3) := by decide +kernel
theorem dX7_literalPlace_79 : decode cX7_literalPlace 79 = .ok (.if_icmp .ge 5, 3) := by decide +kernel
theorem dX7_literalPlace_82 : decode cX7_literalPlace 82 = .ok (.iconst (-1), 1) := by decide +kernel
theorem dX7_literalPlace_83 : decode cX7_literalPlace 83 = .ok (.ireturn, 1) := by decide +kernel
theorem dX7_literalPlace_84 : decode cX7_literalPlace 84 = .ok (.iinc 4 (-1), 3) := by decide +kernel
theorem dX7_literalPlace_87 : decode cX7_literalPlace 87 = .ok (.goto (-72), 3) := by decide +kernel
theorem dX7_literalPlace_90 : decode cX7_literalPlace 90 = .ok (.iconst (-1), 1) := by decide +kernel
theorem dX7_literalPlace_91 : decode cX7_literalPlace 91 = .ok (.ireturn, 1) := by decide +kernel
theorem dX8_init_0 : decode cX8_init 0 = .ok (.aload_n 0, 1) := by decide +kernel
theorem dX8_init_1 : decode cX8_init 1 = .ok (.invokespecial 3, 3) := by decide +kernel
theorem dX8_init_4 : decode cX8_init 4 = .ok (.aload_n 0, 1) := by decide +kernel
theorem dX8_init_5 : decode cX8_init 5 = .ok (.sipush 4096, 3) := by decide +kernel
theorem dX8_init_8 : decode cX8_init 8 = .ok (.newarray .int, 2) := by decide +kernel
theorem dX8_init_10 : decode cX8_init 10 = .ok (.putfield 9, 3) := by decide +kernel
theorem dX8_init_13 : decode cX8_init 13 = .ok (.aload_n 0, 1) := by decide +kernel
theorem dX8_init_14 : decode cX8_init 14 = .ok (.aconst_null, 1) := by decide +kernel
theorem dX8_init_15 : decode cX8_init 15 = .ok (.putfield 15, 3) := by decide +kernel
theorem dX8_init_18 : decode cX8_init 18 = .ok (.aload_n 0, 1) := by decide +kernel
theorem dX8_init_19 : decode cX8_init 19 = .ok (.iconst 0, 1) := by decide +kernel
theorem dX8_init_20 : decode cX8_init 20 = .ok (.putfield 19, 3) := by decide +kernel
theorem dX8_init_23 : decode cX8_init 23 = .ok (.aload_n 0, 1) := by decide +kernel
theorem dX8_init_24 : decode cX8_init 24 = .ok (.iconst 0, 1) := by decide +kernel
theorem dX8_init_25 : decode cX8_init 25 = .ok (.putfield 23, 3) := by decide +kernel
theorem dX8_init_28 : decode cX8_init 28 = .ok (.aload_n 0, 1) := by decide +kernel
theorem dX8_init_29 : decode cX8_init 29 = .ok (.iload_n 1, 1) := by decide +kernel
theorem dX8_init_30 : decode cX8_init 30 = .ok (.putfield 26, 3) := by decide +kernel
theorem dX8_init_33 : decode cX8_init 33 = .ok (.return_, 1) := by decide +kernel
theorem dX8_put_0 : decode cX8_put 0 = .ok (.aload_n 0, 1) := by decide +kernel
theorem dX8_put_1 : decode cX8_put 1 = .ok (.getfield 9, 3) := by decide +kernel
theorem dX8_put_4 : decode cX8_put 4 = .ok (.iload_n 1, 1) := by decide +kernel
theorem dX8_put_5 : decode cX8_put 5 = .ok (.sipush 4095, 3) := by decide +kernel
theorem dX8_put_8 : decode cX8_put 8 = .ok (.iand, 1) := by decide +kernel
theorem dX8_put_9 : decode cX8_put 9 = .ok (.iload_n 2, 1) := by decide +kernel
theorem dX8_put_10 : decode cX8_put 10 = .ok (.iastore, 1) := by decide +kernel
theorem dX8_put_11 : decode cX8_put 11 = .ok (.aload_n 0, 1) := by decide +kernel
theorem dX8_put_12 : decode cX8_put 12 = .ok (.iconst 1, 1) := by decide +kernel
theorem dX8_put_13 : decode cX8_put 13 = .ok (.putfield 19, 3) := by decide +kernel
theorem dX8_put_16 : decode cX8_put 16 = .ok (.return_, 1) := by decide +kernel
theorem dX8_release_0 : decode cX8_release 0 = .ok (.aload_n 0, 1) := by decide +kernel
theorem dX8_release_1 : decode cX8_release 1 = .ok (.getfield 15, 3) := by decide +kernel
theorem dX8_release_4 : decode cX8_release 4 = .ok (.ifnull 11, 3) := by decide +kernel
theorem dX8_release_7 : decode cX8_release 7 = .ok (.aload_n 0, 1) := by decide +kernel
theorem dX8_release_8 : decode cX8_release 8 = .ok (.getfield 15, 3) := by decide +kernel
theorem dX8_release_11 : decode cX8_release 11 = .ok (.aconst_null, 1) := by decide +kernel
theorem dX8_release_12 : decode cX8_release 12 = .ok (.putfield 30, 3) := by decide +kernel
theorem dX8_release_15 : decode cX8_release 15 = .ok (.aload_n 0, 1) := by decide +kernel
theorem dX8_release_16 : decode cX8_release 16 = .ok (.aconst_null, 1) := by decide +kernel
theorem dX8_release_17 : decode cX8_release 17 = .ok (.putfield 15, 3) := by decide +kernel
theorem dX8_release_20 : decode cX8_release 20 = .ok (.aload_n 0, 1) := by decide +kernel
theorem dX8_release_21 : decode cX8_release 21 = .ok (.iconst 0, 1) := by decide +kernel
theorem dX8_release_22 : decode cX8_release 22 = .ok (.putfield 19, 3) := by decide +kernel
theorem dX8_release_25 : decode cX8_release 25 = .ok (.aload_n 0, 1) := by decide +kernel
theorem dX8_release_26 : decode cX8_release 26 = .ok (.iconst 0, 1) := by decide +kernel
theorem dX8_release_27 : decode cX8_release 27 = .ok (.putfield 23, 3) := by decide +kernel
theorem dX8_release_30 : decode cX8_release 30 = .ok (.return_, 1) := by decide +kernel
theorem dX8_give_0 : decode cX8_give 0 = .ok (.aload_n 0, 1) := by decide +kernel
theorem dX8_give_1 : decode cX8_give 1 = .ok (.aload_n 1, 1) := by decide +kernel
theorem dX8_give_2 : decode cX8_give 2 = .ok (.putfield 15, 3) := by decide +kernel
theorem dX8_give_5 : decode cX8_give 5 = .ok (.aload_n 1, 1) := by decide +kernel
theorem dX8_give_6 : decode cX8_give 6 = .ok (.aload_n 0, 1) := by decide +kernel
theorem dX8_give_7 : decode cX8_give 7 = .ok (.putfield 30, 3) := by decide +kernel
theorem dX8_give_10 : decode cX8_give 10 = .ok (.aload_n 0, 1) := by decide +kernel
theorem dX8_give_11 : decode cX8_give 11 = .ok (.iconst 0, 1) := by decide +kernel
theorem dX8_give_12 : decode cX8_give 12 = .ok (.putfield 19, 3) := by decide +kernel
theorem dX8_give_15 : decode cX8_give 15 = .ok (.aload_n 0, 1) := by decide +kernel
theorem dX8_give_16 : decode cX8_give 16 = .ok (.iconst 0, 1) := by decide +kernel
theorem dX8_give_17 : decode cX8_give 17 = .ok (.putfield 23, 3) := by decide +kernel
theorem dX8_give_20 : decode cX8_give 20 = .ok (.return_, 1) := by decide +kernel
theorem dX8_register_0 : decode cX8_register 0 = .ok (.iload_n 1, 1) := by decide +kernel
theorem dX8_register_1 : decode cX8_register 1 = .ok (.tableswitch 72 0 2 #[27, 46, 59], 27) := by decide +kernel
theorem dX8_register_28 : decode cX8_register 28 = .ok (.aload_n 0, 1) := by decide +kernel
theorem dX8_register_29 : decode cX8_register 29 = .ok (.getfield 15, 3) := by decide +kernel
theorem dX8_register_32 : decode cX8_register 32 = .ok (.ifnonnull 7, 3) := by decide +kernel
theorem dX8_register_35 : decode cX8_register 35 = .ok (.iconst (-1), 1) := by decide +kernel
theorem dX8_register_36 : decode cX8_register 36 = .ok (.goto 10, 3) := by decide +kernel
theorem dX8_register_39 : decode cX8_register 39 = .ok (.aload_n 0, 1) := by decide +kernel
theorem dX8_register_40 : decode cX8_register 40 = .ok (.getfield 15, 3) := by decide +kernel
theorem dX8_register_43 : decode cX8_register 43 = .ok (.getfield 36, 3) := by decide +kernel
theorem dX8_register_46 : decode cX8_register 46 = .ok (.ireturn, 1) := by decide +kernel
theorem dX8_register_47 : decode cX8_register 47 = .ok (.aload_n 0, 1) := by decide +kernel
theorem dX8_register_48 : decode cX8_register 48 = .ok (.getfield 19, 3) := by decide +kernel
theorem dX8_register_51 : decode cX8_register 51 = .ok (.ifCond .eq 7, 3) := by decide +kernel
theorem dX8_register_54 : decode cX8_register 54 = .ok (.iconst 1, 1) := by decide +kernel
theorem dX8_register_55 : decode cX8_register 55 = .ok (.goto 4, 3) := by decide +kernel
theorem dX8_register_58 : decode cX8_register 58 = .ok (.iconst 0, 1) := by decide +kernel
theorem dX8_register_59 : decode cX8_register 59 = .ok (.ireturn, 1) := by decide +kernel
theorem dX8_register_60 : decode cX8_register 60 = .ok (.aload_n 0, 1) := by decide +kernel
theorem dX8_register_61 : decode cX8_register 61 = .ok (.getfield 23, 3) := by decide +kernel
theorem dX8_register_64 : decode cX8_register 64 = .ok (.ifCond .eq 7, 3) := by decide +kernel
theorem dX8_register_67 : decode cX8_register 67 = .ok (.iconst 1, 1) := by decide +kernel
theorem dX8_register_68 : decode cX8_register 68 = .ok (.goto 4, 3) := by decide +kernel
theorem dX8_register_71 : decode cX8_register 71 = .ok (.iconst 0, 1) := by decide +kernel
theorem dX8_register_72 : decode cX8_register 72 = .ok (.ireturn, 1) := by decide +kernel
theorem dX8_register_73 : decode cX8_register 73 = .ok (.iconst (-1), 1) := by decide +kernel
theorem dX8_register_74 : decode cX8_register 74 = .ok (.ireturn, 1) := by decide +kernel
theorem dX9_init_0 : decode cX9_init 0 = .ok (.aload_n 0, 1) := by decide +kernel
theorem dX9_init_1 : decode cX9_init 1 = .ok (.invokespecial 3, 3) := by decide +kernel
theorem dX9_init_4 : decode cX9_init 4 = .ok (.aload_n 0, 1) := by decide +kernel
theorem dX9_init_5 : decode cX9_init 5 = .ok (.sipush 2001, 3) := by decide +kernel
theorem dX9_init_8 : decode cX9_init 8 = .ok (.newarray .int, 2) := by decide +kernel
theorem dX9_init_10 : decode cX9_init 10 = .ok (.putfield 9, 3) := by decide +kernel
theorem dX9_init_13 : decode cX9_init 13 = .ok (.aload_n 0, 1) := by decide +kernel
theorem dX9_init_14 : decode cX9_init 14 = .ok (.sipush 2001, 3) := by decide +kernel
theorem dX9_init_17 : decode cX9_init 17 = .ok (.newarray .int, 2) := by decide +kernel
theorem dX9_init_19 : decode cX9_init 19 = .ok (.putfield 15, 3) := by decide +kernel
theorem dX9_init_22 : decode cX9_init 22 = .ok (.aload_n 0, 1) := by decide +kernel
theorem dX9_init_23 : decode cX9_init 23 = .ok (.sipush 2001, 3) := by decide +kernel
theorem dX9_init_26 : decode cX9_init 26 = .ok (.newarray .int, 2) := by decide +kernel
theorem dX9_init_28 : decode cX9_init 28 = .ok (.putfield 18, 3) := by decide +kernel
theorem dX9_init_31 : decode cX9_init 31 = .ok (.aload_n 0, 1) := by decide +kernel
theorem dX9_init_32 : decode cX9_init 32 = .ok (.sipush 2001, 3) := by decide +kernel
theorem dX9_init_35 : decode cX9_init 35 = .ok (.newarray .int, 2) := by decide +kernel
theorem dX9_init_37 : decode cX9_init 37 = .ok (.putfield 21, 3) := by decide +kernel
theorem dX9_init_40 : decode cX9_init 40 = .ok (.aload_n 0, 1) := by decide +kernel
theorem dX9_init_41 : decode cX9_init 41 = .ok (.iconst 0, 1) := by decide +kernel
theorem dX9_init_42 : decode cX9_init 42 = .ok (.putfield 24, 3) := by decide +kernel
theorem dX9_init_45 : decode cX9_init 45 = .ok (.aload_n 0, 1) := by decide +kernel
theorem dX9_init_46 : decode cX9_init 46 = .ok (.iconst 0, 1) := by decide +kernel
theorem dX9_init_47 : decode cX9_init 47 = .ok (.newarray .int, 2) := by decide +kernel
theorem dX9_init_49 : decode cX9_init 49 = .ok (.putfield 28, 3) := by decide +kernel
theorem dX9_init_52 : decode cX9_init 52 = .ok (.aload_n 0, 1) := by decide +kernel
theorem dX9_init_53 : decode cX9_init 53 = .ok (.iconst 0, 1) := by decide +kernel
theorem dX9_init_54 : decode cX9_init 54 = .ok (.putfield 31, 3) := by decide +kernel
theorem dX9_init_57 : decode cX9_init 57 = .ok (.aload_n 0, 1) := by decide +kernel
theorem dX9_init_58 : decode cX9_init 58 = .ok (.iconst 0, 1) := by decide +kernel
theorem dX9_init_59 : decode cX9_init 59 = .ok (.putfield 34, 3) := by decide +kernel
theorem dX9_init_62 : decode cX9_init 62 = .ok (.aload_n 0, 1) := by decide +kernel
theorem dX9_init_63 : decode cX9_init 63 = .ok (.aload_n 1, 1) := by decide +kernel
theorem dX9_init_64 : decode cX9_init 64 = .ok (.putfield 37, 3) := by decide +kernel
theorem dX9_init_67 : decode cX9_init 67 = .ok (.return_, 1) := by decide +kernel
theorem dX9_scan_0 : decode cX9_scan 0 = .ok (.aload_n 0, 1) := by decide +kernel
theorem dX9_scan_1 : decode cX9_scan 1 = .ok (.aload_n 1, 1) := by decide +kernel
theorem dX9_scan_2 : decode cX9_scan 2 = .ok (.putfield 28, 3) := by decide +kernel
theorem dX9_scan_5 : decode cX9_scan 5 = .ok (.aload_n 0, 1) := by decide +kernel
theorem dX9_scan_6 : decode cX9_scan 6 = .ok (.iconst 0, 1) := by decide +kernel
theorem dX9_scan_7 : decode cX9_scan 7 = .ok (.iload_n 2, 1) := by decide +kernel
theorem dX9_scan_8 : decode cX9_scan 8 = .ok (.aload_n 1, 1) := by decide +kernel
theorem dX9_scan_9 : decode cX9_scan 9 = .ok (.arraylength, 1) := by decide +kernel
theorem dX9_scan_10 : decode cX9_scan 10 = .ok (.sipush 2000, 3) := by decide +kernel
theorem dX9_scan_13 : decode cX9_scan 13 = .ok (.invokestatic 41, 3) := by decide +kernel
theorem dX9_scan_16 : decode cX9_scan 16 = .ok (.invokestatic 41, 3) := by decide +kernel
theorem dX9_scan_19 : decode cX9_scan 19 = .ok (.invokestatic 47, 3) := by decide +kernel
theorem dX9_scan_22 : decode cX9_scan 22 = .ok (.putfield 31, 3) := by decide +kernel
theorem dX9_scan_25 : decode cX9_scan 25 = .ok (.aload_n 0, 1) := by decide +kernel
theorem dX9_scan_26 : decode cX9_scan 26 = .ok (.iconst 0, 1) := by decide +kernel
theorem dX9_scan_27 : decode cX9_scan 27 = .ok (.putfield 34, 3) := by decide +kernel
theorem dX9_scan_30 : decode cX9_scan 30 = .ok (.aload_n 0, 1) := by decide +kernel
theorem dX9_scan_31 : decode cX9_scan 31 = .ok (.iconst 0, 1) := by decide +kernel
theorem dX9_scan_32 : decode cX9_scan 32 = .ok (.putfield 24, 3) := by decide +kernel
theorem dX9_scan_35 : decode cX9_scan 35 = .ok (.aload_n 0, 1) := by decide +kernel
theorem dX9_scan_36 : decode cX9_scan 36 = .ok (.getfield 37, 3) := by decide +kernel
theorem dX9_scan_39 : decode cX9_scan 39 = .ok (.invokevirtual 50, 3) := by decide +kernel
theorem dX9_scan_42 : decode cX9_scan 42 = .ok (.iconst 0, 1) := by decide +kernel
theorem dX9_scan_43 : decode cX9_scan 43 = .ok (.istore_n 3, 1) := by decide +kernel
theorem dX9_scan_44 : decode cX9_scan 44 = .ok (.iload_n 3, 1) := by decide +kernel
theorem dX9_scan_45 : decode cX9_scan 45 = .ok (.aload_n 0, 1) := by decide +kernel
theorem dX9_scan_46 : decode cX9_scan 46 = .ok (.getfield 31, 3) := by decide +kernel
theorem dX9_scan_49 : decode cX9_scan 49 = .ok (.if_icmp .gt 57, 3) := by decide +kernel
theorem dX9_scan_52 : decode cX9_scan 52 = .ok (.aload_n 0, 1) := by decide +kernel
theorem dX9_scan_53 : decode cX9_scan 53 = .ok (.aload_n 0, 1) := by decide +kernel
theorem dX9_scan_54 : decode cX9_scan 54 = .ok (.aload_n 0, 1) := by decide +kernel
theorem dX9_scan_55 : decode cX9_scan 55 = .ok (.getfield 34, 3) := by decide +kernel
theorem dX9_scan_58 : decode cX9_scan 58 = .ok (.invokevirtual 55, 3) := by decide +kernel
theorem dX9_scan_61 : decode cX9_scan 61 = .ok (.putfield 34, 3) := by decide +kernel
theorem dX9_scan_64 : decode cX9_scan 64 = .ok (.aload_n 0, 1) := by decide +kernel
theorem dX9_scan_65 : decode cX9_scan 65 = .ok (.invokevirtual 59, 3) := by decide +kernel
theorem dX9_scan_68 : decode cX9_scan 68 = .ok (.aload_n 0, 1) := by decide +kernel
theorem dX9_scan_69 : decode cX9_scan 69 = .ok (.invokevirtual 62, 3) := by decide +kernel
theorem dX9_scan_72 : decode cX9_scan 72 = .ok (.istore 4, 2) := by decide +kernel
theorem dX9_scan_74 : decode cX9_scan 74 = .ok (.iload 4, 2) := by decide +kernel
theorem dX9_scan_76 : decode cX9_scan 76 = .ok (.ifCond .eq 23, 3) := by decide +kernel
theorem dX9_scan_79 : decode cX9_scan 79 = .ok (.iload 4, 2) := by decide +kernel
theorem dX9_scan_81 : decode cX9_scan 81 = .ok (.bipush 6, 2) := by decide +kernel
theorem dX9_scan_83 : decode cX9_scan 83 = .ok (.if_icmp .eq 16, 3) := by decide +kernel
theorem dX9_scan_86 : decode cX9_scan 86 = .ok (.iload 4, 2) := by decide +kernel
theorem dX9_scan_88 : decode cX9_scan 88 = .ok (.iconst 5, 1) := by decide +kernel
theorem dX9_scan_89 : decode cX9_scan 89 = .ok (.if_icmp .eq 10, 3) := by decide +kernel
theorem dX9_scan_92 : decode cX9_scan 92 = .ok (.iload 4, 2) := by decide +kernel
theorem dX9_scan_94 : decode cX9_scan 94 = .ok (.bipush 36, 2) := by decide +kernel
theorem dX9_scan_96 : decode cX9_scan 96 = .ok (.if_icmp .ne 4, 3) := by decide +kernel
theorem dX9_scan_99 : decode cX9_scan 99 = .ok (.return_, 1) := by decide +kernel
theorem dX9_scan_100 : decode cX9_scan 100 = .ok (.iinc 3 1, 3) := by decide +kernel
theorem dX9_scan_103 : decode cX9_scan 103 = .ok (.goto (-59), 3) := by decide +kernel
theorem dX9_scan_106 : decode cX9_scan 106 = .ok (.return_, 1) := by decide +kernel
theorem dX9_byteAt_0 : decode cX9_byteAt 0 = .ok (.iload_n 1, 1) := by decide +kernel
theorem dX9_byteAt_1 : decode cX9_byteAt 1 = .ok (.ifCond .lt 11, 3) := by decide +kernel
theorem dX9_byteAt_4 : decode cX9_byteAt 4 = .ok (.iload_n 1, 1) := by decide +kernel
theorem dX9_byteAt_5 : decode cX9_byteAt 5 = .ok (.aload_n 0, 1) := by decide +kernel
theorem dX9_byteAt_6 : decode cX9_byteAt 6 = .ok (.getfield 31, 3) := by decide +kernel
theorem dX9_byteAt_9 : decode cX9_byteAt 9 = .ok (.if_icmp .lt 7, 3) := by decide +kernel
theorem dX9_byteAt_12 : decode cX9_byteAt 12 = .ok (.iconst (-1), 1) := by decide +kernel
theorem dX9_byteAt_13 : decode cX9_byteAt 13 = .ok (.goto 9, 3) := by decide +kernel
theorem dX9_byteAt_16 : decode cX9_byteAt 16 = .ok (.aload_n 0, 1) := by decide +kernel
theorem dX9_byteAt_17 : decode cX9_byteAt 17 = .ok (.getfield 28, 3) := by decide +kernel
theorem dX9_byteAt_20 : decode cX9_byteAt 20 = .ok (.iload_n 1, 1) := by decide +kernel
theorem dX9_byteAt_21 : decode cX9_byteAt 21 = .ok (.iaload, 1) := by decide +kernel
theorem dX9_byteAt_22 : decode cX9_byteAt 22 = .ok (.ireturn, 1) := by decide +kernel
theorem dX9_valueOf_0 : decode cX9_valueOf 0 = .ok (.iload_n 1, 1) := by decide +kernel
theorem dX9_valueOf_1 : decode cX9_valueOf 1 = .ok (.ifCond .lt 11, 3) := by decide +kernel
theorem dX9_valueOf_4 : decode cX9_valueOf 4 = .ok (.iload_n 1, 1) := by decide +kernel
theorem dX9_valueOf_5 : decode cX9_valueOf 5 = .ok (.aload_n 0, 1) := by decide +kernel
theorem dX9_valueOf_6 : decode cX9_valueOf 6 = .ok (.getfield 24, 3) := by decide +kernel
theorem dX9_valueOf_9 : decode cX9_valueOf 9 = .ok (.if_icmp .lt 7, 3) := by decide +kernel
theorem dX9_valueOf_12 : decode cX9_valueOf 12 = .ok (.iconst (-1), 1) := by decide +kernel
theorem dX9_valueOf_13 : decode cX9_valueOf 13 = .ok (.goto 9, 3) := by decide +kernel
theorem dX9_valueOf_16 : decode cX9_valueOf 16 = .ok (.aload_n 0, 1) := by decide +kernel
theorem dX9_valueOf_17 : decode cX9_valueOf 17 = .ok (.getfield 18, 3) := by decide +kernel
theorem dX9_valueOf_20 : decode cX9_valueOf 20 = .ok (.iload_n 1, 1) := by decide +kernel
theorem dX9_valueOf_21 : decode cX9_valueOf 21 = .ok (.iaload, 1) := by decide +kernel
theorem dX9_valueOf_22 : decode cX9_valueOf 22 = .ok (.ireturn, 1) := by decide +kernel
theorem dX9_otherOf_0 : decode cX9_otherOf 0 = .ok (.iload_n 1, 1) := by decide +kernel
theorem dX9_otherOf_1 : decode cX9_otherOf 1 = .ok (.ifCond .lt 11, 3) := by decide +kernel
theorem dX9_otherOf_4 : decode cX9_otherOf 4 = .ok (.iload_n 1, 1) := by decide +kernel
theorem dX9_otherOf_5 : decode cX9_otherOf 5 = .ok (.aload_n 0, 1) := by decide +kernel
theorem dX9_otherOf_6 : decode cX9_otherOf 6 = .ok (.getfield 24, 3) := by decide +kernel
theorem dX9_otherOf_9 : decode cX9_otherOf 9 = .ok (.if_icmp .lt 7, 3) := by decide +kernel
theorem dX9_otherOf_12 : decode cX9_otherOf 12 = .ok (.iconst (-1), 1) := by decide +kernel
theorem dX9_otherOf_13 : decode cX9_otherOf 13 = .ok (.goto 9, 3) := by decide +kernel
theorem dX9_otherOf_16 : decode cX9_otherOf 16 = .ok (.aload_n 0, 1) := by decide +kernel
theorem dX9_otherOf_17 : decode cX9_otherOf 17 = .ok (.getfield 21, 3) := by decide +kernel
theorem dX9_otherOf_20 : decode cX9_otherOf 20 = .ok (.iload_n 1, 1) := by decide +kernel
theorem dX9_otherOf_21 : decode cX9_otherOf 21 = .ok (.iaload, 1) := by decide +kernel
theorem dX9_otherOf_22 : decode cX9_otherOf 22 = .ok (.ireturn, 1) := by decide +kernel
theorem dX9_skipBlanks_0 : decode cX9_skipBlanks 0 = .ok (.iload_n 1, 1) := by decide +kernel
theorem dX9_skipBlanks_1 : decode cX9_skipBlanks 1 = .ok (.istore_n 2, 1) := by decide +kernel
theorem dX9_skipBlanks_2 : decode cX9_skipBlanks 2 = .ok (.iload_n 2, 1) := by decide +kernel
theorem dX9_skipBlanks_3 : decode cX9_skipBlanks 3 = .ok (.aload_n 0, 1) := by decide +kernel
theorem dX9_skipBlanks_4 : decode cX9_skipBlanks 4 = .ok (.getfield 31, 3) := by decide +kernel
theorem dX9_skipBlanks_7 : decode cX9_skipBlanks 7 = .ok (.if_icmp .ge 19, 3) := by decide +kernel
theorem dX9_skipBlanks_10 : decode cX9_skipBlanks 10 = .ok (.aload_n 0, 1) := by decide +kernel
theorem dX9_skipBlanks_11 : decode cX9_skipBlanks 11 = .ok (.iload_n 2, 1) := by decide +kernel
theorem dX9_skipBlanks_12 : decode cX9_skipBlanks 12 = .ok (.invokevirtual 66, 3) := by decide +kernel
theorem dX9_skipBlanks_15 : decode cX9_skipBlanks 15 = .ok (.bipush 32, 2) := by decide +kernel
theorem dX9_skipBlanks_17 : decode cX9_skipBlanks 17 = .ok (.if_icmp .ne 9, 3) := by decide +kernel
theorem dX9_skipBlanks_20 : decode cX9_skipBlanks 20 = .ok (.iinc 2 1, 3) := by decide +kernel
theorem dX9_skipBlanks_23 : decode cX9_skipBlanks 23 = .ok (.goto (-21), 3) := by decide +kernel
theorem dX9_skipBlanks_26 : decode cX9_skipBlanks 26 = .ok (.iload_n 2, 1) := by decide +kernel
theorem dX9_skipBlanks_27 : decode cX9_skipBlanks 27 = .ok (.ireturn, 1) := by decide +kernel
theorem dX9_skipRemark_0 : decode cX9_skipRemark 0 = .ok (.aload_n 0, 1) := by decide +kernel
theorem dX9_skipRemark_1 : decode cX9_skipRemark 1 = .ok (.aload_n 0, 1) := by decide +kernel
theorem dX9_skipRemark_2 : decode cX9_skipRemark 2 = .ok (.getfield 34, 3) := by decide +kernel
theorem dX9_skipRemark_5 : decode cX9_skipRemark 5 = .ok (.invokevirtual 66, 3) := by decide +kernel
theorem dX9_skipRemark_8 : decode cX9_skipRemark 8 = .ok (.bipush 47, 2) := by decide +kernel
theorem dX9_skipRemark_10 : decode cX9_skipRemark 10 = .ok (.if_icmp .eq 4, 3) := by decide +kernel
theorem dX9_skipRemark_13 : decode cX9_skipRemark 13 = .ok (.return_, 1) := by decide +kernel
theorem dX9_skipRemark_14 : decode cX9_skipRemark 14 = .ok (.aload_n 0, 1) := by decide +kernel
theorem dX9_skipRemark_15 : decode cX9_skipRemark 15 = .ok (.getfield 34, 3) := by decide +kernel
theorem dX9_skipRemark_18 : decode cX9_skipRemark 18 = .ok (.aload_n 0, 1) := by decide +kernel
theorem dX9_skipRemark_19 : decode cX9_skipRemark 19 = .ok (.getfield 31, 3) := by decide +kernel
theorem dX9_skipRemark_22 : decode cX9_skipRemark 22 = .ok (.if_icmp .ge 29, 3) := by decide +kernel
theorem dX9_skipRemark_25 : decode cX9_skipRemark 25 = .ok (.aload_n 0, 1) := by decide +kernel
theorem dX9_skipRemark_26 : decode cX9_skipRemark 26 = .ok (.aload_n 0, 1) := by decide +kernel
theorem dX9_skipRemark_27 : decode cX9_skipRemark 27 = .ok (.getfield 34, 3) := by decide +kernel
theorem dX9_skipRemark_30 : decode cX9_skipRemark 30 = .ok (.invokevirtual 66, 3) := by decide +kernel
theorem dX9_skipRemark_33 : decode cX9_skipRemark 33 = .ok (.bipush 10, 2) := by decide +kernel
theorem dX9_skipRemark_35 : decode cX9_skipRemark 35 = .ok (.if_icmp .eq 16, 3) := by decide +kernel
theorem dX9_skipRemark_38 : decode cX9_skipRemark 38 = .ok (.aload_n 0, 1) := by decide +kernel
theorem dX9_skipRemark_39 : decode cX9_skipRemark 39 = .ok (.dup, 1) := by decide +kernel
theorem dX9_skipRemark_40 : decode cX9_skipRemark 40 = .ok (.getfield 34, 3) := by decide +kernel
theorem dX9_skipRemark_43 : decode cX9_skipRemark 43 = .ok (.iconst 1, 1) := by decide +kernel
theorem dX9_skipRemark_44 : decode cX9_skipRemark 44 = .ok (.iadd, 1) := by decide +kernel
theorem dX9_skipRemark_45 : decode cX9_skipRemark 45 = .ok (.putfield 34, 3) := by decide +kernel
theorem dX9_skipRemark_48 : decode cX9_skipRemark 48 = .ok (.goto (-34), 3) := by decide +kernel
theorem dX9_skipRemark_51 : decode cX9_skipRemark 51 = .ok (.return_, 1) := by decide +kernel
theorem dX9_scanToken_0 : decode cX9_scanToken 0 = .ok (.aload_n 0, 1) := by decide +kernel
theorem dX9_scanToken_1 : decode cX9_scanToken 1 = .ok (.aload_n 0, 1) := by decide +kernel
theorem dX9_scanToken_2 : decode cX9_scanToken 2 = .ok (.getfield 34, 3) := by decide +kernel
theorem dX9_scanToken_5 : decode cX9_scanToken 5 = .ok (.invokevirtual 66, 3) := by decide +kernel
theorem dX9_scanToken_8 : decode cX9_scanToken 8 = .ok (.istore_n 1, 1) := by decide +kernel
theorem dX9_scanToken_9 : decode cX9_scanToken 9 = .ok (.iload_n 1, 1) := by decide +kernel
theorem dX9_scanToken_10 : decode cX9_scanToken 10 = .ok (.iconst (-1), 1) := by decide +kernel
theorem dX9_scanToken_11 : decode cX9_scanToken 11 = .ok (.if_icmp .ne 15, 3) := by decide +kernel
theorem dX9_scanToken_14 : decode cX9_scanToken 14 = .ok (.aload_n 0, 1) := by decide +kernel
theorem dX9_scanToken_15 : decode cX9_scanToken 15 = .ok (.iconst 0, 1) := by decide +kernel
theorem dX9_scanToken_16 : decode cX9_scanToken 16 = .ok (.aload_n 0, 1) := by decide +kernel
theorem dX9_scanToken_17 : decode cX9_scanToken 17 = .ok (.getfield 34, 3) := by decide +kernel
theorem dX9_scanToken_20 : decode cX9_scanToken 20 = .ok (.iconst 0, 1) := by decide +kernel
theorem dX9_scanToken_21 : decode cX9_scanToken 21 = .ok (.iconst 0, 1) := by decide +kernel
theorem dX9_scanToken_22 : decode cX9_scanToken 22 = .ok (.invokevirtual 69, 3) := by decide +kernel
theorem dX9_scanToken_25 : decode cX9_scanToken 25 = .ok (.ireturn, 1) := by decide +kernel
theorem dX9_scanToken_26 : decode cX9_scanToken 26 = .ok (.iload_n 1, 1) := by decide +kernel
theorem dX9_scanToken_27 : decode cX9_scanToken 27 = .ok (.bipush 10, 2) := by decide +kernel
theorem dX9_scanToken_29 : decode cX9_scanToken 29 = .ok (.if_icmp .ne 18, 3) := by decide +kernel
theorem dX9_scanToken_32 : decode cX9_scanToken 32 = .ok (.aload_n 0, 1) := by decide +kernel
theorem dX9_scanToken_33 : decode cX9_scanToken 33 = .ok (.bipush 10, 2) := by decide +kernel
theorem dX9_scanToken_35 : decode cX9_scanToken 35 = .ok (.aload_n 0, 1) := by decide +kernel
theorem dX9_scanToken_36 : decode cX9_scanToken 36 = .ok (.getfield 34, 3) := by decide +kernel
theorem dX9_scanToken_39 : decode cX9_scanToken 39 = .ok (.iconst 1, 1) := by decide +kernel
theorem dX9_scanToken_40 : decode cX9_scanToken 40 = .ok (.iadd, 1) := by decide +kernel
theorem dX9_scanToken_41 : decode cX9_scanToken 41 = .ok (.iconst 0, 1) := by decide +kernel
theorem dX9_scanToken_42 : decode cX9_scanToken 42 = .ok (.iconst 0, 1) := by decide +kernel
theorem dX9_scanToken_43 : decode cX9_scanToken 43 = .ok (.invokevirtual 69, 3) := by decide +kernel
theorem dX9_scanToken_46 : decode cX9_scanToken 46 = .ok (.ireturn, 1) := by decide +kernel
theorem dX9_scanToken_47 : decode cX9_scanToken 47 = .ok (.iload_n 1, 1) := by decide +kernel
theorem dX9_scanToken_48 : decode cX9_scanToken 48 = .ok (.invokestatic 73, 3) := by decide +kernel
theorem dX9_scanToken_51 : decode cX9_scanToken 51 = .ok (.ifCond .eq 8, 3) := by decide +kernel
theorem dX9_scanToken_54 : decode cX9_scanToken 54 = .ok (.aload_n 0, 1) := by decide +kernel
theorem dX9_scanToken_55 : decode cX9_scanToken 55 = .ok (.invokevirtual 77, 3) := by decide +kernel
theorem dX9_scanToken_58 : decode cX9_scanToken 58 = .ok (.ireturn, 1) := by decide +kernel
theorem dX9_scanToken_59 : decode cX9_scanToken 59 = .ok (.iload_n 1, 1) := by decide +kernel
theorem dX9_scanToken_60 : decode cX9_scanToken 60 = .ok (.invokestatic 80, 3) := by decide +kernel
theorem dX9_scanToken_63 : decode cX9_scanToken 63 = .ok (.ifCond .eq 8, 3) := by decide +kernel
theorem dX9_scanToken_66 : decode cX9_scanToken 66 = .ok (.aload_n 0, 1) := by decide +kernel
theorem dX9_scanToken_67 : decode cX9_scanToken 67 = .ok (.invokevirtual 83, 3) := by decide +kernel
theorem dX9_scanToken_70 : decode cX9_scanToken 70 = .ok (.ireturn, 1) := by decide +kernel
theorem dX9_scanToken_71 : decode cX9_scanToken 71 = .ok (.iload_n 1, 1) := by decide +kernel
theorem dX9_scanToken_72 : decode cX9_scanToken 72 = .ok (.bipush 34, 2) := by decide +kernel
theorem dX9_scanToken_74 : decode cX9_scanToken 74 = .ok (.if_icmp .ne 56, 3) := by decide +kernel
theorem dX9_scanToken_77 : decode cX9_scanToken 77 = .ok (.aload_n 0, 1) := by decide +kernel
theorem dX9_scanToken_78 : decode cX9_scanToken 78 = .ok (.aload_n 0, 1) := by decide +kernel
theorem dX9_scanToken_79 : decode cX9_scanToken 79 = .ok (.getfield 34, 3) := by decide +kernel
theorem dX9_scanToken_82 : decode cX9_scanToken 82 = .ok (.iconst 1, 1) := by decide +kernel
theorem dX9_scanToken_83 : decode cX9_scanToken 83 = .ok (.iadd, 1) := by decide +kernel
theorem dX9_scanToken_84 : decode cX9_scanToken 84 = .ok (.invokevirtual 66, 3) := by decide +kernel
theorem dX9_scanToken_87 : decode cX9_scanToken 87 = .ok (.istore_n 2, 1) := by decide +kernel
theorem dX9_scanToken_88 : decode cX9_scanToken 88 = .ok (.iload_n 2, 1) := by decide +kernel
theorem dX9_scanToken_89 : decode cX9_scanToken 89 = .ok (.invokestatic 86, 3) := by decide +kernel
theorem dX9_scanToken_92 : decode cX9_scanToken 92 = .ok (.ifCond .eq 23, 3) := by decide +kernel
theorem dX9_scanToken_95 : decode cX9_scanToken 95 = .ok (.aload_n 0, 1) := by decide +kernel
