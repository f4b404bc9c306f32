theorem dX0_init_0 : decode cX0_init 0 = .ok (.aload_n 0, 1) := by decide +kernel
theorem dX0_init_1 : decode cX0_init 1 = .ok (.invokespecial 3, 3) := by decide +kernel
theorem dX0_init_4 : decode cX0_init 4 = .ok (.aload_n 0, 1) := by decide +kernel
theorem dX0_init_5 : decode cX0_init 5 = .ok (.new 9, 3) := by decide +kernel
theorem dX0_init_8 : decode cX0_init 8 = .ok (.dup, 1) := by decide +kernel
theorem dX0_init_9 : decode cX0_init 9 = .ok (.invokespecial 11, 3) := by decide +kernel
theorem dX0_init_12 : decode cX0_init 12 = .ok (.putfield 12, 3) := by decide +kernel
theorem dX0_init_15 : decode cX0_init 15 = .ok (.aload_n 0, 1) := by decide +kernel
theorem dX0_init_16 : decode cX0_init 16 = .ok (.new 18, 3) := by decide +kernel
theorem dX0_init_19 : decode cX0_init 19 = .ok (.dup, 1) := by decide +kernel
theorem dX0_init_20 : decode cX0_init 20 = .ok (.aload_n 0, 1) := by decide +kernel
theorem dX0_init_21 : decode cX0_init 21 = .ok (.getfield 12, 3) := by decide +kernel
theorem dX0_init_24 : decode cX0_init 24 = .ok (.invokespecial 20, 3) := by decide +kernel
theorem dX0_init_27 : decode cX0_init 27 = .ok (.putfield 23, 3) := by decide +kernel
theorem dX0_init_30 : decode cX0_init 30 = .ok (.aload_n 0, 1) := by decide +kernel
theorem dX0_init_31 : decode cX0_init 31 = .ok (.new 27, 3) := by decide +kernel
theorem dX0_init_34 : decode cX0_init 34 = .ok (.dup, 1) := by decide +kernel
theorem dX0_init_35 : decode cX0_init 35 = .ok (.invokespecial 29, 3) := by decide +kernel
theorem dX0_init_38 : decode cX0_init 38 = .ok (.putfield 30, 3) := by decide +kernel
theorem dX0_init_41 : decode cX0_init 41 = .ok (.aload_n 0, 1) := by decide +kernel
theorem dX0_init_42 : decode cX0_init 42 = .ok (.new 27, 3) := by decide +kernel
theorem dX0_init_45 : decode cX0_init 45 = .ok (.dup, 1) := by decide +kernel
theorem dX0_init_46 : decode cX0_init 46 = .ok (.invokespecial 29, 3) := by decide +kernel
theorem dX0_init_49 : decode cX0_init 49 = .ok (.putfield 34, 3) := by decide +kernel
theorem dX0_init_52 : decode cX0_init 52 = .ok (.aload_n 0, 1) := by decide +kernel
theorem dX0_init_53 : decode cX0_init 53 = .ok (.iconst 0, 1) := by decide +kernel
theorem dX0_init_54 : decode cX0_init 54 = .ok (.putfield 37, 3) := by decide +kernel
theorem dX0_init_57 : decode cX0_init 57 = .ok (.aload_n 0, 1) := by decide +kernel
theorem dX0_init_58 : decode cX0_init 58 = .ok (.iconst (-1), 1) := by decide +kernel
theorem dX0_init_59 : decode cX0_init 59 = .ok (.putfield 41, 3) := by decide +kernel
theorem dX0_init_62 : decode cX0_init 62 = .ok (.aload_n 0, 1) := by decide +kernel
theorem dX0_init_63 : decode cX0_init 63 = .ok (.iconst 0, 1) := by decide +kernel
theorem dX0_init_64 : decode cX0_init 64 = .ok (.putfield 44, 3) := by decide +kernel
theorem dX0_init_67 : decode cX0_init 67 = .ok (.aload_n 0, 1) := by decide +kernel
theorem dX0_init_68 : decode cX0_init 68 = .ok (.iconst 0, 1) := by decide +kernel
theorem dX0_init_69 : decode cX0_init 69 = .ok (.putfield 48, 3) := by decide +kernel
theorem dX0_init_72 : decode cX0_init 72 = .ok (.aload_n 0, 1) := by decide +kernel
theorem dX0_init_73 : decode cX0_init 73 = .ok (.iconst 0, 1) := by decide +kernel
theorem dX0_init_74 : decode cX0_init 74 = .ok (.putfield 51, 3) := by decide +kernel
theorem dX0_init_77 : decode cX0_init 77 = .ok (.aload_n 0, 1) := by decide +kernel
theorem dX0_init_78 : decode cX0_init 78 = .ok (.iconst 0, 1) := by decide +kernel
theorem dX0_init_79 : decode cX0_init 79 = .ok (.putfield 54, 3) := by decide +kernel
theorem dX0_init_82 : decode cX0_init 82 = .ok (.aload_n 0, 1) := by decide +kernel
theorem dX0_init_83 : decode cX0_init 83 = .ok (.sipush 128, 3) := by decide +kernel
theorem dX0_init_86 : decode cX0_init 86 = .ok (.putfield 57, 3) := by decide +kernel
theorem dX0_init_89 : decode cX0_init 89 = .ok (.return_, 1) := by decide +kernel
theorem dX0_open_0 : decode cX0_open 0 = .ok (.aload_n 0, 1) := by decide +kernel
theorem dX0_open_1 : decode cX0_open 1 = .ok (.getfield 23, 3) := by decide +kernel
theorem dX0_open_4 : decode cX0_open 4 = .ok (.aload_n 1, 1) := by decide +kernel
theorem dX0_open_5 : decode cX0_open 5 = .ok (.iload_n 2, 1) := by decide +kernel
theorem dX0_open_6 : decode cX0_open 6 = .ok (.invokevirtual 60, 3) := by decide +kernel
theorem dX0_open_9 : decode cX0_open 9 = .ok (.aload_n 0, 1) := by decide +kernel
theorem dX0_open_10 : decode cX0_open 10 = .ok (.getfield 34, 3) := by decide +kernel
theorem dX0_open_13 : decode cX0_open 13 = .ok (.invokevirtual 64, 3) := by decide +kernel
theorem dX0_open_16 : decode cX0_open 16 = .ok (.aload_n 0, 1) := by decide +kernel
theorem dX0_open_17 : decode cX0_open 17 = .ok (.iconst 0, 1) := by decide +kernel
theorem dX0_open_18 : decode cX0_open 18 = .ok (.putfield 37, 3) := by decide +kernel
theorem dX0_open_21 : decode cX0_open 21 = .ok (.aload_n 0, 1) := by decide +kernel
theorem dX0_open_22 : decode cX0_open 22 = .ok (.iconst (-1), 1) := by decide +kernel
theorem dX0_open_23 : decode cX0_open 23 = .ok (.putfield 41, 3) := by decide +kernel
theorem dX0_open_26 : decode cX0_open 26 = .ok (.return_, 1) := by decide +kernel
theorem dX0_close_0 : decode cX0_close 0 = .ok (.aload_n 0, 1) := by decide +kernel
theorem dX0_close_1 : decode cX0_close 1 = .ok (.getfield 37, 3) := by decide +kernel
theorem dX0_close_4 : decode cX0_close 4 = .ok (.ifCond .eq 5, 3) := by decide +kernel
theorem dX0_close_7 : decode cX0_close 7 = .ok (.iconst (-1), 1) := by decide +kernel
theorem dX0_close_8 : decode cX0_close 8 = .ok (.ireturn, 1) := by decide +kernel
theorem dX0_close_9 : decode cX0_close 9 = .ok (.aload_n 0, 1) := by decide +kernel
theorem dX0_close_10 : decode cX0_close 10 = .ok (.getfield 30, 3) := by decide +kernel
theorem dX0_close_13 : decode cX0_close 13 = .ok (.astore_n 1, 1) := by decide +kernel
theorem dX0_close_14 : decode cX0_close 14 = .ok (.aload_n 0, 1) := by decide +kernel
theorem dX0_close_15 : decode cX0_close 15 = .ok (.aload_n 0, 1) := by decide +kernel
theorem dX0_close_16 : decode cX0_close 16 = .ok (.getfield 34, 3) := by decide +kernel
theorem dX0_close_19 : decode cX0_close 19 = .ok (.putfield 30, 3) := by decide +kernel
theorem dX0_close_22 : decode cX0_close 22 = .ok (.aload_n 0, 1) := by decide +kernel
theorem dX0_close_23 : decode cX0_close 23 = .ok (.aload_n 1, 1) := by decide +kernel
theorem dX0_close_24 : decode cX0_close 24 = .ok (.putfield 34, 3) := by decide +kernel
theorem dX0_close_27 : decode cX0_close 27 = .ok (.aload_n 0, 1) := by decide +kernel
theorem dX0_close_28 : decode cX0_close 28 = .ok (.getfield 30, 3) := by decide +kernel
theorem dX0_close_31 : decode cX0_close 31 = .ok (.getfield 67, 3) := by decide +kernel
theorem dX0_close_34 : decode cX0_close 34 = .ok (.ireturn, 1) := by decide +kernel
theorem dX0_passOver_0 : decode cX0_passOver 0 = .ok (.aload_n 0, 1) := by decide +kernel
theorem dX0_passOver_1 : decode cX0_passOver 1 = .ok (.iload_n 1, 1) := by decide +kernel
theorem dX0_passOver_2 : decode cX0_passOver 2 = .ok (.putfield 44, 3) := by decide +kernel
theorem dX0_passOver_5 : decode cX0_passOver 5 = .ok (.aload_n 0, 1) := by decide +kernel
theorem dX0_passOver_6 : decode cX0_passOver 6 = .ok (.iconst 0, 1) := by decide +kernel
theorem dX0_passOver_7 : decode cX0_passOver 7 = .ok (.putfield 48, 3) := by decide +kernel
theorem dX0_passOver_10 : decode cX0_passOver 10 = .ok (.aload_n 0, 1) := by decide +kernel
theorem dX0_passOver_11 : decode cX0_passOver 11 = .ok (.iconst 0, 1) := by decide +kernel
theorem dX0_passOver_12 : decode cX0_passOver 12 = .ok (.putfield 51, 3) := by decide +kernel
theorem dX0_passOver_15 : decode cX0_passOver 15 = .ok (.aload_n 0, 1) := by decide +kernel
theorem dX0_passOver_16 : decode cX0_passOver 16 = .ok (.iconst 0, 1) := by decide +kernel
theorem dX0_passOver_17 : decode cX0_passOver 17 = .ok (.putfield 54, 3) := by decide +kernel
theorem dX0_passOver_20 : decode cX0_passOver 20 = .ok (.aload_n 0, 1) := by decide +kernel
theorem dX0_passOver_21 : decode cX0_passOver 21 = .ok (.sipush 128, 3) := by decide +kernel
theorem dX0_passOver_24 : decode cX0_passOver 24 = .ok (.putfield 57, 3) := by decide +kernel
theorem dX0_passOver_27 : decode cX0_passOver 27 = .ok (.iconst 0, 1) := by decide +kernel
theorem dX0_passOver_28 : decode cX0_passOver 28 = .ok (.istore_n 2, 1) := by decide +kernel
theorem dX0_passOver_29 : decode cX0_passOver 29 = .ok (.iload_n 2, 1) := by decide +kernel
theorem dX0_passOver_30 : decode cX0_passOver 30 = .ok (.aload_n 0, 1) := by decide +kernel
theorem dX0_passOver_31 : decode cX0_passOver 31 = .ok (.getfield 23, 3) := by decide +kernel
theorem dX0_passOver_34 : decode cX0_passOver 34 = .ok (.getfield 70, 3) := by decide +kernel
theorem dX0_passOver_37 : decode cX0_passOver 37 = .ok (.if_icmp .gt 35, 3) := by decide +kernel
theorem dX0_passOver_40 : decode cX0_passOver 40 = .ok (.aload_n 0, 1) := by decide +kernel
theorem dX0_passOver_41 : decode cX0_passOver 41 = .ok (.getfield 48, 3) := by decide +kernel
theorem dX0_passOver_44 : decode cX0_passOver 44 = .ok (.ifCond .ne 28, 3) := by decide +kernel
theorem dX0_passOver_47 : decode cX0_passOver 47 = .ok (.aload_n 0, 1) := by decide +kernel
theorem dX0_passOver_48 : decode cX0_passOver 48 = .ok (.getfield 37, 3) := by decide +kernel
theorem dX0_passOver_51 : decode cX0_passOver 51 = .ok (.ifCond .ne 21, 3) := by decide +kernel
theorem dX0_passOver_54 : decode cX0_passOver 54 = .ok (.aload_n 0, 1) := by decide +kernel
theorem dX0_passOver_55 : decode cX0_passOver 55 = .ok (.invokevirtual 71, 3) := by decide +kernel
theorem dX0_passOver_58 : decode cX0_passOver 58 = .ok (.aload_n 0, 1) := by decide +kernel
theorem dX0_passOver_59 : decode cX0_passOver 59 = .ok (.invokevirtual 74, 3) := by decide +kernel
theorem dX0_passOver_62 : decode cX0_passOver 62 = .ok (.aload_n 0, 1) := by decide +kernel
theorem dX0_passOver_63 : decode cX0_passOver 63 = .ok (.invokevirtual 77, 3) := by decide +kernel
theorem dX0_passOver_66 : decode cX0_passOver 66 = .ok (.iinc 2 1, 3) := by decide +kernel
theorem dX0_passOver_69 : decode cX0_passOver 69 = .ok (.goto (-40), 3) := by decide +kernel
theorem dX0_passOver_72 : decode cX0_passOver 72 = .ok (.return_, 1) := by decide +kernel
theorem dX0_report_0 : decode cX0_report 0 = .ok (.aload_n 0, 1) := by decide +kernel
theorem dX0_report_1 : decode cX0_report 1 = .ok (.getfield 37, 3) := by decide +kernel
theorem dX0_report_4 : decode cX0_report 4 = .ok (.ifCond .ne 46, 3) := by decide +kernel
theorem dX0_report_7 : decode cX0_report 7 = .ok (.aload_n 0, 1) := by decide +kernel
theorem dX0_report_8 : decode cX0_report 8 = .ok (.iload_n 1, 1) := by decide +kernel
theorem dX0_report_9 : decode cX0_report 9 = .ok (.putfield 37, 3) := by decide +kernel
theorem dX0_report_12 : decode cX0_report 12 = .ok (.aload_n 0, 1) := by decide +kernel
theorem dX0_report_13 : decode cX0_report 13 = .ok (.iload_n 2, 1) := by decide +kernel
theorem dX0_report_14 : decode cX0_report 14 = .ok (.ifCond .lt 14, 3) := by decide +kernel
theorem dX0_report_17 : decode cX0_report 17 = .ok (.iload_n 2, 1) := by decide +kernel
theorem dX0_report_18 : decode cX0_report 18 = .ok (.aload_n 0, 1) := by decide +kernel
theorem dX0_report_19 : decode cX0_report 19 = .ok (.getfield 23, 3) := by decide +kernel
theorem dX0_report_22 : decode cX0_report 22 = .ok (.getfield 70, 3) := by decide +kernel
theorem dX0_report_25 : decode cX0_report 25 = .ok (.if_icmp .lt 13, 3) := by decide +kernel
theorem dX0_report_28 : decode cX0_report 28 = .ok (.aload_n 0, 1) := by decide +kernel
theorem dX0_report_29 : decode cX0_report 29 = .ok (.getfield 23, 3) := by decide +kernel
theorem dX0_report_32 : decode cX0_report 32 = .ok (.getfield 80, 3) := by decide +kernel
theorem dX0_report_35 : decode cX0_report 35 = .ok (.goto 12, 3) := by decide +kernel
theorem dX0_report_38 : decode cX0_report 38 = .ok (.aload_n 0, 1) := by decide +kernel
theorem dX0_report_39 : decode cX0_report 39 = .ok (.getfield 23, 3) := by decide +kernel
theorem dX0_report_42 : decode cX0_report 42 = .ok (.getfield 83, 3) := by decide +kernel
theorem dX0_report_45 : decode cX0_report 45 = .ok (.iload_n 2, 1) := by decide +kernel
theorem dX0_report_46 : decode cX0_report 46 = .ok (.iaload, 1) := by decide +kernel
theorem dX0_report_47 : decode cX0_report 47 = .ok (.putfield 41, 3) := by decide +kernel
theorem dX0_report_50 : decode cX0_report 50 = .ok (.return_, 1) := by decide +kernel
theorem dX0_refuse_0 : decode cX0_refuse 0 = .ok (.aload_n 0, 1) := by decide +kernel
theorem dX0_refuse_1 : decode cX0_refuse 1 = .ok (.iload_n 1, 1) := by decide +kernel
theorem dX0_refuse_2 : decode cX0_refuse 2 = .ok (.bipush 6, 2) := by decide +kernel
theorem dX0_refuse_4 : decode cX0_refuse 4 = .ok (.if_icmp .ne 7, 3) := by decide +kernel
theorem dX0_refuse_7 : decode cX0_refuse 7 = .ok (.iconst 1, 1) := by decide +kernel
theorem dX0_refuse_8 : decode cX0_refuse 8 = .ok (.goto 4, 3) := by decide +kernel
theorem dX0_refuse_11 : decode cX0_refuse 11 = .ok (.iconst 2, 1) := by decide +kernel
theorem dX0_refuse_12 : decode cX0_refuse 12 = .ok (.aload_n 0, 1) := by decide +kernel
theorem dX0_refuse_13 : decode cX0_refuse 13 = .ok (.getfield 54, 3) := by decide +kernel
theorem dX0_refuse_16 : decode cX0_refuse 16 = .ok (.invokevirtual 87, 3) := by decide +kernel
theorem dX0_refuse_19 : decode cX0_refuse 19 = .ok (.return_, 1) := by decide +kernel
theorem dX0_kindAt_0 : decode cX0_kindAt 0 = .ok (.iload_n 1, 1) := by decide +kernel
theorem dX0_kindAt_1 : decode cX0_kindAt 1 = .ok (.ifCond .lt 14, 3) := by decide +kernel
theorem dX0_kindAt_4 : decode cX0_kindAt 4 = .ok (.iload_n 1, 1) := by decide +kernel
theorem dX0_kindAt_5 : decode cX0_kindAt 5 = .ok (.aload_n 0, 1) := by decide +kernel
theorem dX0_kindAt_6 : decode cX0_kindAt 6 = .ok (.getfield 23, 3) := by decide +kernel
theorem dX0_kindAt_9 : decode cX0_kindAt 9 = .ok (.getfield 70, 3) := by decide +kernel
theorem dX0_kindAt_12 : decode cX0_kindAt 12 = .ok (.if_icmp .lt 5, 3) := by decide +kernel
theorem dX0_kindAt_15 : decode cX0_kindAt 15 = .ok (.iconst 0, 1) := by decide +kernel
theorem dX0_kindAt_16 : decode cX0_kindAt 16 = .ok (.ireturn, 1) := by decide +kernel
theorem dX0_kindAt_17 : decode cX0_kindAt 17 = .ok (.aload_n 0, 1) := by decide +kernel
theorem dX0_kindAt_18 : decode cX0_kindAt 18 = .ok (.getfield 23, 3) := by decide +kernel
theorem dX0_kindAt_21 : decode cX0_kindAt 21 = .ok (.getfield 91, 3) := by decide +kernel
theorem dX0_kindAt_24 : decode cX0_kindAt 24 = .ok (.iload_n 1, 1) := by decide +kernel
theorem dX0_kindAt_25 : decode cX0_kindAt 25 = .ok (.iaload, 1) := by decide +kernel
theorem dX0_kindAt_26 : decode cX0_kindAt 26 = .ok (.istore_n 2, 1) := by decide +kernel
theorem dX0_kindAt_27 : decode cX0_kindAt 27 = .ok (.iload_n 2, 1) := by decide +kernel
theorem dX0_kindAt_28 : decode cX0_kindAt 28 = .ok (.iconst 2, 1) := by decide +kernel
theorem dX0_kindAt_29 : decode cX0_kindAt 29 = .ok (.if_icmp .eq 5, 3) := by decide +kernel
theorem dX0_kindAt_32 : decode cX0_kindAt 32 = .ok (.iload_n 2, 1) := by decide +kernel
theorem dX0_kindAt_33 : decode cX0_kindAt 33 = .ok (.ireturn, 1) := by decide +kernel
theorem dX0_kindAt_34 : decode cX0_kindAt 34 = .ok (.aload_n 0, 1) := by decide +kernel
theorem dX0_kindAt_35 : decode cX0_kindAt 35 = .ok (.getfield 51, 3) := by decide +kernel
theorem dX0_kindAt_38 : decode cX0_kindAt 38 = .ok (.ifCond .eq 15, 3) := by decide +kernel
theorem dX0_kindAt_41 : decode cX0_kindAt 41 = .ok (.aload_n 0, 1) := by decide +kernel
theorem dX0_kindAt_42 : decode cX0_kindAt 42 = .ok (.getfield 23, 3) := by decide +kernel
theorem dX0_kindAt_45 : decode cX0_kindAt 45 = .ok (.getfield 94, 3) := by decide +kernel
theorem dX0_kindAt_48 : decode cX0_kindAt 48 = .ok (.iload_n 1, 1) := by decide +kernel
theorem dX0_kindAt_49 : decode cX0_kindAt 49 = .ok (.iaload, 1) := by decide +kernel
theorem dX0_kindAt_50 : decode cX0_kindAt 50 = .ok (.goto 12, 3) := by decide +kernel
theorem dX0_kindAt_53 : decode cX0_kindAt 53 = .ok (.aload_n 0, 1) := by decide +kernel
theorem dX0_kindAt_54 : decode cX0_kindAt 54 = .ok (.getfield 23, 3) := by decide +kernel
theorem dX0_kindAt_57 : decode cX0_kindAt 57 = .ok (.getfield 97, 3) := by decide +kernel
theorem dX0_kindAt_60 : decode cX0_kindAt 60 = .ok (.iload_n 1, 1) := by decide +kernel
theorem dX0_kindAt_61 : decode cX0_kindAt 61 = .ok (.iaload, 1) := by decide +kernel
theorem dX0_kindAt_62 : decode cX0_kindAt 62 = .ok (.istore_n 3, 1) := by decide +kernel
theorem dX0_kindAt_63 : decode cX0_kindAt 63 = .ok (.iload_n 3, 1) := by decide +kernel
theorem dX0_kindAt_64 : decode cX0_kindAt 64 = .ok (.iconst (-1), 1) := by decide +kernel
theorem dX0_kindAt_65 : decode cX0_kindAt 65 = .ok (.if_icmp .ne 8, 3) := by decide +kernel
theorem dX0_kindAt_68 : decode cX0_kindAt 68 = .ok (.bipush 6, 2) := by decide +kernel
theorem dX0_kindAt_70 : decode cX0_kindAt 70 = .ok (.goto 4, 3) := by decide +kernel
theorem dX0_kindAt_73 : decode cX0_kindAt 73 = .ok (.iload_n 2, 1) := by decide +kernel
theorem dX0_kindAt_74 : decode cX0_kindAt 74 = .ok (.ireturn, 1) := by decide +kernel
theorem dX0_isEnd_0 : decode cX0_isEnd 0 = .ok (.iload_n 0, 1) := by decide +kernel
theorem dX0_isEnd_1 : decode cX0_isEnd 1 = .ok (.bipush 59, 2) := by decide +kernel
theorem dX0_isEnd_3 : decode cX0_isEnd 3 = .ok (.if_icmp .eq 13, 3) := by decide +kernel
theorem dX0_isEnd_6 : decode cX0_isEnd 6 = .ok (.iload_n 0, 1) := by decide +kernel
theorem dX0_isEnd_7 : decode cX0_isEnd 7 = .ok (.bipush 10, 2) := by decide +kernel
theorem dX0_isEnd_9 : decode cX0_isEnd 9 = .ok (.if_icmp .eq 7, 3) := by decide +kernel
theorem dX0_isEnd_12 : decode cX0_isEnd 12 = .ok (.iload_n 0, 1) := by decide +kernel
theorem dX0_isEnd_13 : decode cX0_isEnd 13 = .ok (.ifCond .ne 7, 3) := by decide +kernel
theorem dX0_isEnd_16 : decode cX0_isEnd 16 = .ok (.iconst 1, 1) := by decide +kernel
theorem dX0_isEnd_17 : decode cX0_isEnd 17 = .ok (.goto 4, 3) := by decide +kernel
theorem dX0_isEnd_20 : decode cX0_isEnd 20 = .ok (.iconst 0, 1) := by decide +kernel
theorem dX0_isEnd_21 : decode cX0_isEnd 21 = .ok (.ireturn, 1) := by decide +kernel
theorem dX0_passLabels_0 : decode cX0_passLabels 0 = .ok (.iconst 0, 1) := by decide +kernel
theorem dX0_passLabels_1 : decode cX0_passLabels 1 = .ok (.istore_n 1, 1) := by decide +kernel
theorem dX0_passLabels_2 : decode cX0_passLabels 2 = .ok (.iload_n 1, 1) := by decide +kernel
theorem dX0_passLabels_3 : decode cX0_passLabels 3 = .ok (.aload_n 0, 1) := by decide +kernel
theorem dX0_passLabels_4 : decode cX0_passLabels 4 = .ok (.getfield 23, 3) := by decide +kernel
theorem dX0_passLabels_7 : decode cX0_passLabels 7 = .ok (.getfield 70, 3) := by decide +kernel
theorem dX0_passLabels_10 : decode cX0_passLabels 10 = .ok (.if_icmp .gt 96, 3) := by decide +kernel
theorem dX0_passLabels_13 : decode cX0_passLabels 13 = .ok (.aload_n 0, 1) := by decide +kernel
theorem dX0_passLabels_14 : decode cX0_passLabels 14 = .ok (.getfield 37, 3) := by decide +kernel
theorem dX0_passLabels_17 : decode cX0_passLabels 17 = .ok (.ifCond .ne 89, 3) := by decide +kernel
theorem dX0_passLabels_20 : decode cX0_passLabels 20 = .ok (.aload_n 0, 1) := by decide +kernel
theorem dX0_passLabels_21 : decode cX0_passLabels 21 = .ok (.aload_n 0, 1) := by decide +kernel
theorem dX0_passLabels_22 : decode cX0_passLabels 22 = .ok (.getfield 54, 3) := by decide +kernel
theorem dX0_passLabels_25 : decode cX0_passLabels 25 = .ok (.invokevirtual 100, 3) := by decide +kernel
theorem dX0_passLabels_28 : decode cX0_passLabels 28 = .ok (.iconst 1, 1) := by decide +kernel
theorem dX0_passLabels_29 : decode cX0_passLabels 29 = .ok (.if_icmp .ne 18, 3) := by decide +kernel
theorem dX0_passLabels_32 : decode cX0_passLabels 32 = .ok (.aload_n 0, 1) := by decide +kernel
theorem dX0_passLabels_33 : decode cX0_passLabels 33 = .ok (.aload_n 0, 1) := by decide +kernel
theorem dX0_passLabels_34 : decode cX0_passLabels 34 = .ok (.getfield 54, 3) := by decide +kernel
theorem dX0_passLabels_37 : decode cX0_passLabels 37 = .ok (.iconst 1, 1) := by decide +kernel
theorem dX0_passLabels_38 : decode cX0_passLabels 38 = .ok (.iadd, 1) := by decide +kernel
theorem dX0_passLabels_39 : decode cX0_passLabels 39 = .ok (.invokevirtual 100, 3) := by decide +kernel
theorem dX0_passLabels_42 : decode cX0_passLabels 42 = .ok (.bipush 44, 2) := by decide +kernel
theorem dX0_passLabels_44 : decode cX0_passLabels 44 = .ok (.if_icmp .eq 4, 3) := by decide +kernel
theorem dX0_passLabels_47 : decode cX0_passLabels 47 = .ok (.return_, 1) := by decide +kernel
theorem dX0_passLabels_48 : decode cX0_passLabels 48 = .ok (.aload_n 0, 1) := by decide +kernel
theorem dX0_passLabels_49 : decode cX0_passLabels 49 = .ok (.getfield 44, 3) := by decide +kernel
theorem dX0_passLabels_52 : decode cX0_passLabels 52 = .ok (.ifCond .ne 38, 3) := by decide +kernel
theorem dX0_passLabels_55 : decode cX0_passLabels 55 = .ok (.aload_n 0, 1) := by decide +kernel
theorem dX0_passLabels_56 : decode cX0_passLabels 56 = .ok (.iconst 1, 1) := by decide +kernel
theorem dX0_passLabels_57 : decode cX0_passLabels 57 = .ok (.invokevirtual 104, 3) := by decide +kernel
theorem dX0_passLabels_60 : decode cX0_passLabels 60 = .ok (.ifCond .eq 30, 3) := by decide +kernel
theorem dX0_passLabels_63 : decode cX0_passLabels 63 = .ok (.aload_n 0, 1) := by decide +kernel
theorem dX0_passLabels_64 : decode cX0_passLabels 64 = .ok (.getfield 12, 3) := by decide +kernel
theorem dX0_passLabels_67 : decode cX0_passLabels 67 = .ok (.aload_n 0, 1) := by decide +kernel
theorem dX0_passLabels_68 : decode cX0_passLabels 68 = .ok (.getfield 23, 3) := by decide +kernel
theorem dX0_passLabels_71 : decode cX0_passLabels 71 = .ok (.aload_n 0, 1) := by decide +kernel
theorem dX0_passLabels_72 : decode cX0_passLabels 72 = .ok (.getfield 54, 3) := by decide +kernel
theorem dX0_passLabels_75 : decode cX0_passLabels 75 = .ok (.invokevirtual 108, 3) := by decide +kernel
theorem dX0_passLabels_78 : decode cX0_passLabels 78 = .ok (.aload_n 0, 1) := by decide +kernel
theorem dX0_passLabels_79 : decode cX0_passLabels 79 = .ok (.getfield 57, 3) := by decide +kernel
theorem dX0_passLabels_82 : decode cX0_passLabels 82 = .ok (.sipush 4095, 3) := by decide +kernel
theorem dX0_passLabels_85 : decode cX0_passLabels 85 = .ok (.iand, 1) := by decide +kernel
theorem dX0_passLabels_86 : decode cX0_passLabels 86 = .ok (.iconst 1, 1) := by decide +kernel
theorem dX0_passLabels_87 : decode cX0_passLabels 87 = .ok (.invokevirtual 111, 3) := by decide +kernel
theorem dX0_passLabels_90 : decode cX0_passLabels 90 = .ok (.aload_n 0, 1) := by decide +kernel
theorem dX0_passLabels_91 : decode cX0_passLabels 91 = .ok (.dup, 1) := by decide +kernel
theorem dX0_passLabels_92 : decode cX0_passLabels 92 = .ok (.getfield 54, 3) := by decide +kernel
theorem dX0_passLabels_95 : decode cX0_passLabels 95 = .ok (.iconst 2, 1) := by decide +kernel
theorem dX0_passLabels_96 : decode cX0_passLabels 96 = .ok (.iadd, 1) := by decide +kernel
theorem dX0_passLabels_97 : decode cX0_passLabels 97 = .ok (.putfield 54, 3) := by decide +kernel
theorem dX0_passLabels_100 : decode cX0_passLabels 100 = .ok (.iinc 1 1, 3) := by decide +kernel
theorem dX0_passLabels_103 : decode cX0_passLabels 103 = .ok (.goto (-101), 3) := by decide +kernel
theorem dX0_passLabels_106 : decode cX0_passLabels 106 = .ok (.return_, 1) := by decide +kernel
theorem dX0_mayTell_0 : decode cX0_mayTell 0 = .ok (.aload_n 0, 1) := by decide +kernel
theorem dX0_mayTell_1 : decode cX0_mayTell 1 = .ok (.getfield 12, 3) := by decide +kernel
theorem dX0_mayTell_4 : decode cX0_mayTell 4 = .ok (.aload_n 0, 1) := by decide +kernel
theorem dX0_mayTell_5 : decode cX0_mayTell 5 = .ok (.getfield 23, 3) := by decide +kernel
theorem dX0_mayTell_8 : decode cX0_mayTell 8 = .ok (.aload_n 0, 1) := by decide +kernel
theorem dX0_mayTell_9 : decode cX0_mayTell 9 = .ok (.getfield 54, 3) := by decide +kernel
theorem dX0_mayTell_12 : decode cX0_mayTell 12 = .ok (.invokevirtual 108, 3) := by decide +kernel
theorem dX0_mayTell_15 : decode cX0_mayTell 15 = .ok (.invokevirtual 115, 3) := by decide +kernel
theorem dX0_mayTell_18 : decode cX0_mayTell 18 = .ok (.istore_n 2, 1) := by decide +kernel
theorem dX0_mayTell_19 : decode cX0_mayTell 19 = .ok (.iload_n 2, 1) := by decide +kernel
theorem dX0_mayTell_20 : decode cX0_mayTell 20 = .ok (.iconst 3, 1) := by decide +kernel
theorem dX0_mayTell_21 : decode cX0_mayTell 21 = .ok (.if_icmp .ne 15, 3) := by decide +kernel
theorem dX0_mayTell_24 : decode cX0_mayTell 24 = .ok (.aload_n 0, 1) := by decide +kernel
theorem dX0_mayTell_25 : decode cX0_mayTell 25 = .ok (.iconst 5, 1) := by decide +kernel
theorem dX0_mayTell_26 : decode cX0_mayTell 26 = .ok (.aload_n 0, 1) := by decide +kernel
theorem dX0_mayTell_27 : decode cX0_mayTell 27 = .ok (.getfield 54, 3) := by decide +kernel
theorem dX0_mayTell_30 : decode cX0_mayTell 30 = .ok (.invokevirtual 87, 3) := by decide +kernel
theorem dX0_mayTell_33 : decode cX0_mayTell 33 = .ok (.goto 57, 3) := by decide +kernel
theorem dX0_mayTell_36 : decode cX0_mayTell 36 = .ok (.iload_n 2, 1) := by decide +kernel
theorem dX0_mayTell_37 : decode cX0_mayTell 37 = .ok (.iconst 1, 1) := by decide +kernel
theorem dX0_mayTell_38 : decode cX0_mayTell 38 = .ok (.if_icmp .eq 13, 3) := by decide +kernel
theorem dX0_mayTell_41 : decode cX0_mayTell 41 = .ok (.iload_n 2, 1) := by decide +kernel
theorem dX0_mayTell_42 : decode cX0_mayTell 42 = .ok (.iconst 2, 1) := by decide +kernel
theorem dX0_mayTell_43 : decode cX0_mayTell 43 = .ok (.if_icmp .ne 20, 3) := by decide +kernel
theorem dX0_mayTell_46 : decode cX0_mayTell 46 = .ok (.iload_n 1, 1) := by decide +kernel
theorem dX0_mayTell_47 : decode cX0_mayTell 47 = .ok (.iconst 1, 1) := by decide +kernel
theorem dX0_mayTell_48 : decode cX0_mayTell 48 = .ok (.if_icmp .ne 15, 3) := by decide +kernel
theorem dX0_mayTell_51 : decode cX0_mayTell 51 = .ok (.aload_n 0, 1) := by decide +kernel
theorem dX0_mayTell_52 : decode cX0_mayTell 52 = .ok (.iconst 4, 1) := by decide +kernel
theorem dX0_mayTell_53 : decode cX0_mayTell 53 = .ok (.aload_n 0, 1) := by decide +kernel
theorem dX0_mayTell_54 : decode cX0_mayTell 54 = .ok (.getfield 54, 3) := by decide +kernel
theorem dX0_mayTell_57 : decode cX0_mayTell 57 = .ok (.invokevirtual 87, 3) := by decide +kernel
theorem dX0_mayTell_60 : decode cX0_mayTell 60 = .ok (.goto 30, 3) := by decide +kernel
theorem dX0_mayTell_63 : decode cX0_mayTell 63 = .ok (.iload_n 2, 1) := by decide +kernel
theorem dX0_mayTell_64 : decode cX0_mayTell 64 = .ok (.ifCond .ne 26, 3) := by decide +kernel
theorem dX0_mayTell_67 : decode cX0_mayTell 67 = .ok (.aload_n 0, 1) := by decide +kernel
theorem dX0_mayTell_68 : decode cX0_mayTell 68 = .ok (.getfield 12, 3) := by decide +kernel
theorem dX0_mayTell_71 : decode cX0_mayTell 71 = .ok (.getfield 118, 3) := by decide +kernel
theorem dX0_mayTell_74 : decode cX0_mayTell 74 = .ok (.sipush 200, 3) := by decide +kernel
theorem dX0_mayTell_77 : decode cX0_mayTell 77 = .ok (.if_icmp .lt 13, 3) := by decide +kernel
theorem dX0_mayTell_80 : decode cX0_mayTell 80 = .ok (.aload_n 0, 1) := by decide +kernel
theorem dX0_mayTell_81 : decode cX0_mayTell 81 = .ok (.bipush 6, 2) := by decide +kernel
theorem dX0_mayTell_83 : decode cX0_mayTell 83 = .ok (.aload_n 0, 1) := by decide +kernel
theorem dX0_mayTell_84 : decode cX0_mayTell 84 = .ok (.getfield 54, 3) := by decide +kernel
theorem dX0_mayTell_87 : decode cX0_mayTell 87 = .ok (.invokevirtual 87, 3) := by decide +kernel
theorem dX0_mayTell_90 : decode cX0_mayTell 90 = .ok (.aload_n 0, 1) := by decide +kernel
theorem dX0_mayTell_91 : decode cX0_mayTell 91 = .ok (.getfield 37, 3) := by decide +kernel
theorem dX0_mayTell_94 : decode cX0_mayTell 94 = .ok (.ifCond .ne 7, 3) := by decide +kernel
theorem dX0_mayTell_97 : decode cX0_mayTell 97 = .ok (.iconst 1, 1) := by decide +kernel
theorem dX0_mayTell_98 : decode cX0_mayTell 98 = .ok (.goto 4, 3) := by decide +kernel
theorem dX0_mayTell_101 : decode cX0_mayTell 101 = .ok (.iconst 0, 1) := by decide +kernel
theorem dX0_mayTell_102 : decode cX0_mayTell 102 = .ok (.ireturn, 1) := by decide +kernel
theorem dX0_passEnd_0 : decode cX0_passEnd 0 = .ok (.aload_n 0, 1) := by decide +kernel
theorem dX0_passEnd_1 : decode cX0_passEnd 1 = .ok (.getfield 37, 3) := by decide +kernel
theorem dX0_passEnd_4 : decode cX0_passEnd 4 = .ok (.ifCond .ne 10, 3) := by decide +kernel
theorem dX0_passEnd_7 : decode cX0_passEnd 7 = .ok (.aload_n 0, 1) := by decide +kernel
theorem dX0_passEnd_8 : decode cX0_passEnd 8 = .ok (.getfield 48, 3) := by decide +kernel
theorem dX0_passEnd_11 : decode cX0_passEnd 11 = .ok (.ifCond .eq 4, 3) := by decide +kernel
theorem dX0_passEnd_14 : decode cX0_passEnd 14 = .ok (.return_, 1) := by decide +kernel
theorem dX0_passEnd_15 : decode cX0_passEnd 15 = .ok (.aload_n 0, 1) := by decide +kernel
theorem dX0_passEnd_16 : decode cX0_passEnd 16 = .ok (.aload_n 0, 1) := by decide +kernel
theorem dX0_passEnd_17 : decode cX0_passEnd 17 = .ok (.getfield 54, 3) := by decide +kernel
theorem dX0_passEnd_20 : decode cX0_passEnd 20 = .ok (.invokevirtual 100, 3) := by decide +kernel
theorem dX0_passEnd_23 : decode cX0_passEnd 23 = .ok (.istore_n 1, 1) := by decide +kernel
theorem dX0_passEnd_24 : decode cX0_passEnd 24 = .ok (.iload_n 1, 1) := by decide +kernel
theorem dX0_passEnd_25 : decode cX0_passEnd 25 = .ok (.invokestatic 121, 3) := by decide +kernel
theorem dX0_passEnd_28 : decode cX0_passEnd 28 = .ok (.ifCond .ne 11, 3) := by decide +kernel
theorem dX0_passEnd_31 : decode cX0_passEnd 31 = .ok (.aload_n 0, 1) := by decide +kernel
theorem dX0_passEnd_32 : decode cX0_passEnd 32 = .ok (.iload_n 1, 1) := by decide +kernel
theorem dX0_passEnd_33 : decode cX0_passEnd 33 = .ok (.invokevirtual 124, 3) := by decide +kernel
theorem dX0_passEnd_36 : decode cX0_passEnd 36 = .ok (.goto 25, 3) := by decide +kernel
theorem dX0_passEnd_39 : decode cX0_passEnd 39 = .ok (.iload_n 1, 1) := by decide +kernel
theorem dX0_passEnd_40 : decode cX0_passEnd 40 = .ok (.ifCond .ne 11, 3) := by decide +kernel
theorem dX0_passEnd_43 : decode cX0_passEnd 43 = .ok (.aload_n 0, 1) := by decide +kernel
theorem dX0_passEnd_44 : decode cX0_passEnd 44 = .ok (.iconst 1, 1) := by decide +kernel
theorem dX0_passEnd_45 : decode cX0_passEnd 45 = .ok (.putfield 48, 3) := by decide +kernel
theorem dX0_passEnd_48 : decode cX0_passEnd 48 = .ok (.goto 13, 3) := by decide +kernel
theorem dX0_passEnd_51 : decode cX0_passEnd 51 = .ok (.aload_n 0, 1) := by decide +kernel
theorem dX0_passEnd_52 : decode cX0_passEnd 52 = .ok (.dup, 1) := by decide +kernel
theorem dX0_passEnd_53 : decode cX0_passEnd 53 = .ok (.getfield 54, 3) := by decide +kernel
theorem dX0_passEnd_56 : decode cX0_passEnd 56 = .ok (.iconst 1, 1) := by decide +kernel
theorem dX0_passEnd_57 : decode cX0_passEnd 57 = .ok (.iadd, 1) := by decide +kernel
theorem dX0_passEnd_58 : decode cX0_passEnd 58 = .ok (.putfield 54, 3) := by decide +kernel
theorem dX0_passEnd_61 : decode cX0_passEnd 61 = .ok (.return_, 1) := by decide +kernel
theorem dX0_passStatement_0 : decode cX0_passStatement 0 = .ok (.aload_n 0, 1) := by decide +kernel
theorem dX0_passStatement_1 : decode cX0_passStatement 1 = .ok (.aload_n 0, 1) := by decide +kernel
theorem dX0_passStatement_2 : decode cX0_passStatement 2 = .ok (.getfield 54, 3) := by decide +kernel
theorem dX0_passStatement_5 : decode cX0_passStatement 5 = .ok (.invokevirtual 100, 3) := by decide +kernel
theorem dX0_passStatement_8 : decode cX0_passStatement 8 = .ok (.istore_n 1, 1) := by decide +kernel
theorem dX0_passStatement_9 : decode cX0_passStatement 9 = .ok (.aload_n 0, 1) := by decide +kernel
theorem dX0_passStatement_10 : decode cX0_passStatement 10 = .ok (.getfield 37, 3) := by decide +kernel
theorem dX0_passStatement_13 : decode cX0_passStatement 13 = .ok (.ifCond .ne 10, 3) := by decide +kernel
theorem dX0_passStatement_16 : decode cX0_passStatement 16 = .ok (.iload_n 1, 1) := by decide +kernel
theorem dX0_passStatement_17 : decode cX0_passStatement 17 = .ok (.invokestatic 121, 3) := by decide +kernel
theorem dX0_passStatement_20 : decode cX0_passStatement 20 = .ok (.ifCond .eq 4, 3) := by decide +kernel
theorem dX0_passStatement_23 : decode cX0_passStatement 23 = .ok (.return_, 1) := by decide +kernel
theorem dX0_passStatement_24 : decode cX0_passStatement 24 = .ok (.iload_n 1, 1) := by decide +kernel
theorem dX0_passStatement_25 : decode cX0_passStatement 25 = .ok (.iconst 1, 1) := by decide +kernel
theorem dX0_passStatement_26 : decode cX0_passStatement 26 = .ok (.if_icmp .ne 10, 3) := by decide +kernel
theorem dX0_passStatement_29 : decode cX0_passStatement 29 = .ok (.aload_n 0, 1) := by decide +kernel
theorem dX0_passStatement_30 : decode cX0_passStatement 30 = .ok (.invokevirtual 128, 3) := by decide +kernel
theorem dX0_passStatement_33 : decode cX0_passStatement 33 = .ok (.goto 4, 3) := by decide +kernel
theorem dX0_passStatement_36 : decode cX0_passStatement 36 = .ok (.iload_n 1, 1) := by decide +kernel
theorem dX0_passStatement_37 : decode cX0_passStatement 37 = .ok (.lookupswitch 169 #[(4, 143), (5, 150), (36, 91), (42, 99), (256, 106), (257, 162), (300, 113), (301, 120), (302, 128), (303, 136)], 91) := by decide +kernel
theorem dX0_passStatement_128 : decode cX0_passStatement 128 = .ok (.aload_n 0, 1) := by decide +kernel
theorem dX0_passStatement_129 : decode cX0_passStatement 129 = .ok (.iconst 1, 1) := by decide +kernel
theorem dX0_passStatement_130 : decode cX0_passStatement 130 = .ok (.putfield 48, 3) := by decide +kernel
theorem dX0_passStatement_133 : decode cX0_passStatement 133 = .ok (.goto 77, 3) := by decide +kernel
theorem dX0_passStatement_136 : decode cX0_passStatement 136 = .ok (.aload_n 0, 1) := by decide +kernel
theorem dX0_passStatement_137 : decode cX0_passStatement 137 = .ok (.invokevirtual 132, 3) := by decide +kernel
theorem dX0_passStatement_140 : decode cX0_passStatement 140 = .ok (.goto 70, 3) := by decide +kernel
theorem dX0_passStatement_143 : decode cX0_passStatement 143 = .ok (.aload_n 0, 1) := by decide +kernel
theorem dX0_passStatement_144 : decode cX0_passStatement 144 = .ok (.invokevirtual 135, 3) := by decide +kernel
theorem dX0_passStatement_147 : decode cX0_passStatement 147 = .ok (.goto 63, 3) := by decide +kernel
theorem dX0_passStatement_150 : decode cX0_passStatement 150 = .ok (.aload_n 0, 1) := by decide +kernel
theorem dX0_passStatement_151 : decode cX0_passStatement 151 = .ok (.invokevirtual 138, 3) := by decide +kernel
theorem dX0_passStatement_154 : decode cX0_passStatement 154 = .ok (.goto 56, 3) := by decide +kernel
theorem dX0_passStatement_157 : decode cX0_passStatement 157 = .ok (.aload_n 0, 1) := by decide +kernel
theorem dX0_passStatement_158 : decode cX0_passStatement 158 = .ok (.iconst 1, 1) := by decide +kernel
theorem dX0_passStatement_159 : decode cX0_passStatement 159 = .ok (.invokevirtual 141, 3) := by decide +kernel
theorem dX0_passStatement_162 : decode cX0_passStatement 162 = .ok (.goto 48, 3) := by decide +kernel
theorem dX0_passStatement_165 : decode cX0_passStatement 165 = .ok (.aload_n 0, 1) := by decide +kernel
theorem dX0_passStatement_166 : decode cX0_passStatement 166 = .ok (.iconst 0, 1) := by decide +kernel
theorem dX0_passStatement_167 : decode cX0_passStatement 167 = .ok (.invokevirtual 141, 3) := by decide +kernel
theorem dX0_passStatement_170 : decode cX0_passStatement 170 = .ok (.goto 40, 3) := by decide +kernel
theorem dX0_passStatement_173 : decode cX0_passStatement 173 = .ok (.aload_n 0, 1) := by decide +kernel
theorem dX0_passStatement_174 : decode cX0_passStatement 174 = .ok (.invokevirtual 145, 3) := by decide +kernel
theorem dX0_passStatement_177 : decode cX0_passStatement 177 = .ok (.goto 33, 3) := by decide +kernel
theorem dX0_passStatement_180 : decode cX0_passStatement 180 = .ok (.aload_n 0, 1) := by decide +kernel
theorem dX0_passStatement_181 : decode cX0_passStatement 181 = .ok (.invokevirtual 148, 3) := by decide +kernel
theorem dX0_passStatement_184 : decode cX0_passStatement 184 = .ok (.goto 26, 3) := by decide +kernel
theorem dX0_passStatement_187 : decode cX0_passStatement 187 = .ok (.aload_n 0, 1) := by decide +kernel
theorem dX0_passStatement_188 : decode cX0_passStatement 188 = .ok (.iconst 1, 1) := by decide +kernel
theorem dX0_passStatement_189 : decode cX0_passStatement 189 = .ok (.aload_n 0, 1) := by decide +kernel
theorem dX0_passStatement_190 : decode cX0_passStatement 190 = .ok (.getfield 54, 3) := by decide +kernel
theorem dX0_passStatement_193 : decode cX0_passStatement 193 = .ok (.invokevirtual 87, 3) := by decide +kernel
theorem dX0_passStatement_196 : decode cX0_passStatement 196 = .ok (.goto 14, 3) := by decide +kernel
theorem dX0_passStatement_199 : decode cX0_passStatement 199 = .ok (.aload_n 0, 1) := by decide +kernel
theorem dX0_passStatement_200 : decode cX0_passStatement 200 = .ok (.invokevirtual 151, 3) := by decide +kernel
theorem dX0_passStatement_203 : decode cX0_passStatement 203 = .ok (.goto 7, 3) := by decide +kernel
theorem dX0_passStatement_206 : decode cX0_passStatement 206 = .ok (.aload_n 0, 1) := by decide +kernel
theorem dX0_passStatement_207 : decode cX0_passStatement 207 = .ok (.invokevirtual 154, 3) := by decide +kernel
theorem dX0_passStatement_210 : decode cX0_passStatement 210 = .ok (.return_, 1) := by decide +kernel
theorem dX0_kindOfNamed_0 : decode cX0_kindOfNamed 0 = .ok (.aload_n 0, 1) := by decide +kernel
theorem dX0_kindOfNamed_1 : decode cX0_kindOfNamed 1 = .ok (.getfield 23, 3) := by decide +kernel
theorem dX0_kindOfNamed_4 : decode cX0_kindOfNamed 4 = .ok (.aload_n 0, 1) := by decide +kernel
theorem dX0_kindOfNamed_5 : decode cX0_kindOfNamed 5 = .ok (.getfield 54, 3) := by decide +kernel
theorem dX0_kindOfNamed_8 : decode cX0_kindOfNamed 8 = .ok (.invokevirtual 108, 3) := by decide +kernel
theorem dX0_kindOfNamed_11 : decode cX0_kindOfNamed 11 = .ok (.istore_n 1, 1) := by decide +kernel
theorem dX0_kindOfNamed_12 : decode cX0_kindOfNamed 12 = .ok (.aload_n 0, 1) := by decide +kernel
theorem dX0_kindOfNamed_13 : decode cX0_kindOfNamed 13 = .ok (.aload_n 0, 1) := by decide +kernel
theorem dX0_kindOfNamed_14 : decode cX0_kindOfNamed 14 = .ok (.getfield 54, 3) := by decide +kernel
theorem dX0_kindOfNamed_17 : decode cX0_kindOfNamed 17 = .ok (.iconst 1, 1) := by decide +kernel
theorem dX0_kindOfNamed_18 : decode cX0_kindOfNamed 18 = .ok (.iadd, 1) := by decide +kernel
theorem dX0_kindOfNamed_19 : decode cX0_kindOfNamed 19 = .ok (.invokevirtual 100, 3) := by decide +kernel
theorem dX0_kindOfNamed_22 : decode cX0_kindOfNamed 22 = .ok (.bipush 61, 2) := by decide +kernel
theorem dX0_kindOfNamed_24 : decode cX0_kindOfNamed 24 = .ok (.if_icmp .ne 7, 3) := by decide +kernel
theorem dX0_kindOfNamed_27 : decode cX0_kindOfNamed 27 = .ok (.sipush 256, 3) := by decide +kernel
theorem dX0_kindOfNamed_30 : decode cX0_kindOfNamed 30 = .ok (.ireturn, 1) := by decide +kernel
theorem dX0_kindOfNamed_31 : decode cX0_kindOfNamed 31 = .ok (.iload_n 1, 1) := by decide +kernel
theorem dX0_kindOfNamed_32 : decode cX0_kindOfNamed 32 = .ok (.invokestatic 157, 3) := by decide +kernel
theorem dX0_kindOfNamed_35 : decode cX0_kindOfNamed 35 = .ok (.ifCond .eq 9, 3) := by decide +kernel
theorem dX0_kindOfNamed_38 : decode cX0_kindOfNamed 38 = .ok (.sipush 300, 3) := by decide +kernel
theorem dX0_kindOfNamed_41 : decode cX0_kindOfNamed 41 = .ok (.iload_n 1, 1) := by decide +kernel
theorem dX0_kindOfNamed_42 : decode cX0_kindOfNamed 42 = .ok (.iadd, 1) := by decide +kernel
theorem dX0_kindOfNamed_43 : decode cX0_kindOfNamed 43 = .ok (.ireturn, 1) := by decide +kernel
theorem dX0_kindOfNamed_44 : decode cX0_kindOfNamed 44 = .ok (.aload_n 0, 1) := by decide +kernel
theorem dX0_kindOfNamed_45 : decode cX0_kindOfNamed 45 = .ok (.aload_n 0, 1) := by decide +kernel
theorem dX0_kindOfNamed_46 : decode cX0_kindOfNamed 46 = .ok (.getfield 54, 3) := by decide +kernel
theorem dX0_kindOfNamed_49 : decode cX0_kindOfNamed 49 = .ok (.iconst 1, 1) := by decide +kernel
theorem dX0_kindOfNamed_50 : decode cX0_kindOfNamed 50 = .ok (.iadd, 1) := by decide +kernel
theorem dX0_kindOfNamed_51 : decode cX0_kindOfNamed 51 = .ok (.invokevirtual 100, 3) := by decide +kernel
theorem dX0_kindOfNamed_54 : decode cX0_kindOfNamed 54 = .ok (.bipush 45, 2) := by decide +kernel
theorem dX0_kindOfNamed_56 : decode cX0_kindOfNamed 56 = .ok (.if_icmp .eq 20, 3) := by decide +kernel
theorem dX0_kindOfNamed_59 : decode cX0_kindOfNamed 59 = .ok (.aload_n 0, 1) := by decide +kernel
theorem dX0_kindOfNamed_60 : decode cX0_kindOfNamed 60 = .ok (.aload_n 0, 1) := by decide +kernel
theorem dX0_kindOfNamed_61 : decode cX0_kindOfNamed 61 = .ok (.getfield 54, 3) := by decide +kernel
theorem dX0_kindOfNamed_64 : decode cX0_kindOfNamed 64 = .ok (.iconst 1, 1) := by decide +kernel
theorem dX0_kindOfNamed_65 : decode cX0_kindOfNamed 65 = .ok (.iadd, 1) := by decide +kernel
theorem dX0_kindOfNamed_66 : decode cX0_kindOfNamed 66 = .ok (.invokevirtual 160, 3) := by decide +kernel
theorem dX0_kindOfNamed_69 : decode cX0_kindOfNamed 69 = .ok (.ifCond .eq 7, 3) := by decide +kernel
theorem dX0_kindOfNamed_72 : decode cX0_kindOfNamed 72 = .ok (.iconst 1, 1) := by decide +kernel
theorem dX0_kindOfNamed_73 : decode cX0_kindOfNamed 73 = .ok (.goto 4, 3) := by decide +kernel
theorem dX0_kindOfNamed_76 : decode cX0_kindOfNamed 76 = .ok (.iconst 0, 1) := by decide +kernel
theorem dX0_kindOfNamed_77 : decode cX0_kindOfNamed 77 = .ok (.istore_n 2, 1) := by decide +kernel
theorem dX0_kindOfNamed_78 : decode cX0_kindOfNamed 78 = .ok (.iload_n 1, 1) := by decide +kernel
theorem dX0_kindOfNamed_79 : decode cX0_kindOfNamed 79 = .ok (.iconst 5, 1) := by decide +kernel
theorem dX0_kindOfNamed_80 : decode cX0_kindOfNamed 80 = .ok (.if_icmp .lt 13, 3) := by decide +kernel
theorem dX0_kindOfNamed_83 : decode cX0_kindOfNamed 83 = .ok (.iload_n 1, 1) := by decide +kernel
theorem dX0_kindOfNamed_84 : decode cX0_kindOfNamed 84 = .ok (.bipush 10, 2) := by decide +kernel
theorem dX0_kindOfNamed_86 : decode cX0_kindOfNamed 86 = .ok (.if_icmp .gt 7, 3) := by decide +kernel
theorem dX0_kindOfNamed_89 : decode cX0_kindOfNamed 89 = .ok (.iconst 1, 1) := by decide +kernel
theorem dX0_kindOfNamed_90 : decode cX0_kindOfNamed 90 = .ok (.goto 4, 3) := by decide +kernel
theorem dX0_kindOfNamed_93 : decode cX0_kindOfNamed 93 = .ok (.iconst 0, 1) := by decide +kernel
theorem dX0_kindOfNamed_94 : decode cX0_kindOfNamed 94 = .ok (.istore_n 3, 1) := by decide +kernel
theorem dX0_kindOfNamed_95 : decode cX0_kindOfNamed 95 = .ok (.iload_n 3, 1) := by decide +kernel
theorem dX0_kindOfNamed_96 : decode cX0_kindOfNamed 96 = .ok (.ifCond .eq 13, 3) := by decide +kernel
theorem dX0_kindOfNamed_99 : decode cX0_kindOfNamed 99 = .ok (.iload_n 2, 1) := by decide +kernel
theorem dX0_kindOfNamed_100 : decode cX0_kindOfNamed 100 = .ok (.ifCond .eq 9, 3) := by decide +kernel
theorem dX0_kindOfNamed_103 : decode cX0_kindOfNamed 103 = .ok (.sipush 257, 3) := by decide +kernel
theorem dX0_kindOfNamed_106 : decode cX0_kindOfNamed 106 = .ok (.goto 4, 3) := by decide +kernel
theorem dX0_kindOfNamed_109 : decode cX0_kindOfNamed 109 = .ok (.iconst 1, 1) := by decide +kernel
theorem dX0_kindOfNamed_110 : decode cX0_kindOfNamed 110 = .ok (.ireturn, 1) := by decide +kernel
theorem dX0_passRadix_0 : decode cX0_passRadix 0 = .ok (.aload_n 0, 1) := by decide +kernel
theorem dX0_passRadix_1 : decode cX0_passRadix 1 = .ok (.iload_n 1, 1) := by decide +kernel
theorem dX0_passRadix_2 : decode cX0_passRadix 2 = .ok (.putfield 51, 3) := by decide +kernel
theorem dX0_passRadix_5 : decode cX0_passRadix 5 = .ok (.aload_n 0, 1) := by decide +kernel
theorem dX0_passRadix_6 : decode cX0_passRadix 6 = .ok (.dup, 1) := by decide +kernel
theorem dX0_passRadix_7 : decode cX0_passRadix 7 = .ok (.getfield 54, 3) := by decide +kernel
theorem dX0_passRadix_10 : decode cX0_passRadix 10 = .ok (.iconst 1, 1) := by decide +kernel
theorem dX0_passRadix_11 : decode cX0_passRadix 11 = .ok (.iadd, 1) := by decide +kernel
theorem dX0_passRadix_12 : decode cX0_passRadix 12 = .ok (.putfield 54, 3) := by decide +kernel
theorem dX0_passRadix_15 : decode cX0_passRadix 15 = .ok (.return_, 1) := by decide +kernel
theorem dX0_passOrigin_0 : decode cX0_passOrigin 0 = .ok (.aload_n 0, 1) := by decide +kernel
theorem dX0_passOrigin_1 : decode cX0_passOrigin 1 = .ok (.dup, 1) := by decide +kernel
theorem dX0_passOrigin_2 : decode cX0_passOrigin 2 = .ok (.getfield 54, 3) := by decide +kernel
theorem dX0_passOrigin_5 : decode cX0_passOrigin 5 = .ok (.iconst 1, 1) := by decide +kernel
theorem dX0_passOrigin_6 : decode cX0_passOrigin 6 = .ok (.iadd, 1) := by decide +kernel
theorem dX0_passOrigin_7 : decode cX0_passOrigin 7 = .ok (.putfield 54, 3) := by decide +kernel
theorem dX0_passOrigin_10 : decode cX0_passOrigin 10 = .ok (.aload_n 0, 1) := by decide +kernel
theorem dX0_passOrigin_11 : decode cX0_passOrigin 11 = .ok (.iconst 1, 1) := by decide +kernel
theorem dX0_passOrigin_12 : decode cX0_passOrigin 12 = .ok (.invokevirtual 163, 3) := by decide +kernel
theorem dX0_passOrigin_15 : decode cX0_passOrigin 15 = .ok (.istore_n 1, 1) := by decide +kernel
theorem dX0_passOrigin_16 : decode cX0_passOrigin 16 = .ok (.aload_n 0, 1) := by decide +kernel
theorem dX0_passOrigin_17 : decode cX0_passOrigin 17 = .ok (.getfield 37, 3) := by decide +kernel
theorem dX0_passOrigin_20 : decode cX0_passOrigin 20 = .ok (.ifCond .ne 8, 3) := by decide +kernel
theorem dX0_passOrigin_23 : decode cX0_passOrigin 23 = .ok (.aload_n 0, 1) := by decide +kernel
theorem dX0_passOrigin_24 : decode cX0_passOrigin 24 = .ok (.iload_n 1, 1) := by decide +kernel
theorem dX0_passOrigin_25 : decode cX0_passOrigin 25 = .ok (.putfield 57, 3) := by decide +kernel
theorem dX0_passOrigin_28 : decode cX0_passOrigin 28 = .ok (.return_, 1) := by decide +kernel
theorem dX0_passEquation_0 : decode cX0_passEquation 0 = .ok (.aload_n 0, 1) := by decide +kernel
theorem dX0_passEquation_1 : decode cX0_passEquation 1 = .ok (.getfield 23, 3) := by decide +kernel
theorem dX0_passEquation_4 : decode cX0_passEquation 4 = .ok (.aload_n 0, 1) := by decide +kernel
theorem dX0_passEquation_5 : decode cX0_passEquation 5 = .ok (.getfield 54, 3) := by decide +kernel
theorem dX0_passEquation_8 : decode cX0_passEquation 8 = .ok (.invokevirtual 108, 3) := by decide +kernel
theorem dX0_passEquation_11 : decode cX0_passEquation 11 = .ok (.istore_n 1, 1) := by decide +kernel
theorem dX0_passEquation_12 : decode cX0_passEquation 12 = .ok (.aload_n 0, 1) := by decide +kernel
theorem dX0_passEquation_13 : decode cX0_passEquation 13 = .ok (.iconst 2, 1) := by decide +kernel
theorem dX0_passEquation_14 : decode cX0_passEquation 14 = .ok (.invokevirtual 104, 3) := by decide +kernel
theorem dX0_passEquation_17 : decode cX0_passEquation 17 = .ok (.ifCond .ne 4, 3) := by decide +kernel
theorem dX0_passEquation_20 : decode cX0_passEquation 20 = .ok (.return_, 1) := by decide +kernel
theorem dX0_passEquation_21 : decode cX0_passEquation 21 = .ok (.aload_n 0, 1) := by decide +kernel
theorem dX0_passEquation_22 : decode cX0_passEquation 22 = .ok (.dup, 1) := by decide +kernel
theorem dX0_passEquation_23 : decode cX0_passEquation 23 = .ok (.getfield 54, 3) := by decide +kernel
theorem dX0_passEquation_26 : decode cX0_passEquation 26 = .ok (.iconst 2, 1) := by decide +kernel
theorem dX0_passEquation_27 : decode cX0_passEquation 27 = .ok (.iadd, 1) := by decide +kernel
theorem dX0_passEquation_28 : decode cX0_passEquation 28 = .ok (.putfield 54, 3) := by decide +kernel
theorem dX0_passEquation_31 : decode cX0_passEquation 31 = .ok (.aload_n 0, 1) := by decide +kernel
theorem dX0_passEquation_32 : decode cX0_passEquation 32 = .ok (.iconst 1, 1) := by decide +kernel
theorem dX0_passEquation_33 : decode cX0_passEquation 33 = .ok (.invokevirtual 163, 3) := by decide +kernel
theorem dX0_passEquation_36 : decode cX0_passEquation 36 = .ok (.istore_n 2, 1) := by decide +kernel
theorem dX0_passEquation_37 : decode cX0_passEquation 37 = .ok (.aload_n 0, 1) := by decide +kernel
theorem dX0_passEquation_38 : decode cX0_passEquation 38 = .ok (.getfield 37, 3) := by decide +kernel
theorem dX0_passEquation_41 : decode cX0_passEquation 41 = .ok (.ifCond .ne 13, 3) := by decide +kernel
theorem dX0_passEquation_44 : decode cX0_passEquation 44 = .ok (.aload_n 0, 1) := by decide +kernel
theorem dX0_passEquation_45 : decode cX0_passEquation 45 = .ok (.getfield 12, 3) := by decide +kernel
theorem dX0_passEquation_48 : decode cX0_passEquation 48 = .ok (.iload_n 1, 1) := by decide +kernel
theorem dX0_passEquation_49 : decode cX0_passEquation 49 = .ok (.iload_n 2, 1) := by decide +kernel
theorem dX0_passEquation_50 : decode cX0_passEquation 50 = .ok (.iconst 2, 1) := by decide +kernel
theorem dX0_passEquation_51 : decode cX0_passEquation 51 = .ok (.invokevirtual 111, 3) := by decide +kernel
theorem dX0_passEquation_54 : decode cX0_passEquation 54 = .ok (.return_, 1) := by decide +kernel
theorem dX0_passPage_0 : decode cX0_passPage 0 = .ok (.aload_n 0, 1) := by decide +kernel
theorem dX0_passPage_1 : decode cX0_passPage 1 = .ok (.dup, 1) := by decide +kernel
theorem dX0_passPage_2 : decode cX0_passPage 2 = .ok (.getfield 54, 3) := by decide +kernel
theorem dX0_passPage_5 : decode cX0_passPage 5 = .ok (.iconst 1, 1) := by decide +kernel
theorem dX0_passPage_6 : decode cX0_passPage 6 = .ok (.iadd, 1) := by decide +kernel
theorem dX0_passPage_7 : decode cX0_passPage 7 = .ok (.putfield 54, 3) := by decide +kernel
theorem dX0_passPage_10 : decode cX0_passPage 10 = .ok (.aload_n 0, 1) := by decide +kernel
theorem dX0_passPage_11 : decode cX0_passPage 11 = .ok (.aload_n 0, 1) := by decide +kernel
theorem dX0_passPage_12 : decode cX0_passPage 12 = .ok (.getfield 54, 3) := by decide +kernel
theorem dX0_passPage_15 : decode cX0_passPage 15 = .ok (.invokevirtual 167, 3) := by decide +kernel
theorem dX0_passPage_18 : decode cX0_passPage 18 = .ok (.ifCond .ne 26, 3) := by decide +kernel
theorem dX0_passPage_21 : decode cX0_passPage 21 = .ok (.aload_n 0, 1) := by decide +kernel
theorem dX0_passPage_22 : decode cX0_passPage 22 = .ok (.aload_n 0, 1) := by decide +kernel
theorem dX0_passPage_23 : decode cX0_passPage 23 = .ok (.getfield 57, 3) := by decide +kernel
theorem dX0_passPage_26 : decode cX0_passPage 26 = .ok (.sipush 128, 3) := by decide +kernel
theorem dX0_passPage_29 : decode cX0_passPage 29 = .ok (.iadd, 1) := by decide +kernel
theorem dX0_passPage_30 : decode cX0_passPage 30 = .ok (.iconst 1, 1) := by decide +kernel
theorem dX0_passPage_31 : decode cX0_passPage 31 = .ok (.isub, 1) := by decide +kernel
theorem dX0_passPage_32 : decode cX0_passPage 32 = .ok (.sipush 128, 3) := by decide +kernel
theorem dX0_passPage_35 : decode cX0_passPage 35 = .ok (.idiv, 1) := by decide +kernel
theorem dX0_passPage_36 : decode cX0_passPage 36 = .ok (.sipush 128, 3) := by decide +kernel
theorem dX0_passPage_39 : decode cX0_passPage 39 = .ok (.imul, 1) := by decide +kernel
theorem dX0_passPage_40 : decode cX0_passPage 40 = .ok (.putfield 57, 3) := by decide +kernel
theorem dX0_passPage_43 : decode cX0_passPage 43 = .ok (.return_, 1) := by decide +kernel
theorem dX0_passPage_44 : decode cX0_passPage 44 = .ok (.aload_n 0, 1) := by decide +kernel
theorem dX0_passPage_45 : decode cX0_passPage 45 = .ok (.getfield 54, 3) := by decide +kernel
theorem dX0_passPage_48 : decode cX0_passPage 48 = .ok (.istore_n 1, 1) := by decide +kernel
theorem dX0_passPage_49 : decode cX0_passPage 49 = .ok (.aload_n 0, 1) := by decide +kernel
theorem dX0_passPage_50 : decode cX0_passPage 50 = .ok (.iconst 1, 1) := by decide +kernel
theorem dX0_passPage_51 : decode cX0_passPage 51 = .ok (.invokevirtual 163, 3) := by decide +kernel
theorem dX0_passPage_54 : decode cX0_passPage 54 = .ok (.istore_n 2, 1) := by decide +kernel
theorem dX0_passPage_55 : decode cX0_passPage 55 = .ok (.aload_n 0, 1) := by decide +kernel
theorem dX0_passPage_56 : decode cX0_passPage 56 = .ok (.getfield 37, 3) := by decide +kernel
theorem dX0_passPage_59 : decode cX0_passPage 59 = .ok (.ifCond .eq 4, 3) := by decide +kernel
theorem dX0_passPage_62 : decode cX0_passPage 62 = .ok (.return_, 1) := by decide +kernel
theorem dX0_passPage_63 : decode cX0_passPage 63 = .ok (.iload_n 2, 1) := by decide +kernel
theorem dX0_passPage_64 : decode cX0_passPage 64 = .ok (.bipush 32, 2) := by decide +kernel
theorem dX0_passPage_66 : decode cX0_passPage 66 = .ok (.if_icmp .lt 13, 3) := by decide +kernel
theorem dX0_passPage_69 : decode cX0_passPage 69 = .ok (.aload_n 0, 1) := by decide +kernel
theorem dX0_passPage_70 : decode cX0_passPage 70 = .ok (.bipush 6, 2) := by decide +kernel
theorem dX0_passPage_72 : decode cX0_passPage 72 = .ok (.iload_n 1, 1) := by decide +kernel
theorem dX0_passPage_73 : decode cX0_passPage 73 = .ok (.invokevirtual 87, 3) := by decide +kernel
theorem dX0_passPage_76 : decode cX0_passPage 76 = .ok (.goto 12, 3) := by decide +kernel
theorem dX0_passPage_79 : decode cX0_passPage 79 = .ok (.aload_n 0, 1) := by decide +kernel
theorem dX0_passPage_80 : decode cX0_passPage 80 = .ok (.iload_n 2, 1) := by decide +kernel
theorem dX0_passPage_81 : decode cX0_passPage 81 = .ok (.sipush 128, 3) := by decide +kernel
theorem dX0_passPage_84 : decode cX0_passPage 84 = .ok (.imul, 1) := by decide +kernel
theorem dX0_passPage_85 : decode cX0_passPage 85 = .ok (.putfield 57, 3) := by decide +kernel
theorem dX0_passPage_88 : decode cX0_passPage 88 = .ok (.return_, 1) := by decide +kernel
theorem dX0_passZeros_0 : decode cX0_passZeros 0 = .ok (.aload_n 0, 1) := by decide +kernel
theorem dX0_passZeros_1 : decode cX0_passZeros 1 = .ok (.getfield 54, 3) := by decide +kernel
theorem dX0_passZeros_4 : decode cX0_passZeros 4 = .ok (.istore_n 1, 1) := by decide +kernel
theorem dX0_passZeros_5 : decode cX0_passZeros 5 = .ok (.aload_n 0, 1) := by decide +kernel
theorem dX0_passZeros_6 : decode cX0_passZeros 6 = .ok (.dup, 1) := by decide +kernel
theorem dX0_passZeros_7 : decode cX0_passZeros 7 = .ok (.getfield 54, 3) := by decide +kernel
theorem dX0_passZeros_10 : decode cX0_passZeros 10 = .ok (.iconst 1, 1) := by decide +kernel
theorem dX0_passZeros_11 : decode cX0_passZeros 11 = .ok (.iadd, 1) := by decide +kernel
theorem dX0_passZeros_12 : decode cX0_passZeros 12 = .ok (.putfield 54, 3) := by decide +kernel
theorem dX0_passZeros_15 : decode cX0_passZeros 15 = .ok (.aload_n 0, 1) := by decide +kernel
theorem dX0_passZeros_16 : decode cX0_passZeros 16 = .ok (.iconst 1, 1) := by decide +kernel
theorem dX0_passZeros_17 : decode cX0_passZeros 17 = .ok (.invokevirtual 163, 3) := by decide +kernel
theorem dX0_passZeros_20 : decode cX0_passZeros 20 = .ok (.istore_n 2, 1) := by decide +kernel
theorem dX0_passZeros_21 : decode cX0_passZeros 21 = .ok (.aload_n 0, 1) := by decide +kernel
theorem dX0_passZeros_22 : decode cX0_passZeros 22 = .ok (.iload_n 1, 1) := by decide +kernel
theorem dX0_passZeros_23 : decode cX0_passZeros 23 = .ok (.iload_n 2, 1) := by decide +kernel
theorem dX0_passZeros_24 : decode cX0_passZeros 24 = .ok (.invokevirtual 170, 3) := by decide +kernel
theorem dX0_passZeros_27 : decode cX0_passZeros 27 = .ok (.ifCond .ne 4, 3) := by decide +kernel
theorem dX0_passZeros_30 : decode cX0_passZeros 30 = .ok (.return_, 1) := by decide +kernel
theorem dX0_passZeros_31 : decode cX0_passZeros 31 = .ok (.iconst 0, 1) := by decide +kernel
theorem dX0_passZeros_32 : decode cX0_passZeros 32 = .ok (.istore_n 3, 1) := by decide +kernel
theorem dX0_passZeros_33 : decode cX0_passZeros 33 = .ok (.aload_n 0, 1) := by decide +kernel
theorem dX0_passZeros_34 : decode cX0_passZeros 34 = .ok (.getfield 44, 3) := by decide +kernel
theorem dX0_passZeros_37 : decode cX0_passZeros 37 = .ok (.ifCond .eq 28, 3) := by decide +kernel
theorem dX0_passZeros_40 : decode cX0_passZeros 40 = .ok (.iload_n 3, 1) := by decide +kernel
theorem dX0_passZeros_41 : decode cX0_passZeros 41 = .ok (.iload_n 2, 1) := by decide +kernel
theorem dX0_passZeros_42 : decode cX0_passZeros 42 = .ok (.if_icmp .ge 23, 3) := by decide +kernel
theorem dX0_passZeros_45 : decode cX0_passZeros 45 = .ok (.aload_n 0, 1) := by decide +kernel
theorem dX0_passZeros_46 : decode cX0_passZeros 46 = .ok (.getfield 34, 3) := by decide +kernel
theorem dX0_passZeros_49 : decode cX0_passZeros 49 = .ok (.aload_n 0, 1) := by decide +kernel
theorem dX0_passZeros_50 : decode cX0_passZeros 50 = .ok (.getfield 57, 3) := by decide +kernel
theorem dX0_passZeros_53 : decode cX0_passZeros 53 = .ok (.iload_n 3, 1) := by decide +kernel
theorem dX0_passZeros_54 : decode cX0_passZeros 54 = .ok (.iadd, 1) := by decide +kernel
theorem dX0_passZeros_55 : decode cX0_passZeros 55 = .ok (.iconst 0, 1) := by decide +kernel
theorem dX0_passZeros_56 : decode cX0_passZeros 56 = .ok (.invokevirtual 174, 3) := by decide +kernel
theorem dX0_passZeros_59 : decode cX0_passZeros 59 = .ok (.iinc 3 1, 3) := by decide +kernel
theorem dX0_passZeros_62 : decode cX0_passZeros 62 = .ok (.goto (-29), 3) := by decide +kernel
theorem dX0_passZeros_65 : decode cX0_passZeros 65 = .ok (.aload_n 0, 1) := by decide +kernel
theorem dX0_passZeros_66 : decode cX0_passZeros 66 = .ok (.dup, 1) := by decide +kernel
theorem dX0_passZeros_67 : decode cX0_passZeros 67 = .ok (.getfield 57, 3) := by decide +kernel
theorem dX0_passZeros_70 : decode cX0_passZeros 70 = .ok (.iload_n 2, 1) := by decide +kernel
theorem dX0_passZeros_71 : decode cX0_passZeros 71 = .ok (.iadd, 1) := by decide +kernel
theorem dX0_passZeros_72 : decode cX0_passZeros 72 = .ok (.putfield 57, 3) := by decide +kernel
theorem dX0_passZeros_75 : decode cX0_passZeros 75 = .ok (.return_, 1) := by decide +kernel
theorem dX0_passText_0 : decode cX0_passText 0 = .ok (.aload_n 0, 1) := by decide +kernel
theorem dX0_passText_1 : decode cX0_passText 1 = .ok (.getfield 54, 3) := by decide +kernel
theorem dX0_passText_4 : decode cX0_passText 4 = .ok (.istore_n 1, 1) := by decide +kernel
theorem dX0_passText_5 : decode cX0_passText 5 = .ok (.aload_n 0, 1) := by decide +kernel
theorem dX0_passText_6 : decode cX0_passText 6 = .ok (.getfield 23, 3) := by decide +kernel
theorem dX0_passText_9 : decode cX0_passText 9 = .ok (.iload_n 1, 1) := by decide +kernel
theorem dX0_passText_10 : decode cX0_passText 10 = .ok (.invokevirtual 108, 3) := by decide +kernel
theorem dX0_passText_13 : decode cX0_passText 13 = .ok (.istore_n 2, 1) := by decide +kernel
theorem dX0_passText_14 : decode cX0_passText 14 = .ok (.aload_n 0, 1) := by decide +kernel
theorem dX0_passText_15 : decode cX0_passText 15 = .ok (.getfield 23, 3) := by decide +kernel
theorem dX0_passText_18 : decode cX0_passText 18 = .ok (.iload_n 1, 1) := by decide +kernel
theorem dX0_passText_19 : decode cX0_passText 19 = .ok (.invokevirtual 177, 3) := by decide +kernel
theorem dX0_passText_22 : decode cX0_passText 22 = .ok (.istore_n 3, 1) := by decide +kernel
theorem dX0_passText_23 : decode cX0_passText 23 = .ok (.iload_n 3, 1) := by decide +kernel
theorem dX0_passText_24 : decode cX0_passText 24 = .ok (.iload_n 2, 1) := by decide +kernel
theorem dX0_passText_25 : decode cX0_passText 25 = .ok (.isub, 1) := by decide +kernel
theorem dX0_passText_26 : decode cX0_passText 26 = .ok (.iconst 2, 1) := by decide +kernel
theorem dX0_passText_27 : decode cX0_passText 27 = .ok (.idiv, 1) := by decide +kernel
theorem dX0_passText_28 : decode cX0_passText 28 = .ok (.iconst 1, 1) := by decide +kernel
theorem dX0_passText_29 : decode cX0_passText 29 = .ok (.iadd, 1) := by decide +kernel
theorem dX0_passText_30 : decode cX0_passText 30 = .ok (.istore 4, 2) := by decide +kernel
theorem dX0_passText_32 : decode cX0_passText 32 = .ok (.aload_n 0, 1) := by decide +kernel
theorem dX0_passText_33 : decode cX0_passText 33 = .ok (.dup, 1) := by decide +kernel
theorem dX0_passText_34 : decode cX0_passText 34 = .ok (.getfield 54, 3) := by decide +kernel
theorem dX0_passText_37 : decode cX0_passText 37 = .ok (.iconst 1, 1) := by decide +kernel
theorem dX0_passText_38 : decode cX0_passText 38 = .ok (.iadd, 1) := by decide +kernel
theorem dX0_passText_39 : decode cX0_passText 39 = .ok (.putfield 54, 3) := by decide +kernel
theorem dX0_passText_42 : decode cX0_passText 42 = .ok (.aload_n 0, 1) := by decide +kernel
theorem dX0_passText_43 : decode cX0_passText 43 = .ok (.iload_n 1, 1) := by decide +kernel
theorem dX0_passText_44 : decode cX0_passText 44 = .ok (.iload 4, 2) := by decide +kernel
theorem dX0_passText_46 : decode cX0_passText 46 = .ok (.invokevirtual 170, 3) := by decide +kernel
theorem dX0_passText_49 : decode cX0_passText 49 = .ok (.ifCond .ne 4, 3) := by decide +kernel
theorem dX0_passText_52 : decode cX0_passText 52 = .ok (.return_, 1) := by decide +kernel
theorem dX0_passText_53 : decode cX0_passText 53 = .ok (.iconst 0, 1) := by decide +kernel
theorem dX0_passText_54 : decode cX0_passText 54 = .ok (.istore 5, 2) := by decide +kernel
theorem dX0_passText_56 : decode cX0_passText 56 = .ok (.aload_n 0, 1) := by decide +kernel
theorem dX0_passText_57 : decode cX0_passText 57 = .ok (.getfield 44, 3) := by decide +kernel
theorem dX0_passText_60 : decode cX0_passText 60 = .ok (.ifCond .eq 62, 3) := by decide +kernel
theorem dX0_passText_63 : decode cX0_passText 63 = .ok (.iload 5, 2) := by decide +kernel
theorem dX0_passText_65 : decode cX0_passText 65 = .ok (.iload 4, 2) := by decide +kernel
theorem dX0_passText_67 : decode cX0_passText 67 = .ok (.if_icmp .ge 55, 3) := by decide +kernel
theorem dX0_passText_70 : decode cX0_passText 70 = .ok (.aload_n 0, 1) := by decide +kernel
theorem dX0_passText_71 : decode cX0_passText 71 = .ok (.iload_n 2, 1) := by decide +kernel
theorem dX0_passText_72 : decode cX0_passText 72 = .ok (.iconst 2, 1) := by decide +kernel
theorem dX0_passText_73 : decode cX0_passText 73 = .ok (.iload 5, 2) := by decide +kernel
theorem dX0_passText_75 : decode cX0_passText 75 = .ok (.imul, 1) := by decide +kernel
theorem dX0_passText_76 : decode cX0_passText 76 = .ok (.iadd, 1) := by decide +kernel
theorem dX0_passText_77 : decode cX0_passText 77 = .ok (.iload_n 3, 1) := by decide +kernel
theorem dX0_passText_78 : decode cX0_passText 78 = .ok (.invokevirtual 180, 3) := by decide +kernel
theorem dX0_passText_81 : decode cX0_passText 81 = .ok (.istore 6, 2) := by decide +kernel
theorem dX0_passText_83 : decode cX0_passText 83 = .ok (.aload_n 0, 1) := by decide +kernel
theorem dX0_passText_84 : decode cX0_passText 84 = .ok (.getfield 34, 3) := by decide +kernel
theorem dX0_passText_87 : decode cX0_passText 87 = .ok (.aload_n 0, 1) := by decide +kernel
theorem dX0_passText_88 : decode cX0_passText 88 = .ok (.getfield 57, 3) := by decide +kernel
theorem dX0_passText_91 : decode cX0_passText 91 = .ok (.iload 5, 2) := by decide +kernel
theorem dX0_passText_93 : decode cX0_passText 93 = .ok (.iadd, 1) := by decide +kernel
theorem dX0_passText_94 : decode cX0_passText 94 = .ok (.iload 6, 2) := by decide +kernel
theorem dX0_passText_96 : decode cX0_passText 96 = .ok (.bipush 6, 2) := by decide +kernel
theorem dX0_passText_98 : decode cX0_passText 98 = .ok (.ishl, 1) := by decide +kernel
theorem dX0_passText_99 : decode cX0_passText 99 = .ok (.aload_n 0, 1) := by decide +kernel
theorem dX0_passText_100 : decode cX0_passText 100 = .ok (.iload_n 2, 1) := by decide +kernel
theorem dX0_passText_101 : decode cX0_passText 101 = .ok (.iconst 2, 1) := by decide +kernel
theorem dX0_passText_102 : decode cX0_passText 102 = .ok (.iload 5, 2) := by decide +kernel
theorem dX0_passText_104 : decode cX0_passText 104 = .ok (.imul, 1) := by decide +kernel
theorem dX0_passText_105 : decode cX0_passText 105 = .ok (.iadd, 1) := by decide +kernel
theorem dX0_passText_106 : decode cX0_passText 106 = .ok (.iconst 1, 1) := by decide +kernel
theorem dX0_passText_107 : decode cX0_passText 107 = .ok (.iadd, 1) := by decide +kernel
theorem dX0_passText_108 : decode cX0_passText 108 = .ok (.iload_n 3, 1) := by decide +kernel
theorem dX0_passText_109 : decode cX0_passText 109 = .ok (.invokevirtual 180, 3) := by decide +kernel
theorem dX0_passText_112 : decode cX0_passText 112 = .ok (.ior, 1) := by decide +kernel
theorem dX0_passText_113 : decode cX0_passText 113 = .ok (.invokevirtual 174, 3) := by decide +kernel
theorem dX0_passText_116 : decode cX0_passText 116 = .ok (.iinc 5 1, 3) := by decide +kernel
theorem dX0_passText_119 : decode cX0_passText 119 = .ok (.goto (-63), 3) := by decide +kernel
theorem dX0_passText_122 : decode cX0_passText 122 = .ok (.aload_n 0, 1) := by decide +kernel
theorem dX0_passText_123 : decode cX0_passText 123 = .ok (.dup, 1) := by decide +kernel
theorem dX0_passText_124 : decode cX0_passText 124 = .ok (.getfield 57, 3) := by decide +kernel
theorem dX0_passText_127 : decode cX0_passText 127 = .ok (.iload 4, 2) := by decide +kernel
theorem dX0_passText_129 : decode cX0_passText 129 = .ok (.iadd, 1) := by decide +kernel
theorem dX0_passText_130 : decode cX0_passText 130 = .ok (.putfield 57, 3) := by decide +kernel
theorem dX0_passText_133 : decode cX0_passText 133 = .ok (.return_, 1) := by decide +kernel
theorem dX0_sixBits_0 : decode cX0_sixBits 0 = .ok (.iload_n 1, 1) := by decide +kernel
theorem dX0_sixBits_1 : decode cX0_sixBits 1 = .ok (.iload_n 2, 1) := by decide +kernel
theorem dX0_sixBits_2 : decode cX0_sixBits 2 = .ok (.if_icmp .ge 17, 3) := by decide +kernel
theorem dX0_sixBits_5 : decode cX0_sixBits 5 = .ok (.aload_n 0, 1) := by decide +kernel
theorem dX0_sixBits_6 : decode cX0_sixBits 6 = .ok (.getfield 23, 3) := by decide +kernel
theorem dX0_sixBits_9 : decode cX0_sixBits 9 = .ok (.iload_n 1, 1) := by decide +kernel
theorem dX0_sixBits_10 : decode cX0_sixBits 10 = .ok (.invokevirtual 184, 3) := by decide +kernel
theorem dX0_sixBits_13 : decode cX0_sixBits 13 = .ok (.bipush 63, 2) := by decide +kernel
theorem dX0_sixBits_15 : decode cX0_sixBits 15 = .ok (.iand, 1) := by decide +kernel
theorem dX0_sixBits_16 : decode cX0_sixBits 16 = .ok (.goto 4, 3) := by decide +kernel
theorem dX0_sixBits_19 : decode cX0_sixBits 19 = .ok (.iconst 0, 1) := by decide +kernel
theorem dX0_sixBits_20 : decode cX0_sixBits 20 = .ok (.ireturn, 1) := by decide +kernel
theorem dX0_mayLay_0 : decode cX0_mayLay 0 = .ok (.aload_n 0, 1) := by decide +kernel
theorem dX0_mayLay_1 : decode cX0_mayLay 1 = .ok (.getfield 37, 3) := by decide +kernel
theorem dX0_mayLay_4 : decode cX0_mayLay 4 = .ok (.ifCond .ne 22, 3) := by decide +kernel
theorem dX0_mayLay_7 : decode cX0_mayLay 7 = .ok (.aload_n 0, 1) := by decide +kernel
theorem dX0_mayLay_8 : decode cX0_mayLay 8 = .ok (.getfield 57, 3) := by decide +kernel
theorem dX0_mayLay_11 : decode cX0_mayLay 11 = .ok (.iload_n 2, 1) := by decide +kernel
theorem dX0_mayLay_12 : decode cX0_mayLay 12 = .ok (.iadd, 1) := by decide +kernel
theorem dX0_mayLay_13 : decode cX0_mayLay 13 = .ok (.sipush 4096, 3) := by decide +kernel
theorem dX0_mayLay_16 : decode cX0_mayLay 16 = .ok (.if_icmp .le 10, 3) := by decide +kernel
theorem dX0_mayLay_19 : decode cX0_mayLay 19 = .ok (.aload_n 0, 1) := by decide +kernel
theorem dX0_mayLay_20 : decode cX0_mayLay 20 = .ok (.bipush 6, 2) := by decide +kernel
theorem dX0_mayLay_22 : decode cX0_mayLay 22 = .ok (.iload_n 1, 1) := by decide +kernel
theorem dX0_mayLay_23 : decode cX0_mayLay 23 = .ok (.invokevirtual 87, 3) := by decide +kernel
theorem dX0_mayLay_26 : decode cX0_mayLay 26 = .ok (.aload_n 0, 1) := by decide +kernel
theorem dX0_mayLay_27 : decode cX0_mayLay 27 = .ok (.getfield 37, 3) := by decide +kernel
theorem dX0_mayLay_30 : decode cX0_mayLay 30 = .ok (.ifCond .ne 32, 3) := by decide +kernel
theorem dX0_mayLay_33 : decode cX0_mayLay 33 = .ok (.aload_n 0, 1) := by decide +kernel
theorem dX0_mayLay_34 : decode cX0_mayLay 34 = .ok (.getfield 44, 3) := by decide +kernel
theorem dX0_mayLay_37 : decode cX0_mayLay 37 = .ok (.ifCond .eq 25, 3) := by decide +kernel
theorem dX0_mayLay_40 : decode cX0_mayLay 40 = .ok (.aload_n 0, 1) := by decide +kernel
theorem dX0_mayLay_41 : decode cX0_mayLay 41 = .ok (.getfield 34, 3) := by decide +kernel
theorem dX0_mayLay_44 : decode cX0_mayLay 44 = .ok (.aload_n 0, 1) := by decide +kernel
theorem dX0_mayLay_45 : decode cX0_mayLay 45 = .ok (.getfield 57, 3) := by decide +kernel
theorem dX0_mayLay_48 : decode cX0_mayLay 48 = .ok (.iload_n 2, 1) := by decide +kernel
theorem dX0_mayLay_49 : decode cX0_mayLay 49 = .ok (.invokevirtual 187, 3) := by decide +kernel
theorem dX0_mayLay_52 : decode cX0_mayLay 52 = .ok (.ifCond .eq 10, 3) := by decide +kernel
theorem dX0_mayLay_55 : decode cX0_mayLay 55 = .ok (.aload_n 0, 1) := by decide +kernel
theorem dX0_mayLay_56 : decode cX0_mayLay 56 = .ok (.bipush 8, 2) := by decide +kernel
theorem dX0_mayLay_58 : decode cX0_mayLay 58 = .ok (.iload_n 1, 1) := by decide +kernel
theorem dX0_mayLay_59 : decode cX0_mayLay 59 = .ok (.invokevirtual 87, 3) := by decide +kernel
theorem dX0_mayLay_62 : decode cX0_mayLay 62 = .ok (.aload_n 0, 1) := by decide +kernel
theorem dX0_mayLay_63 : decode cX0_mayLay 63 = .ok (.getfield 37, 3) := by decide +kernel
theorem dX0_mayLay_66 : decode cX0_mayLay 66 = .ok (.ifCond .ne 7, 3) := by decide +kernel
theorem dX0_mayLay_69 : decode cX0_mayLay 69 = .ok (.iconst 1, 1) := by decide +kernel
theorem dX0_mayLay_70 : decode cX0_mayLay 70 = .ok (.goto 4, 3) := by decide +kernel
theorem dX0_mayLay_73 : decode cX0_mayLay 73 = .ok (.iconst 0, 1) := by decide +kernel
theorem dX0_mayLay_74 : decode cX0_mayLay 74 = .ok (.ireturn, 1) := by decide +kernel
theorem dX0_isOperator_0 : decode cX0_isOperator 0 = .ok (.iload_n 0, 1) := by decide +kernel
theorem dX0_isOperator_1 : decode cX0_isOperator 1 = .ok (.bipush 43, 2) := by decide +kernel
theorem dX0_isOperator_3 : decode cX0_isOperator 3 = .ok (.if_icmp .eq 21, 3) := by decide +kernel
theorem dX0_isOperator_6 : decode cX0_isOperator 6 = .ok (.iload_n 0, 1) := by decide +kernel
theorem dX0_isOperator_7 : decode cX0_isOperator 7 = .ok (.bipush 45, 2) := by decide +kernel
theorem dX0_isOperator_9 : decode cX0_isOperator 9 = .ok (.if_icmp .eq 15, 3) := by decide +kernel
theorem dX0_isOperator_12 : decode cX0_isOperator 12 = .ok (.iload_n 0, 1) := by decide +kernel
theorem dX0_isOperator_13 : decode cX0_isOperator 13 = .ok (.bipush 33, 2) := by decide +kernel
theorem dX0_isOperator_15 : decode cX0_isOperator 15 = .ok (.if_icmp .eq 9, 3) := by decide +kernel
theorem dX0_isOperator_18 : decode cX0_isOperator 18 = .ok (.iload_n 0, 1) := by decide +kernel
theorem dX0_isOperator_19 : decode cX0_isOperator 19 = .ok (.bipush 38, 2) := by decide +kernel
theorem dX0_isOperator_21 : decode cX0_isOperator 21 = .ok (.if_icmp .ne 7, 3) := by decide +kernel
theorem dX0_isOperator_24 : decode cX0_isOperator 24 = .ok (.iconst 1, 1) := by decide +kernel
theorem dX0_isOperator_25 : decode cX0_isOperator 25 = .ok (.goto 4, 3) := by decide +kernel
theorem dX0_isOperator_28 : decode cX0_isOperator 28 = .ok (.iconst 0, 1) := by decide +kernel
theorem dX0_isOperator_29 : decode cX0_isOperator 29 = .ok (.ireturn, 1) := by decide +kernel
theorem dX0_isLiteralSign_0 : decode cX0_isLiteralSign 0 = .ok (.iload_n 0, 1) := by decide +kernel
theorem dX0_isLiteralSign_1 : decode cX0_isLiteralSign 1 = .ok (.bipush 40, 2) := by decide +kernel
theorem dX0_isLiteralSign_3 : decode cX0_isLiteralSign 3 = .ok (.if_icmp .eq 9, 3) := by decide +kernel
theorem dX0_isLiteralSign_6 : decode cX0_isLiteralSign 6 = .ok (.iload_n 0, 1) := by decide +kernel
theorem dX0_isLiteralSign_7 : decode cX0_isLiteralSign 7 = .ok (.bipush 91, 2) := by decide +kernel
theorem dX0_isLiteralSign_9 : decode cX0_isLiteralSign 9 = .ok (.if_icmp .ne 7, 3) := by decide +kernel
theorem dX0_isLiteralSign_12 : decode cX0_isLiteralSign 12 = .ok (.iconst 1, 1) := by decide +kernel
theorem dX0_isLiteralSign_13 : decode cX0_isLiteralSign 13 = .ok (.goto 4, 3) := by decide +kernel
theorem dX0_isLiteralSign_16 : decode cX0_isLiteralSign 16 = .ok (.iconst 0, 1) := by decide +kernel
theorem dX0_isLiteralSign_17 : decode cX0_isLiteralSign 17 = .ok (.ireturn, 1) := by decide +kernel
theorem dX0_isStatementName_0 : decode cX0_isStatementName 0 = .ok (.iload_n 0, 1) := by decide +kernel
theorem dX0_isStatementName_1 : decode cX0_isStatementName 1 = .ok (.ifCond .lt 12, 3) := by decide +kernel
theorem dX0_isStatementName_4 : decode cX0_isStatementName 4 = .ok (.iload_n 0, 1) := by decide +kernel
theorem dX0_isStatementName_5 : decode cX0_isStatementName 5 = .ok (.iconst 4, 1) := by decide +kernel
theorem dX0_isStatementName_6 : decode cX0_isStatementName 6 = .ok (.if_icmp .gt 7, 3) := by decide +kernel
theorem dX0_isStatementName_9 : decode cX0_isStatementName 9 = .ok (.iconst 1, 1) := by decide +kernel
theorem dX0_isStatementName_10 : decode cX0_isStatementName 10 = .ok (.goto 4, 3) := by decide +kernel
theorem dX0_isStatementName_13 : decode cX0_isStatementName 13 = .ok (.iconst 0, 1) := by decide +kernel
theorem dX0_isStatementName_14 : decode cX0_isStatementName 14 = .ok (.ireturn, 1) := by decide +kernel
theorem dX0_beginsValue_0 : decode cX0_beginsValue 0 = .ok (.aload_n 0, 1) := by decide +kernel
theorem dX0_beginsValue_1 : decode cX0_beginsValue 1 = .ok (.iload_n 1, 1) := by decide +kernel
theorem dX0_beginsValue_2 : decode cX0_beginsValue 2 = .ok (.invokevirtual 100, 3) := by decide +kernel
theorem dX0_beginsValue_5 : decode cX0_beginsValue 5 = .ok (.istore_n 2, 1) := by decide +kernel
theorem dX0_beginsValue_6 : decode cX0_beginsValue 6 = .ok (.iload_n 2, 1) := by decide +kernel
theorem dX0_beginsValue_7 : decode cX0_beginsValue 7 = .ok (.iconst 1, 1) := by decide +kernel
theorem dX0_beginsValue_8 : decode cX0_beginsValue 8 = .ok (.if_icmp .ne 23, 3) := by decide +kernel
theorem dX0_beginsValue_11 : decode cX0_beginsValue 11 = .ok (.aload_n 0, 1) := by decide +kernel
theorem dX0_beginsValue_12 : decode cX0_beginsValue 12 = .ok (.getfield 23, 3) := by decide +kernel
theorem dX0_beginsValue_15 : decode cX0_beginsValue 15 = .ok (.iload_n 1, 1) := by decide +kernel
theorem dX0_beginsValue_16 : decode cX0_beginsValue 16 = .ok (.invokevirtual 108, 3) := by decide +kernel
theorem dX0_beginsValue_19 : decode cX0_beginsValue 19 = .ok (.invokestatic 157, 3) := by decide +kernel
theorem dX0_beginsValue_22 : decode cX0_beginsValue 22 = .ok (.ifCond .ne 7, 3) := by decide +kernel
theorem dX0_beginsValue_25 : decode cX0_beginsValue 25 = .ok (.iconst 1, 1) := by decide +kernel
theorem dX0_beginsValue_26 : decode cX0_beginsValue 26 = .ok (.goto 4, 3) := by decide +kernel
theorem dX0_beginsValue_29 : decode cX0_beginsValue 29 = .ok (.iconst 0, 1) := by decide +kernel
theorem dX0_beginsValue_30 : decode cX0_beginsValue 30 = .ok (.ireturn, 1) := by decide +kernel
theorem dX0_beginsValue_31 : decode cX0_beginsValue 31 = .ok (.iload_n 2, 1) := by decide +kernel
theorem dX0_beginsValue_32 : decode cX0_beginsValue 32 = .ok (.iconst 2, 1) := by decide +kernel
theorem dX0_beginsValue_33 : decode cX0_beginsValue 33 = .ok (.if_icmp .eq 20, 3) := by decide +kernel
theorem dX0_beginsValue_36 : decode cX0_beginsValue 36 = .ok (.iload_n 2, 1) := by decide +kernel
