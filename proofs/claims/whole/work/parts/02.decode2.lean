theorem dX7_init_0 : decode cX7_init 0 = .ok (.aload_n 0, 1) := by decide +kernel
theorem dX7_init_1 : decode cX7_init 1 = .ok (.invokespecial 1, 3) := by decide +kernel
theorem dX7_init_4 : decode cX7_init 4 = .ok (.aload_n 0, 1) := by decide +kernel
theorem dX7_init_5 : decode cX7_init 5 = .ok (.sipush 377, 3) := by decide +kernel
theorem dX7_init_8 : decode cX7_init 8 = .ok (.newarray .long, 2) := by decide +kernel
theorem dX7_init_10 : decode cX7_init 10 = .ok (.putfield 7, 3) := by decide +kernel
theorem dX7_init_13 : decode cX7_init 13 = .ok (.aload_n 0, 1) := by decide +kernel
theorem dX7_init_14 : decode cX7_init 14 = .ok (.bipush 8, 2) := by decide +kernel
theorem dX7_init_16 : decode cX7_init 16 = .ok (.newarray .double, 2) := by decide +kernel
theorem dX7_init_18 : decode cX7_init 18 = .ok (.putfield 13, 3) := by decide +kernel
theorem dX7_init_21 : decode cX7_init 21 = .ok (.aload_n 0, 1) := by decide +kernel
theorem dX7_init_22 : decode cX7_init 22 = .ok (.sipush 8400, 3) := by decide +kernel
theorem dX7_init_25 : decode cX7_init 25 = .ok (.newarray .long, 2) := by decide +kernel
theorem dX7_init_27 : decode cX7_init 27 = .ok (.putfield 17, 3) := by decide +kernel
theorem dX7_init_30 : decode cX7_init 30 = .ok (.aload_n 0, 1) := by decide +kernel
theorem dX7_init_31 : decode cX7_init 31 = .ok (.sipush 3393, 3) := by decide +kernel
theorem dX7_init_34 : decode cX7_init 34 = .ok (.newarray .long, 2) := by decide +kernel
theorem dX7_init_36 : decode cX7_init 36 = .ok (.putfield 20, 3) := by decide +kernel
theorem dX7_init_39 : decode cX7_init 39 = .ok (.aload_n 0, 1) := by decide +kernel
theorem dX7_init_40 : decode cX7_init 40 = .ok (.bipush 72, 2) := by decide +kernel
theorem dX7_init_42 : decode cX7_init 42 = .ok (.newarray .double, 2) := by decide +kernel
theorem dX7_init_44 : decode cX7_init 44 = .ok (.putfield 23, 3) := by decide +kernel
theorem dX7_init_47 : decode cX7_init 47 = .ok (.aload_n 0, 1) := by decide +kernel
theorem dX7_init_48 : decode cX7_init 48 = .ok (.ldc 26, 2) := by decide +kernel
theorem dX7_init_50 : decode cX7_init 50 = .ok (.newarray .long, 2) := by decide +kernel
theorem dX7_init_52 : decode cX7_init 52 = .ok (.putfield 27, 3) := by decide +kernel
theorem dX7_init_55 : decode cX7_init 55 = .ok (.aload_n 0, 1) := by decide +kernel
theorem dX7_init_56 : decode cX7_init 56 = .ok (.iconst 2, 1) := by decide +kernel
theorem dX7_init_57 : decode cX7_init 57 = .ok (.newarray .int, 2) := by decide +kernel
theorem dX7_init_59 : decode cX7_init 59 = .ok (.putfield 30, 3) := by decide +kernel
theorem dX7_init_62 : decode cX7_init 62 = .ok (.aload_n 0, 1) := by decide +kernel
theorem dX7_init_63 : decode cX7_init 63 = .ok (.bipush 80, 2) := by decide +kernel
theorem dX7_init_65 : decode cX7_init 65 = .ok (.newarray .int, 2) := by decide +kernel
theorem dX7_init_67 : decode cX7_init 67 = .ok (.putfield 34, 3) := by decide +kernel
theorem dX7_init_70 : decode cX7_init 70 = .ok (.aload_n 0, 1) := by decide +kernel
theorem dX7_init_71 : decode cX7_init 71 = .ok (.getfield 7, 3) := by decide +kernel
theorem dX7_init_74 : decode cX7_init 74 = .ok (.bipush 9, 2) := by decide +kernel
theorem dX7_init_76 : decode cX7_init 76 = .ok (.ldc2_w 37, 3) := by decide +kernel
theorem dX7_init_79 : decode cX7_init 79 = .ok (.lastore, 1) := by decide +kernel
theorem dX7_init_80 : decode cX7_init 80 = .ok (.aload_n 0, 1) := by decide +kernel
theorem dX7_init_81 : decode cX7_init 81 = .ok (.getfield 7, 3) := by decide +kernel
theorem dX7_init_84 : decode cX7_init 84 = .ok (.bipush 10, 2) := by decide +kernel
theorem dX7_init_86 : decode cX7_init 86 = .ok (.ldc2_w 39, 3) := by decide +kernel
theorem dX7_init_89 : decode cX7_init 89 = .ok (.lastore, 1) := by decide +kernel
theorem dX7_init_90 : decode cX7_init 90 = .ok (.aload_n 0, 1) := by decide +kernel
theorem dX7_init_91 : decode cX7_init 91 = .ok (.getfield 7, 3) := by decide +kernel
theorem dX7_init_94 : decode cX7_init 94 = .ok (.bipush 11, 2) := by decide +kernel
theorem dX7_init_96 : decode cX7_init 96 = .ok (.ldc2_w 41, 3) := by decide +kernel
theorem dX7_init_99 : decode cX7_init 99 = .ok (.lastore, 1) := by decide +kernel
theorem dX7_init_100 : decode cX7_init 100 = .ok (.return_, 1) := by decide +kernel
theorem dX7_isIn_0 : decode cX7_isIn 0 = .ok (.lload_n 0, 1) := by decide +kernel
theorem dX7_isIn_1 : decode cX7_isIn 1 = .ok (.lload_n 2, 1) := by decide +kernel
theorem dX7_isIn_2 : decode cX7_isIn 2 = .ok (.lcmp, 1) := by decide +kernel
theorem dX7_isIn_3 : decode cX7_isIn 3 = .ok (.ifCond .lt 14, 3) := by decide +kernel
theorem dX7_isIn_6 : decode cX7_isIn 6 = .ok (.lload_n 0, 1) := by decide +kernel
theorem dX7_isIn_7 : decode cX7_isIn 7 = .ok (.lload 4, 2) := by decide +kernel
theorem dX7_isIn_9 : decode cX7_isIn 9 = .ok (.lcmp, 1) := by decide +kernel
theorem dX7_isIn_10 : decode cX7_isIn 10 = .ok (.ifCond .gt 7, 3) := by decide +kernel
theorem dX7_isIn_13 : decode cX7_isIn 13 = .ok (.iconst 1, 1) := by decide +kernel
theorem dX7_isIn_14 : decode cX7_isIn 14 = .ok (.goto 4, 3) := by decide +kernel
theorem dX7_isIn_17 : decode cX7_isIn 17 = .ok (.iconst 0, 1) := by decide +kernel
theorem dX7_isIn_18 : decode cX7_isIn 18 = .ok (.ireturn, 1) := by decide +kernel
theorem dX7_of_0 : decode cX7_of 0 = .ok (.aload_n 0, 1) := by decide +kernel
theorem dX7_of_1 : decode cX7_of 1 = .ok (.getfield 7, 3) := by decide +kernel
theorem dX7_of_4 : decode cX7_of 4 = .ok (.iload_n 1, 1) := by decide +kernel
theorem dX7_of_5 : decode cX7_of 5 = .ok (.laload, 1) := by decide +kernel
theorem dX7_of_6 : decode cX7_of 6 = .ok (.l2i, 1) := by decide +kernel
theorem dX7_of_7 : decode cX7_of 7 = .ok (.ireturn, 1) := by decide +kernel
theorem dX7_today_0 : decode cX7_today 0 = .ok (.aload_n 0, 1) := by decide +kernel
theorem dX7_today_1 : decode cX7_today 1 = .ok (.iconst 0, 1) := by decide +kernel
theorem dX7_today_2 : decode cX7_today 2 = .ok (.invokevirtual 43, 3) := by decide +kernel
theorem dX7_today_5 : decode cX7_today 5 = .ok (.ireturn, 1) := by decide +kernel
theorem dX7_isAccount_0 : decode cX7_isAccount 0 = .ok (.iload_n 1, 1) := by decide +kernel
theorem dX7_isAccount_1 : decode cX7_isAccount 1 = .ok (.i2l, 1) := by decide +kernel
theorem dX7_isAccount_2 : decode cX7_isAccount 2 = .ok (.lconst 0, 1) := by decide +kernel
theorem dX7_isAccount_3 : decode cX7_isAccount 3 = .ok (.aload_n 0, 1) := by decide +kernel
theorem dX7_isAccount_4 : decode cX7_isAccount 4 = .ok (.getfield 7, 3) := by decide +kernel
theorem dX7_isAccount_7 : decode cX7_isAccount 7 = .ok (.iconst 1, 1) := by decide +kernel
theorem dX7_isAccount_8 : decode cX7_isAccount 8 = .ok (.laload, 1) := by decide +kernel
theorem dX7_isAccount_9 : decode cX7_isAccount 9 = .ok (.lconst 1, 1) := by decide +kernel
theorem dX7_isAccount_10 : decode cX7_isAccount 10 = .ok (.lsub, 1) := by decide +kernel
theorem dX7_isAccount_11 : decode cX7_isAccount 11 = .ok (.invokestatic 47, 3) := by decide +kernel
theorem dX7_isAccount_14 : decode cX7_isAccount 14 = .ok (.ireturn, 1) := by decide +kernel
theorem dX7_isOrder_0 : decode cX7_isOrder 0 = .ok (.iload_n 1, 1) := by decide +kernel
theorem dX7_isOrder_1 : decode cX7_isOrder 1 = .ok (.i2l, 1) := by decide +kernel
theorem dX7_isOrder_2 : decode cX7_isOrder 2 = .ok (.lconst 0, 1) := by decide +kernel
theorem dX7_isOrder_3 : decode cX7_isOrder 3 = .ok (.aload_n 0, 1) := by decide +kernel
theorem dX7_isOrder_4 : decode cX7_isOrder 4 = .ok (.getfield 7, 3) := by decide +kernel
theorem dX7_isOrder_7 : decode cX7_isOrder 7 = .ok (.iconst 2, 1) := by decide +kernel
theorem dX7_isOrder_8 : decode cX7_isOrder 8 = .ok (.laload, 1) := by decide +kernel
theorem dX7_isOrder_9 : decode cX7_isOrder 9 = .ok (.lconst 1, 1) := by decide +kernel
theorem dX7_isOrder_10 : decode cX7_isOrder 10 = .ok (.lsub, 1) := by decide +kernel
theorem dX7_isOrder_11 : decode cX7_isOrder 11 = .ok (.invokestatic 47, 3) := by decide +kernel
theorem dX7_isOrder_14 : decode cX7_isOrder 14 = .ok (.ireturn, 1) := by decide +kernel
theorem dX7_ofA_0 : decode cX7_ofA 0 = .ok (.aload_n 0, 1) := by decide +kernel
theorem dX7_ofA_1 : decode cX7_ofA 1 = .ok (.bipush 33, 2) := by decide +kernel
theorem dX7_ofA_3 : decode cX7_ofA 3 = .ok (.bipush 11, 2) := by decide +kernel
theorem dX7_ofA_5 : decode cX7_ofA 5 = .ok (.iload_n 1, 1) := by decide +kernel
theorem dX7_ofA_6 : decode cX7_ofA 6 = .ok (.imul, 1) := by decide +kernel
theorem dX7_ofA_7 : decode cX7_ofA 7 = .ok (.iadd, 1) := by decide +kernel
theorem dX7_ofA_8 : decode cX7_ofA 8 = .ok (.iload_n 2, 1) := by decide +kernel
theorem dX7_ofA_9 : decode cX7_ofA 9 = .ok (.iadd, 1) := by decide +kernel
theorem dX7_ofA_10 : decode cX7_ofA 10 = .ok (.invokevirtual 43, 3) := by decide +kernel
theorem dX7_ofA_13 : decode cX7_ofA 13 = .ok (.ireturn, 1) := by decide +kernel
theorem dX7_moneyOf_0 : decode cX7_moneyOf 0 = .ok (.aload_n 0, 1) := by decide +kernel
theorem dX7_moneyOf_1 : decode cX7_moneyOf 1 = .ok (.getfield 7, 3) := by decide +kernel
theorem dX7_moneyOf_4 : decode cX7_moneyOf 4 = .ok (.bipush 33, 2) := by decide +kernel
theorem dX7_moneyOf_6 : decode cX7_moneyOf 6 = .ok (.bipush 11, 2) := by decide +kernel
theorem dX7_moneyOf_8 : decode cX7_moneyOf 8 = .ok (.iload_n 1, 1) := by decide +kernel
theorem dX7_moneyOf_9 : decode cX7_moneyOf 9 = .ok (.imul, 1) := by decide +kernel
theorem dX7_moneyOf_10 : decode cX7_moneyOf 10 = .ok (.iadd, 1) := by decide +kernel
theorem dX7_moneyOf_11 : decode cX7_moneyOf 11 = .ok (.iconst 3, 1) := by decide +kernel
theorem dX7_moneyOf_12 : decode cX7_moneyOf 12 = .ok (.iadd, 1) := by decide +kernel
theorem dX7_moneyOf_13 : decode cX7_moneyOf 13 = .ok (.iload_n 2, 1) := by decide +kernel
theorem dX7_moneyOf_14 : decode cX7_moneyOf 14 = .ok (.iadd, 1) := by decide +kernel
theorem dX7_moneyOf_15 : decode cX7_moneyOf 15 = .ok (.laload, 1) := by decide +kernel
theorem dX7_moneyOf_16 : decode cX7_moneyOf 16 = .ok (.lreturn, 1) := by decide +kernel
theorem dX7_moves_0 : decode cX7_moves 0 = .ok (.aload_n 0, 1) := by decide +kernel
theorem dX7_moves_1 : decode cX7_moves 1 = .ok (.getfield 7, 3) := by decide +kernel
theorem dX7_moves_4 : decode cX7_moves 4 = .ok (.bipush 33, 2) := by decide +kernel
theorem dX7_moves_6 : decode cX7_moves 6 = .ok (.bipush 11, 2) := by decide +kernel
theorem dX7_moves_8 : decode cX7_moves 8 = .ok (.iload_n 1, 1) := by decide +kernel
theorem dX7_moves_9 : decode cX7_moves 9 = .ok (.imul, 1) := by decide +kernel
theorem dX7_moves_10 : decode cX7_moves 10 = .ok (.iadd, 1) := by decide +kernel
theorem dX7_moves_11 : decode cX7_moves 11 = .ok (.iconst 3, 1) := by decide +kernel
theorem dX7_moves_12 : decode cX7_moves 12 = .ok (.iadd, 1) := by decide +kernel
theorem dX7_moves_13 : decode cX7_moves 13 = .ok (.iload_n 2, 1) := by decide +kernel
theorem dX7_moves_14 : decode cX7_moves 14 = .ok (.iadd, 1) := by decide +kernel
theorem dX7_moves_15 : decode cX7_moves 15 = .ok (.dup2, 1) := by decide +kernel
theorem dX7_moves_16 : decode cX7_moves 16 = .ok (.laload, 1) := by decide +kernel
theorem dX7_moves_17 : decode cX7_moves 17 = .ok (.lload_n 3, 1) := by decide +kernel
theorem dX7_moves_18 : decode cX7_moves 18 = .ok (.ladd, 1) := by decide +kernel
theorem dX7_moves_19 : decode cX7_moves 19 = .ok (.lastore, 1) := by decide +kernel
theorem dX7_moves_20 : decode cX7_moves 20 = .ok (.return_, 1) := by decide +kernel
theorem dX7_ofO_0 : decode cX7_ofO 0 = .ok (.aload_n 0, 1) := by decide +kernel
theorem dX7_ofO_1 : decode cX7_ofO 1 = .ok (.bipush 121, 2) := by decide +kernel
theorem dX7_ofO_3 : decode cX7_ofO 3 = .ok (.bipush 16, 2) := by decide +kernel
theorem dX7_ofO_5 : decode cX7_ofO 5 = .ok (.iload_n 1, 1) := by decide +kernel
theorem dX7_ofO_6 : decode cX7_ofO 6 = .ok (.imul, 1) := by decide +kernel
theorem dX7_ofO_7 : decode cX7_ofO 7 = .ok (.iadd, 1) := by decide +kernel
theorem dX7_ofO_8 : decode cX7_ofO 8 = .ok (.iload_n 2, 1) := by decide +kernel
theorem dX7_ofO_9 : decode cX7_ofO 9 = .ok (.iadd, 1) := by decide +kernel
theorem dX7_ofO_10 : decode cX7_ofO 10 = .ok (.invokevirtual 43, 3) := by decide +kernel
theorem dX7_ofO_13 : decode cX7_ofO 13 = .ok (.ireturn, 1) := by decide +kernel
theorem dX7_becomes_0 : decode cX7_becomes 0 = .ok (.aload_n 0, 1) := by decide +kernel
theorem dX7_becomes_1 : decode cX7_becomes 1 = .ok (.getfield 7, 3) := by decide +kernel
theorem dX7_becomes_4 : decode cX7_becomes 4 = .ok (.bipush 121, 2) := by decide +kernel
theorem dX7_becomes_6 : decode cX7_becomes 6 = .ok (.bipush 16, 2) := by decide +kernel
theorem dX7_becomes_8 : decode cX7_becomes 8 = .ok (.iload_n 1, 1) := by decide +kernel
theorem dX7_becomes_9 : decode cX7_becomes 9 = .ok (.imul, 1) := by decide +kernel
theorem dX7_becomes_10 : decode cX7_becomes 10 = .ok (.iadd, 1) := by decide +kernel
theorem dX7_becomes_11 : decode cX7_becomes 11 = .ok (.iload_n 2, 1) := by decide +kernel
theorem dX7_becomes_12 : decode cX7_becomes 12 = .ok (.iadd, 1) := by decide +kernel
theorem dX7_becomes_13 : decode cX7_becomes 13 = .ok (.iload_n 3, 1) := by decide +kernel
theorem dX7_becomes_14 : decode cX7_becomes 14 = .ok (.i2l, 1) := by decide +kernel
theorem dX7_becomes_15 : decode cX7_becomes 15 = .ok (.lastore, 1) := by decide +kernel
theorem dX7_becomes_16 : decode cX7_becomes 16 = .ok (.return_, 1) := by decide +kernel
theorem dX7_keeps_0 : decode cX7_keeps 0 = .ok (.iconst 0, 1) := by decide +kernel
theorem dX7_keeps_1 : decode cX7_keeps 1 = .ok (.istore_n 2, 1) := by decide +kernel
theorem dX7_keeps_2 : decode cX7_keeps 2 = .ok (.iload_n 2, 1) := by decide +kernel
theorem dX7_keeps_3 : decode cX7_keeps 3 = .ok (.sipush 377, 3) := by decide +kernel
theorem dX7_keeps_6 : decode cX7_keeps 6 = .ok (.if_icmp .ge 27, 3) := by decide +kernel
theorem dX7_keeps_9 : decode cX7_keeps 9 = .ok (.aload_n 0, 1) := by decide +kernel
theorem dX7_keeps_10 : decode cX7_keeps 10 = .ok (.getfield 20, 3) := by decide +kernel
theorem dX7_keeps_13 : decode cX7_keeps 13 = .ok (.iload_n 1, 1) := by decide +kernel
theorem dX7_keeps_14 : decode cX7_keeps 14 = .ok (.sipush 377, 3) := by decide +kernel
theorem dX7_keeps_17 : decode cX7_keeps 17 = .ok (.imul, 1) := by decide +kernel
theorem dX7_keeps_18 : decode cX7_keeps 18 = .ok (.iload_n 2, 1) := by decide +kernel
theorem dX7_keeps_19 : decode cX7_keeps 19 = .ok (.iadd, 1) := by decide +kernel
theorem dX7_keeps_20 : decode cX7_keeps 20 = .ok (.aload_n 0, 1) := by decide +kernel
theorem dX7_keeps_21 : decode cX7_keeps 21 = .ok (.getfield 7, 3) := by decide +kernel
theorem dX7_keeps_24 : decode cX7_keeps 24 = .ok (.iload_n 2, 1) := by decide +kernel
theorem dX7_keeps_25 : decode cX7_keeps 25 = .ok (.laload, 1) := by decide +kernel
theorem dX7_keeps_26 : decode cX7_keeps 26 = .ok (.lastore, 1) := by decide +kernel
theorem dX7_keeps_27 : decode cX7_keeps 27 = .ok (.iinc 2 1, 3) := by decide +kernel
theorem dX7_keeps_30 : decode cX7_keeps 30 = .ok (.goto (-28), 3) := by decide +kernel
theorem dX7_keeps_33 : decode cX7_keeps 33 = .ok (.iconst 0, 1) := by decide +kernel
theorem dX7_keeps_34 : decode cX7_keeps 34 = .ok (.istore_n 2, 1) := by decide +kernel
theorem dX7_keeps_35 : decode cX7_keeps 35 = .ok (.iload_n 2, 1) := by decide +kernel
theorem dX7_keeps_36 : decode cX7_keeps 36 = .ok (.bipush 8, 2) := by decide +kernel
theorem dX7_keeps_38 : decode cX7_keeps 38 = .ok (.if_icmp .ge 26, 3) := by decide +kernel
theorem dX7_keeps_41 : decode cX7_keeps 41 = .ok (.aload_n 0, 1) := by decide +kernel
theorem dX7_keeps_42 : decode cX7_keeps 42 = .ok (.getfield 23, 3) := by decide +kernel
theorem dX7_keeps_45 : decode cX7_keeps 45 = .ok (.iload_n 1, 1) := by decide +kernel
theorem dX7_keeps_46 : decode cX7_keeps 46 = .ok (.bipush 8, 2) := by decide +kernel
theorem dX7_keeps_48 : decode cX7_keeps 48 = .ok (.imul, 1) := by decide +kernel
theorem dX7_keeps_49 : decode cX7_keeps 49 = .ok (.iload_n 2, 1) := by decide +kernel
theorem dX7_keeps_50 : decode cX7_keeps 50 = .ok (.iadd, 1) := by decide +kernel
theorem dX7_keeps_51 : decode cX7_keeps 51 = .ok (.aload_n 0, 1) := by decide +kernel
theorem dX7_keeps_52 : decode cX7_keeps 52 = .ok (.getfield 13, 3) := by decide +kernel
theorem dX7_keeps_55 : decode cX7_keeps 55 = .ok (.iload_n 2, 1) := by decide +kernel
theorem dX7_keeps_56 : decode cX7_keeps 56 = .ok (.daload, 1) := by decide +kernel
theorem dX7_keeps_57 : decode cX7_keeps 57 = .ok (.dastore, 1) := by decide +kernel
theorem dX7_keeps_58 : decode cX7_keeps 58 = .ok (.iinc 2 1, 3) := by decide +kernel
theorem dX7_keeps_61 : decode cX7_keeps 61 = .ok (.goto (-26), 3) := by decide +kernel
theorem dX7_keeps_64 : decode cX7_keeps 64 = .ok (.iconst 0, 1) := by decide +kernel
theorem dX7_keeps_65 : decode cX7_keeps 65 = .ok (.istore_n 2, 1) := by decide +kernel
theorem dX7_keeps_66 : decode cX7_keeps 66 = .ok (.iload_n 2, 1) := by decide +kernel
theorem dX7_keeps_67 : decode cX7_keeps 67 = .ok (.i2l, 1) := by decide +kernel
theorem dX7_keeps_68 : decode cX7_keeps 68 = .ok (.aload_n 0, 1) := by decide +kernel
theorem dX7_keeps_69 : decode cX7_keeps 69 = .ok (.getfield 7, 3) := by decide +kernel
theorem dX7_keeps_72 : decode cX7_keeps 72 = .ok (.iconst 4, 1) := by decide +kernel
theorem dX7_keeps_73 : decode cX7_keeps 73 = .ok (.laload, 1) := by decide +kernel
theorem dX7_keeps_74 : decode cX7_keeps 74 = .ok (.lcmp, 1) := by decide +kernel
theorem dX7_keeps_75 : decode cX7_keeps 75 = .ok (.ifCond .ge 27, 3) := by decide +kernel
theorem dX7_keeps_78 : decode cX7_keeps 78 = .ok (.aload_n 0, 1) := by decide +kernel
theorem dX7_keeps_79 : decode cX7_keeps 79 = .ok (.getfield 27, 3) := by decide +kernel
theorem dX7_keeps_82 : decode cX7_keeps 82 = .ok (.iload_n 1, 1) := by decide +kernel
theorem dX7_keeps_83 : decode cX7_keeps 83 = .ok (.sipush 8400, 3) := by decide +kernel
theorem dX7_keeps_86 : decode cX7_keeps 86 = .ok (.imul, 1) := by decide +kernel
theorem dX7_keeps_87 : decode cX7_keeps 87 = .ok (.iload_n 2, 1) := by decide +kernel
theorem dX7_keeps_88 : decode cX7_keeps 88 = .ok (.iadd, 1) := by decide +kernel
theorem dX7_keeps_89 : decode cX7_keeps 89 = .ok (.aload_n 0, 1) := by decide +kernel
theorem dX7_keeps_90 : decode cX7_keeps 90 = .ok (.getfield 17, 3) := by decide +kernel
theorem dX7_keeps_93 : decode cX7_keeps 93 = .ok (.iload_n 2, 1) := by decide +kernel
theorem dX7_keeps_94 : decode cX7_keeps 94 = .ok (.laload, 1) := by decide +kernel
theorem dX7_keeps_95 : decode cX7_keeps 95 = .ok (.lastore, 1) := by decide +kernel
theorem dX7_keeps_96 : decode cX7_keeps 96 = .ok (.iinc 2 1, 3) := by decide +kernel
theorem dX7_keeps_99 : decode cX7_keeps 99 = .ok (.goto (-33), 3) := by decide +kernel
theorem dX7_keeps_102 : decode cX7_keeps 102 = .ok (.return_, 1) := by decide +kernel
theorem dX7_brings_0 : decode cX7_brings 0 = .ok (.iconst 0, 1) := by decide +kernel
theorem dX7_brings_1 : decode cX7_brings 1 = .ok (.istore_n 2, 1) := by decide +kernel
theorem dX7_brings_2 : decode cX7_brings 2 = .ok (.iload_n 2, 1) := by decide +kernel
theorem dX7_brings_3 : decode cX7_brings 3 = .ok (.sipush 377, 3) := by decide +kernel
theorem dX7_brings_6 : decode cX7_brings 6 = .ok (.if_icmp .ge 27, 3) := by decide +kernel
theorem dX7_brings_9 : decode cX7_brings 9 = .ok (.aload_n 0, 1) := by decide +kernel
theorem dX7_brings_10 : decode cX7_brings 10 = .ok (.getfield 7, 3) := by decide +kernel
theorem dX7_brings_13 : decode cX7_brings 13 = .ok (.iload_n 2, 1) := by decide +kernel
theorem dX7_brings_14 : decode cX7_brings 14 = .ok (.aload_n 0, 1) := by decide +kernel
theorem dX7_brings_15 : decode cX7_brings 15 = .ok (.getfield 20, 3) := by decide +kernel
theorem dX7_brings_18 : decode cX7_brings 18 = .ok (.iload_n 1, 1) := by decide +kernel
theorem dX7_brings_19 : decode cX7_brings 19 = .ok (.sipush 377, 3) := by decide +kernel
theorem dX7_brings_22 : decode cX7_brings 22 = .ok (.imul, 1) := by decide +kernel
theorem dX7_brings_23 : decode cX7_brings 23 = .ok (.iload_n 2, 1) := by decide +kernel
theorem dX7_brings_24 : decode cX7_brings 24 = .ok (.iadd, 1) := by decide +kernel
theorem dX7_brings_25 : decode cX7_brings 25 = .ok (.laload, 1) := by decide +kernel
theorem dX7_brings_26 : decode cX7_brings 26 = .ok (.lastore, 1) := by decide +kernel
theorem dX7_brings_27 : decode cX7_brings 27 = .ok (.iinc 2 1, 3) := by decide +kernel
theorem dX7_brings_30 : decode cX7_brings 30 = .ok (.goto (-28), 3) := by decide +kernel
theorem dX7_brings_33 : decode cX7_brings 33 = .ok (.iconst 0, 1) := by decide +kernel
theorem dX7_brings_34 : decode cX7_brings 34 = .ok (.istore_n 2, 1) := by decide +kernel
theorem dX7_brings_35 : decode cX7_brings 35 = .ok (.iload_n 2, 1) := by decide +kernel
theorem dX7_brings_36 : decode cX7_brings 36 = .ok (.bipush 8, 2) := by decide +kernel
theorem dX7_brings_38 : decode cX7_brings 38 = .ok (.if_icmp .ge 26, 3) := by decide +kernel
theorem dX7_brings_41 : decode cX7_brings 41 = .ok (.aload_n 0, 1) := by decide +kernel
theorem dX7_brings_42 : decode cX7_brings 42 = .ok (.getfield 13, 3) := by decide +kernel
theorem dX7_brings_45 : decode cX7_brings 45 = .ok (.iload_n 2, 1) := by decide +kernel
theorem dX7_brings_46 : decode cX7_brings 46 = .ok (.aload_n 0, 1) := by decide +kernel
theorem dX7_brings_47 : decode cX7_brings 47 = .ok (.getfield 23, 3) := by decide +kernel
theorem dX7_brings_50 : decode cX7_brings 50 = .ok (.iload_n 1, 1) := by decide +kernel
theorem dX7_brings_51 : decode cX7_brings 51 = .ok (.bipush 8, 2) := by decide +kernel
theorem dX7_brings_53 : decode cX7_brings 53 = .ok (.imul, 1) := by decide +kernel
theorem dX7_brings_54 : decode cX7_brings 54 = .ok (.iload_n 2, 1) := by decide +kernel
theorem dX7_brings_55 : decode cX7_brings 55 = .ok (.iadd, 1) := by decide +kernel
theorem dX7_brings_56 : decode cX7_brings 56 = .ok (.daload, 1) := by decide +kernel
theorem dX7_brings_57 : decode cX7_brings 57 = .ok (.dastore, 1) := by decide +kernel
theorem dX7_brings_58 : decode cX7_brings 58 = .ok (.iinc 2 1, 3) := by decide +kernel
theorem dX7_brings_61 : decode cX7_brings 61 = .ok (.goto (-26), 3) := by decide +kernel
theorem dX7_brings_64 : decode cX7_brings 64 = .ok (.iconst 0, 1) := by decide +kernel
theorem dX7_brings_65 : decode cX7_brings 65 = .ok (.istore_n 2, 1) := by decide +kernel
theorem dX7_brings_66 : decode cX7_brings 66 = .ok (.iload_n 2, 1) := by decide +kernel
theorem dX7_brings_67 : decode cX7_brings 67 = .ok (.i2l, 1) := by decide +kernel
theorem dX7_brings_68 : decode cX7_brings 68 = .ok (.aload_n 0, 1) := by decide +kernel
theorem dX7_brings_69 : decode cX7_brings 69 = .ok (.getfield 7, 3) := by decide +kernel
theorem dX7_brings_72 : decode cX7_brings 72 = .ok (.iconst 4, 1) := by decide +kernel
theorem dX7_brings_73 : decode cX7_brings 73 = .ok (.laload, 1) := by decide +kernel
theorem dX7_brings_74 : decode cX7_brings 74 = .ok (.lcmp, 1) := by decide +kernel
theorem dX7_brings_75 : decode cX7_brings 75 = .ok (.ifCond .ge 27, 3) := by decide +kernel
theorem dX7_brings_78 : decode cX7_brings 78 = .ok (.aload_n 0, 1) := by decide +kernel
theorem dX7_brings_79 : decode cX7_brings 79 = .ok (.getfield 17, 3) := by decide +kernel
theorem dX7_brings_82 : decode cX7_brings 82 = .ok (.iload_n 2, 1) := by decide +kernel
theorem dX7_brings_83 : decode cX7_brings 83 = .ok (.aload_n 0, 1) := by decide +kernel
theorem dX7_brings_84 : decode cX7_brings 84 = .ok (.getfield 27, 3) := by decide +kernel
theorem dX7_brings_87 : decode cX7_brings 87 = .ok (.iload_n 1, 1) := by decide +kernel
theorem dX7_brings_88 : decode cX7_brings 88 = .ok (.sipush 8400, 3) := by decide +kernel
theorem dX7_brings_91 : decode cX7_brings 91 = .ok (.imul, 1) := by decide +kernel
theorem dX7_brings_92 : decode cX7_brings 92 = .ok (.iload_n 2, 1) := by decide +kernel
theorem dX7_brings_93 : decode cX7_brings 93 = .ok (.iadd, 1) := by decide +kernel
theorem dX7_brings_94 : decode cX7_brings 94 = .ok (.laload, 1) := by decide +kernel
theorem dX7_brings_95 : decode cX7_brings 95 = .ok (.lastore, 1) := by decide +kernel
theorem dX7_brings_96 : decode cX7_brings 96 = .ok (.iinc 2 1, 3) := by decide +kernel
theorem dX7_brings_99 : decode cX7_brings 99 = .ok (.goto (-33), 3) := by decide +kernel
theorem dX7_brings_102 : decode cX7_brings 102 = .ok (.return_, 1) := by decide +kernel
theorem dX7_drops_0 : decode cX7_drops 0 = .ok (.iconst 0, 1) := by decide +kernel
theorem dX7_drops_1 : decode cX7_drops 1 = .ok (.istore_n 1, 1) := by decide +kernel
theorem dX7_drops_2 : decode cX7_drops 2 = .ok (.iload_n 1, 1) := by decide +kernel
theorem dX7_drops_3 : decode cX7_drops 3 = .ok (.sipush 1885, 3) := by decide +kernel
theorem dX7_drops_6 : decode cX7_drops 6 = .ok (.if_icmp .ge 25, 3) := by decide +kernel
theorem dX7_drops_9 : decode cX7_drops 9 = .ok (.aload_n 0, 1) := by decide +kernel
theorem dX7_drops_10 : decode cX7_drops 10 = .ok (.getfield 20, 3) := by decide +kernel
theorem dX7_drops_13 : decode cX7_drops 13 = .ok (.iload_n 1, 1) := by decide +kernel
theorem dX7_drops_14 : decode cX7_drops 14 = .ok (.aload_n 0, 1) := by decide +kernel
theorem dX7_drops_15 : decode cX7_drops 15 = .ok (.getfield 20, 3) := by decide +kernel
theorem dX7_drops_18 : decode cX7_drops 18 = .ok (.iload_n 1, 1) := by decide +kernel
theorem dX7_drops_19 : decode cX7_drops 19 = .ok (.sipush 377, 3) := by decide +kernel
theorem dX7_drops_22 : decode cX7_drops 22 = .ok (.iadd, 1) := by decide +kernel
theorem dX7_drops_23 : decode cX7_drops 23 = .ok (.laload, 1) := by decide +kernel
theorem dX7_drops_24 : decode cX7_drops 24 = .ok (.lastore, 1) := by decide +kernel
theorem dX7_drops_25 : decode cX7_drops 25 = .ok (.iinc 1 1, 3) := by decide +kernel
theorem dX7_drops_28 : decode cX7_drops 28 = .ok (.goto (-26), 3) := by decide +kernel
theorem dX7_drops_31 : decode cX7_drops 31 = .ok (.iconst 0, 1) := by decide +kernel
theorem dX7_drops_32 : decode cX7_drops 32 = .ok (.istore_n 1, 1) := by decide +kernel
theorem dX7_drops_33 : decode cX7_drops 33 = .ok (.iload_n 1, 1) := by decide +kernel
theorem dX7_drops_34 : decode cX7_drops 34 = .ok (.bipush 40, 2) := by decide +kernel
theorem dX7_drops_36 : decode cX7_drops 36 = .ok (.if_icmp .ge 24, 3) := by decide +kernel
theorem dX7_drops_39 : decode cX7_drops 39 = .ok (.aload_n 0, 1) := by decide +kernel
theorem dX7_drops_40 : decode cX7_drops 40 = .ok (.getfield 23, 3) := by decide +kernel
theorem dX7_drops_43 : decode cX7_drops 43 = .ok (.iload_n 1, 1) := by decide +kernel
theorem dX7_drops_44 : decode cX7_drops 44 = .ok (.aload_n 0, 1) := by decide +kernel
theorem dX7_drops_45 : decode cX7_drops 45 = .ok (.getfield 23, 3) := by decide +kernel
theorem dX7_drops_48 : decode cX7_drops 48 = .ok (.iload_n 1, 1) := by decide +kernel
theorem dX7_drops_49 : decode cX7_drops 49 = .ok (.bipush 8, 2) := by decide +kernel
theorem dX7_drops_51 : decode cX7_drops 51 = .ok (.iadd, 1) := by decide +kernel
theorem dX7_drops_52 : decode cX7_drops 52 = .ok (.daload, 1) := by decide +kernel
theorem dX7_drops_53 : decode cX7_drops 53 = .ok (.dastore, 1) := by decide +kernel
theorem dX7_drops_54 : decode cX7_drops 54 = .ok (.iinc 1 1, 3) := by decide +kernel
theorem dX7_drops_57 : decode cX7_drops 57 = .ok (.goto (-24), 3) := by decide +kernel
theorem dX7_drops_60 : decode cX7_drops 60 = .ok (.iconst 0, 1) := by decide +kernel
theorem dX7_drops_61 : decode cX7_drops 61 = .ok (.istore_n 1, 1) := by decide +kernel
theorem dX7_drops_62 : decode cX7_drops 62 = .ok (.iload_n 1, 1) := by decide +kernel
theorem dX7_drops_63 : decode cX7_drops 63 = .ok (.ldc 51, 2) := by decide +kernel
theorem dX7_drops_65 : decode cX7_drops 65 = .ok (.if_icmp .ge 25, 3) := by decide +kernel
theorem dX7_drops_68 : decode cX7_drops 68 = .ok (.aload_n 0, 1) := by decide +kernel
theorem dX7_drops_69 : decode cX7_drops 69 = .ok (.getfield 27, 3) := by decide +kernel
theorem dX7_drops_72 : decode cX7_drops 72 = .ok (.iload_n 1, 1) := by decide +kernel
theorem dX7_drops_73 : decode cX7_drops 73 = .ok (.aload_n 0, 1) := by decide +kernel
theorem dX7_drops_74 : decode cX7_drops 74 = .ok (.getfield 27, 3) := by decide +kernel
theorem dX7_drops_77 : decode cX7_drops 77 = .ok (.iload_n 1, 1) := by decide +kernel
theorem dX7_drops_78 : decode cX7_drops 78 = .ok (.sipush 8400, 3) := by decide +kernel
theorem dX7_drops_81 : decode cX7_drops 81 = .ok (.iadd, 1) := by decide +kernel
theorem dX7_drops_82 : decode cX7_drops 82 = .ok (.laload, 1) := by decide +kernel
theorem dX7_drops_83 : decode cX7_drops 83 = .ok (.lastore, 1) := by decide +kernel
theorem dX7_drops_84 : decode cX7_drops 84 = .ok (.iinc 1 1, 3) := by decide +kernel
theorem dX7_drops_87 : decode cX7_drops 87 = .ok (.goto (-25), 3) := by decide +kernel
theorem dX7_drops_90 : decode cX7_drops 90 = .ok (.aload_n 0, 1) := by decide +kernel
theorem dX7_drops_91 : decode cX7_drops 91 = .ok (.dup, 1) := by decide +kernel
theorem dX7_drops_92 : decode cX7_drops 92 = .ok (.getfield 52, 3) := by decide +kernel
theorem dX7_drops_95 : decode cX7_drops 95 = .ok (.iconst 1, 1) := by decide +kernel
theorem dX7_drops_96 : decode cX7_drops 96 = .ok (.isub, 1) := by decide +kernel
theorem dX7_drops_97 : decode cX7_drops 97 = .ok (.putfield 52, 3) := by decide +kernel
theorem dX7_drops_100 : decode cX7_drops 100 = .ok (.return_, 1) := by decide +kernel
theorem dX7_records_0 : decode cX7_records 0 = .ok (.aload_n 0, 1) := by decide +kernel
theorem dX7_records_1 : decode cX7_records 1 = .ok (.getfield 52, 3) := by decide +kernel
theorem dX7_records_4 : decode cX7_records 4 = .ok (.bipush 6, 2) := by decide +kernel
theorem dX7_records_6 : decode cX7_records 6 = .ok (.if_icmp .ne 7, 3) := by decide +kernel
theorem dX7_records_9 : decode cX7_records 9 = .ok (.aload_n 0, 1) := by decide +kernel
theorem dX7_records_10 : decode cX7_records 10 = .ok (.invokevirtual 56, 3) := by decide +kernel
theorem dX7_records_13 : decode cX7_records 13 = .ok (.aload_n 0, 1) := by decide +kernel
theorem dX7_records_14 : decode cX7_records 14 = .ok (.aload_n 0, 1) := by decide +kernel
theorem dX7_records_15 : decode cX7_records 15 = .ok (.getfield 52, 3) := by decide +kernel
theorem dX7_records_18 : decode cX7_records 18 = .ok (.invokevirtual 59, 3) := by decide +kernel
theorem dX7_records_21 : decode cX7_records 21 = .ok (.aload_n 0, 1) := by decide +kernel
theorem dX7_records_22 : decode cX7_records 22 = .ok (.dup, 1) := by decide +kernel
theorem dX7_records_23 : decode cX7_records 23 = .ok (.getfield 52, 3) := by decide +kernel
theorem dX7_records_26 : decode cX7_records 26 = .ok (.iconst 1, 1) := by decide +kernel
theorem dX7_records_27 : decode cX7_records 27 = .ok (.iadd, 1) := by decide +kernel
theorem dX7_records_28 : decode cX7_records 28 = .ok (.putfield 52, 3) := by decide +kernel
theorem dX7_records_31 : decode cX7_records 31 = .ok (.return_, 1) := by decide +kernel
theorem dX7_undo_0 : decode cX7_undo 0 = .ok (.aload_n 0, 1) := by decide +kernel
theorem dX7_undo_1 : decode cX7_undo 1 = .ok (.getfield 52, 3) := by decide +kernel
theorem dX7_undo_4 : decode cX7_undo 4 = .ok (.ifCond .ne 6, 3) := by decide +kernel
theorem dX7_undo_7 : decode cX7_undo 7 = .ok (.bipush (-5), 2) := by decide +kernel
theorem dX7_undo_9 : decode cX7_undo 9 = .ok (.ireturn, 1) := by decide +kernel
theorem dX7_undo_10 : decode cX7_undo 10 = .ok (.aload_n 0, 1) := by decide +kernel
theorem dX7_undo_11 : decode cX7_undo 11 = .ok (.dup, 1) := by decide +kernel
theorem dX7_undo_12 : decode cX7_undo 12 = .ok (.getfield 52, 3) := by decide +kernel
theorem dX7_undo_15 : decode cX7_undo 15 = .ok (.iconst 1, 1) := by decide +kernel
theorem dX7_undo_16 : decode cX7_undo 16 = .ok (.isub, 1) := by decide +kernel
theorem dX7_undo_17 : decode cX7_undo 17 = .ok (.putfield 52, 3) := by decide +kernel
theorem dX7_undo_20 : decode cX7_undo 20 = .ok (.aload_n 0, 1) := by decide +kernel
theorem dX7_undo_21 : decode cX7_undo 21 = .ok (.aload_n 0, 1) := by decide +kernel
theorem dX7_undo_22 : decode cX7_undo 22 = .ok (.getfield 52, 3) := by decide +kernel
theorem dX7_undo_25 : decode cX7_undo 25 = .ok (.invokevirtual 63, 3) := by decide +kernel
theorem dX7_undo_28 : decode cX7_undo 28 = .ok (.aload_n 0, 1) := by decide +kernel
theorem dX7_undo_29 : decode cX7_undo 29 = .ok (.getfield 52, 3) := by decide +kernel
theorem dX7_undo_32 : decode cX7_undo 32 = .ok (.ireturn, 1) := by decide +kernel
theorem dX7_save_0 : decode cX7_save 0 = .ok (.iload_n 1, 1) := by decide +kernel
theorem dX7_save_1 : decode cX7_save 1 = .ok (.i2l, 1) := by decide +kernel
theorem dX7_save_2 : decode cX7_save 2 = .ok (.lconst 0, 1) := by decide +kernel
theorem dX7_save_3 : decode cX7_save 3 = .ok (.lconst 1, 1) := by decide +kernel
theorem dX7_save_4 : decode cX7_save 4 = .ok (.invokestatic 47, 3) := by decide +kernel
theorem dX7_save_7 : decode cX7_save 7 = .ok (.ifCond .ne 6, 3) := by decide +kernel
theorem dX7_save_10 : decode cX7_save 10 = .ok (.bipush (-2), 2) := by decide +kernel
theorem dX7_save_12 : decode cX7_save 12 = .ok (.ireturn, 1) := by decide +kernel
theorem dX7_save_13 : decode cX7_save 13 = .ok (.aload_n 0, 1) := by decide +kernel
theorem dX7_save_14 : decode cX7_save 14 = .ok (.bipush 6, 2) := by decide +kernel
theorem dX7_save_16 : decode cX7_save 16 = .ok (.iload_n 1, 1) := by decide +kernel
theorem dX7_save_17 : decode cX7_save 17 = .ok (.iadd, 1) := by decide +kernel
theorem dX7_save_18 : decode cX7_save 18 = .ok (.invokevirtual 59, 3) := by decide +kernel
theorem dX7_save_21 : decode cX7_save 21 = .ok (.aload_n 0, 1) := by decide +kernel
theorem dX7_save_22 : decode cX7_save 22 = .ok (.getfield 30, 3) := by decide +kernel
theorem dX7_save_25 : decode cX7_save 25 = .ok (.iload_n 1, 1) := by decide +kernel
theorem dX7_save_26 : decode cX7_save 26 = .ok (.iconst 1, 1) := by decide +kernel
theorem dX7_save_27 : decode cX7_save 27 = .ok (.iastore, 1) := by decide +kernel
theorem dX7_save_28 : decode cX7_save 28 = .ok (.aload_n 0, 1) := by decide +kernel
theorem dX7_save_29 : decode cX7_save 29 = .ok (.invokevirtual 66, 3) := by decide +kernel
theorem dX7_save_32 : decode cX7_save 32 = .ok (.ireturn, 1) := by decide +kernel
theorem dX7_restore_0 : decode cX7_restore 0 = .ok (.iload_n 1, 1) := by decide +kernel
theorem dX7_restore_1 : decode cX7_restore 1 = .ok (.i2l, 1) := by decide +kernel
theorem dX7_restore_2 : decode cX7_restore 2 = .ok (.lconst 0, 1) := by decide +kernel
theorem dX7_restore_3 : decode cX7_restore 3 = .ok (.lconst 1, 1) := by decide +kernel
theorem dX7_restore_4 : decode cX7_restore 4 = .ok (.invokestatic 47, 3) := by decide +kernel
theorem dX7_restore_7 : decode cX7_restore 7 = .ok (.ifCond .ne 6, 3) := by decide +kernel
theorem dX7_restore_10 : decode cX7_restore 10 = .ok (.bipush (-2), 2) := by decide +kernel
theorem dX7_restore_12 : decode cX7_restore 12 = .ok (.ireturn, 1) := by decide +kernel
theorem dX7_restore_13 : decode cX7_restore 13 = .ok (.aload_n 0, 1) := by decide +kernel
theorem dX7_restore_14 : decode cX7_restore 14 = .ok (.getfield 30, 3) := by decide +kernel
theorem dX7_restore_17 : decode cX7_restore 17 = .ok (.iload_n 1, 1) := by decide +kernel
theorem dX7_restore_18 : decode cX7_restore 18 = .ok (.iaload, 1) := by decide +kernel
theorem dX7_restore_19 : decode cX7_restore 19 = .ok (.ifCond .ne 6, 3) := by decide +kernel
theorem dX7_restore_22 : decode cX7_restore 22 = .ok (.bipush (-5), 2) := by decide +kernel
theorem dX7_restore_24 : decode cX7_restore 24 = .ok (.ireturn, 1) := by decide +kernel
theorem dX7_restore_25 : decode cX7_restore 25 = .ok (.aload_n 0, 1) := by decide +kernel
theorem dX7_restore_26 : decode cX7_restore 26 = .ok (.invokevirtual 70, 3) := by decide +kernel
theorem dX7_restore_29 : decode cX7_restore 29 = .ok (.aload_n 0, 1) := by decide +kernel
theorem dX7_restore_30 : decode cX7_restore 30 = .ok (.bipush 6, 2) := by decide +kernel
theorem dX7_restore_32 : decode cX7_restore 32 = .ok (.iload_n 1, 1) := by decide +kernel
theorem dX7_restore_33 : decode cX7_restore 33 = .ok (.iadd, 1) := by decide +kernel
theorem dX7_restore_34 : decode cX7_restore 34 = .ok (.invokevirtual 63, 3) := by decide +kernel
theorem dX7_restore_37 : decode cX7_restore 37 = .ok (.aload_n 0, 1) := by decide +kernel
theorem dX7_restore_38 : decode cX7_restore 38 = .ok (.invokevirtual 66, 3) := by decide +kernel
theorem dX7_restore_41 : decode cX7_restore 41 = .ok (.ireturn, 1) := by decide +kernel
theorem dX7_isDay_0 : decode cX7_isDay 0 = .ok (.iload_n 0, 1) := by decide +kernel
theorem dX7_isDay_1 : decode cX7_isDay 1 = .ok (.i2l, 1) := by decide +kernel
theorem dX7_isDay_2 : decode cX7_isDay 2 = .ok (.lconst 0, 1) := by decide +kernel
theorem dX7_isDay_3 : decode cX7_isDay 3 = .ok (.ldc2_w 73, 3) := by decide +kernel
theorem dX7_isDay_6 : decode cX7_isDay 6 = .ok (.invokestatic 47, 3) := by decide +kernel
theorem dX7_isDay_9 : decode cX7_isDay 9 = .ok (.ireturn, 1) := by decide +kernel
theorem dX7_monthLength_0 : decode cX7_monthLength 0 = .ok (.iload_n 0, 1) := by decide +kernel
theorem dX7_monthLength_1 : decode cX7_monthLength 1 = .ok (.bipush 12, 2) := by decide +kernel
theorem dX7_monthLength_3 : decode cX7_monthLength 3 = .ok (.irem, 1) := by decide +kernel
theorem dX7_monthLength_4 : decode cX7_monthLength 4 = .ok (.istore_n 1, 1) := by decide +kernel
theorem dX7_monthLength_5 : decode cX7_monthLength 5 = .ok (.iload_n 1, 1) := by decide +kernel
theorem dX7_monthLength_6 : decode cX7_monthLength 6 = .ok (.iconst 1, 1) := by decide +kernel
theorem dX7_monthLength_7 : decode cX7_monthLength 7 = .ok (.if_icmp .ne 6, 3) := by decide +kernel
theorem dX7_monthLength_10 : decode cX7_monthLength 10 = .ok (.bipush 28, 2) := by decide +kernel
theorem dX7_monthLength_12 : decode cX7_monthLength 12 = .ok (.ireturn, 1) := by decide +kernel
theorem dX7_monthLength_13 : decode cX7_monthLength 13 = .ok (.iload_n 1, 1) := by decide +kernel
theorem dX7_monthLength_14 : decode cX7_monthLength 14 = .ok (.iconst 3, 1) := by decide +kernel
theorem dX7_monthLength_15 : decode cX7_monthLength 15 = .ok (.if_icmp .eq 20, 3) := by decide +kernel
theorem dX7_monthLength_18 : decode cX7_monthLength 18 = .ok (.iload_n 1, 1) := by decide +kernel
theorem dX7_monthLength_19 : decode cX7_monthLength 19 = .ok (.iconst 5, 1) := by decide +kernel
theorem dX7_monthLength_20 : decode cX7_monthLength 20 = .ok (.if_icmp .eq 15, 3) := by decide +kernel
theorem dX7_monthLength_23 : decode cX7_monthLength 23 = .ok (.iload_n 1, 1) := by decide +kernel
theorem dX7_monthLength_24 : decode cX7_monthLength 24 = .ok (.bipush 8, 2) := by decide +kernel
theorem dX7_monthLength_26 : decode cX7_monthLength 26 = .ok (.if_icmp .eq 9, 3) := by decide +kernel
theorem dX7_monthLength_29 : decode cX7_monthLength 29 = .ok (.iload_n 1, 1) := by decide +kernel
theorem dX7_monthLength_30 : decode cX7_monthLength 30 = .ok (.bipush 10, 2) := by decide +kernel
theorem dX7_monthLength_32 : decode cX7_monthLength 32 = .ok (.if_icmp .ne 8, 3) := by decide +kernel
theorem dX7_monthLength_35 : decode cX7_monthLength 35 = .ok (.bipush 30, 2) := by decide +kernel
theorem dX7_monthLength_37 : decode cX7_monthLength 37 = .ok (.goto 5, 3) := by decide +kernel
theorem dX7_monthLength_40 : decode cX7_monthLength 40 = .ok (.bipush 31, 2) := by decide +kernel
theorem dX7_monthLength_42 : decode cX7_monthLength 42 = .ok (.ireturn, 1) := by decide +kernel
theorem dX7_monthStart_0 : decode cX7_monthStart 0 = .ok (.iload_n 0, 1) := by decide +kernel
theorem dX7_monthStart_1 : decode cX7_monthStart 1 = .ok (.bipush 12, 2) := by decide +kernel
theorem dX7_monthStart_3 : decode cX7_monthStart 3 = .ok (.idiv, 1) := by decide +kernel
theorem dX7_monthStart_4 : decode cX7_monthStart 4 = .ok (.sipush 365, 3) := by decide +kernel
theorem dX7_monthStart_7 : decode cX7_monthStart 7 = .ok (.imul, 1) := by decide +kernel
theorem dX7_monthStart_8 : decode cX7_monthStart 8 = .ok (.istore_n 1, 1) := by decide +kernel
theorem dX7_monthStart_9 : decode cX7_monthStart 9 = .ok (.iload_n 0, 1) := by decide +kernel
theorem dX7_monthStart_10 : decode cX7_monthStart 10 = .ok (.bipush 12, 2) := by decide +kernel
theorem dX7_monthStart_12 : decode cX7_monthStart 12 = .ok (.idiv, 1) := by decide +kernel
theorem dX7_monthStart_13 : decode cX7_monthStart 13 = .ok (.bipush 12, 2) := by decide +kernel
theorem dX7_monthStart_15 : decode cX7_monthStart 15 = .ok (.imul, 1) := by decide +kernel
theorem dX7_monthStart_16 : decode cX7_monthStart 16 = .ok (.istore_n 2, 1) := by decide +kernel
theorem dX7_monthStart_17 : decode cX7_monthStart 17 = .ok (.iload_n 2, 1) := by decide +kernel
theorem dX7_monthStart_18 : decode cX7_monthStart 18 = .ok (.iload_n 0, 1) := by decide +kernel
theorem dX7_monthStart_19 : decode cX7_monthStart 19 = .ok (.if_icmp .ge 16, 3) := by decide +kernel
theorem dX7_monthStart_22 : decode cX7_monthStart 22 = .ok (.iload_n 1, 1) := by decide +kernel
theorem dX7_monthStart_23 : decode cX7_monthStart 23 = .ok (.iload_n 2, 1) := by decide +kernel
theorem dX7_monthStart_24 : decode cX7_monthStart 24 = .ok (.invokestatic 75, 3) := by decide +kernel
theorem dX7_monthStart_27 : decode cX7_monthStart 27 = .ok (.iadd, 1) := by decide +kernel
theorem dX7_monthStart_28 : decode cX7_monthStart 28 = .ok (.istore_n 1, 1) := by decide +kernel
theorem dX7_monthStart_29 : decode cX7_monthStart 29 = .ok (.iinc 2 1, 3) := by decide +kernel
theorem dX7_monthStart_32 : decode cX7_monthStart 32 = .ok (.goto (-15), 3) := by decide +kernel
theorem dX7_monthStart_35 : decode cX7_monthStart 35 = .ok (.iload_n 1, 1) := by decide +kernel
theorem dX7_monthStart_36 : decode cX7_monthStart 36 = .ok (.ireturn, 1) := by decide +kernel
theorem dX7_monthOf_0 : decode cX7_monthOf 0 = .ok (.iload_n 0, 1) := by decide +kernel
theorem dX7_monthOf_1 : decode cX7_monthOf 1 = .ok (.sipush 365, 3) := by decide +kernel
theorem dX7_monthOf_4 : decode cX7_monthOf 4 = .ok (.idiv, 1) := by decide +kernel
theorem dX7_monthOf_5 : decode cX7_monthOf 5 = .ok (.bipush 12, 2) := by decide +kernel
theorem dX7_monthOf_7 : decode cX7_monthOf 7 = .ok (.imul, 1) := by decide +kernel
theorem dX7_monthOf_8 : decode cX7_monthOf 8 = .ok (.istore_n 1, 1) := by decide +kernel
theorem dX7_monthOf_9 : decode cX7_monthOf 9 = .ok (.iload_n 1, 1) := by decide +kernel
theorem dX7_monthOf_10 : decode cX7_monthOf 10 = .ok (.invokestatic 78, 3) := by decide +kernel
theorem dX7_monthOf_13 : decode cX7_monthOf 13 = .ok (.iload_n 1, 1) := by decide +kernel
theorem dX7_monthOf_14 : decode cX7_monthOf 14 = .ok (.invokestatic 75, 3) := by decide +kernel
theorem dX7_monthOf_17 : decode cX7_monthOf 17 = .ok (.iadd, 1) := by decide +kernel
theorem dX7_monthOf_18 : decode cX7_monthOf 18 = .ok (.iload_n 0, 1) := by decide +kernel
theorem dX7_monthOf_19 : decode cX7_monthOf 19 = .ok (.if_icmp .gt 9, 3) := by decide +kernel
theorem dX7_monthOf_22 : decode cX7_monthOf 22 = .ok (.iinc 1 1, 3) := by decide +kernel
theorem dX7_monthOf_25 : decode cX7_monthOf 25 = .ok (.goto (-16), 3) := by decide +kernel
theorem dX7_monthOf_28 : decode cX7_monthOf 28 = .ok (.iload_n 1, 1) := by decide +kernel
theorem dX7_monthOf_29 : decode cX7_monthOf 29 = .ok (.ireturn, 1) := by decide +kernel
theorem dX7_weekdayOf_0 : decode cX7_weekdayOf 0 = .ok (.iload_n 1, 1) := by decide +kernel
theorem dX7_weekdayOf_1 : decode cX7_weekdayOf 1 = .ok (.aload_n 0, 1) := by decide +kernel
theorem dX7_weekdayOf_2 : decode cX7_weekdayOf 2 = .ok (.bipush 12, 2) := by decide +kernel
theorem dX7_weekdayOf_4 : decode cX7_weekdayOf 4 = .ok (.invokevirtual 43, 3) := by decide +kernel
theorem dX7_weekdayOf_7 : decode cX7_weekdayOf 7 = .ok (.iadd, 1) := by decide +kernel
theorem dX7_weekdayOf_8 : decode cX7_weekdayOf 8 = .ok (.bipush 7, 2) := by decide +kernel
theorem dX7_weekdayOf_10 : decode cX7_weekdayOf 10 = .ok (.irem, 1) := by decide +kernel
theorem dX7_weekdayOf_11 : decode cX7_weekdayOf 11 = .ok (.ireturn, 1) := by decide +kernel
theorem dX7_isHoliday_0 : decode cX7_isHoliday 0 = .ok (.iconst 0, 1) := by decide +kernel
theorem dX7_isHoliday_1 : decode cX7_isHoliday 1 = .ok (.istore_n 2, 1) := by decide +kernel
theorem dX7_isHoliday_2 : decode cX7_isHoliday 2 = .ok (.iconst 0, 1) := by decide +kernel
theorem dX7_isHoliday_3 : decode cX7_isHoliday 3 = .ok (.istore_n 3, 1) := by decide +kernel
theorem dX7_isHoliday_4 : decode cX7_isHoliday 4 = .ok (.iload_n 3, 1) := by decide +kernel
theorem dX7_isHoliday_5 : decode cX7_isHoliday 5 = .ok (.i2l, 1) := by decide +kernel
theorem dX7_isHoliday_6 : decode cX7_isHoliday 6 = .ok (.aload_n 0, 1) := by decide +kernel
theorem dX7_isHoliday_7 : decode cX7_isHoliday 7 = .ok (.getfield 7, 3) := by decide +kernel
theorem dX7_isHoliday_10 : decode cX7_isHoliday 10 = .ok (.iconst 3, 1) := by decide +kernel
theorem dX7_isHoliday_11 : decode cX7_isHoliday 11 = .ok (.laload, 1) := by decide +kernel
theorem dX7_isHoliday_12 : decode cX7_isHoliday 12 = .ok (.lcmp, 1) := by decide +kernel
theorem dX7_isHoliday_13 : decode cX7_isHoliday 13 = .ok (.ifCond .ge 34, 3) := by decide +kernel
theorem dX7_isHoliday_16 : decode cX7_isHoliday 16 = .ok (.iload_n 2, 1) := by decide +kernel
theorem dX7_isHoliday_17 : decode cX7_isHoliday 17 = .ok (.ifCond .ne 18, 3) := by decide +kernel
theorem dX7_isHoliday_20 : decode cX7_isHoliday 20 = .ok (.aload_n 0, 1) := by decide +kernel
theorem dX7_isHoliday_21 : decode cX7_isHoliday 21 = .ok (.getfield 7, 3) := by decide +kernel
theorem dX7_isHoliday_24 : decode cX7_isHoliday 24 = .ok (.bipush 13, 2) := by decide +kernel
theorem dX7_isHoliday_26 : decode cX7_isHoliday 26 = .ok (.iload_n 3, 1) := by decide +kernel
theorem dX7_isHoliday_27 : decode cX7_isHoliday 27 = .ok (.iadd, 1) := by decide +kernel
theorem dX7_isHoliday_28 : decode cX7_isHoliday 28 = .ok (.laload, 1) := by decide +kernel
theorem dX7_isHoliday_29 : decode cX7_isHoliday 29 = .ok (.iload_n 1, 1) := by decide +kernel
theorem dX7_isHoliday_30 : decode cX7_isHoliday 30 = .ok (.i2l, 1) := by decide +kernel
theorem dX7_isHoliday_31 : decode cX7_isHoliday 31 = .ok (.lcmp, 1) := by decide +kernel
theorem dX7_isHoliday_32 : decode cX7_isHoliday 32 = .ok (.ifCond .ne 7, 3) := by decide +kernel
theorem dX7_isHoliday_35 : decode cX7_isHoliday 35 = .ok (.iconst 1, 1) := by decide +kernel
theorem dX7_isHoliday_36 : decode cX7_isHoliday 36 = .ok (.goto 4, 3) := by decide +kernel
theorem dX7_isHoliday_39 : decode cX7_isHoliday 39 = .ok (.iconst 0, 1) := by decide +kernel
theorem dX7_isHoliday_40 : decode cX7_isHoliday 40 = .ok (.istore_n 2, 1) := by decide +kernel
theorem dX7_isHoliday_41 : decode cX7_isHoliday 41 = .ok (.iinc 3 1, 3) := by decide +kernel
theorem dX7_isHoliday_44 : decode cX7_isHoliday 44 = .ok (.goto (-40), 3) := by decide +kernel
theorem dX7_isHoliday_47 : decode cX7_isHoliday 47 = .ok (.iload_n 2, 1) := by decide +kernel
theorem dX7_isHoliday_48 : decode cX7_isHoliday 48 = .ok (.ireturn, 1) := by decide +kernel
theorem dX7_isBusiness_0 : decode cX7_isBusiness 0 = .ok (.aload_n 0, 1) := by decide +kernel
theorem dX7_isBusiness_1 : decode cX7_isBusiness 1 = .ok (.iload_n 1, 1) := by decide +kernel
theorem dX7_isBusiness_2 : decode cX7_isBusiness 2 = .ok (.invokevirtual 81, 3) := by decide +kernel
theorem dX7_isBusiness_5 : decode cX7_isBusiness 5 = .ok (.iconst 5, 1) := by decide +kernel
theorem dX7_isBusiness_6 : decode cX7_isBusiness 6 = .ok (.if_icmp .ge 15, 3) := by decide +kernel
theorem dX7_isBusiness_9 : decode cX7_isBusiness 9 = .ok (.aload_n 0, 1) := by decide +kernel
theorem dX7_isBusiness_10 : decode cX7_isBusiness 10 = .ok (.iload_n 1, 1) := by decide +kernel
theorem dX7_isBusiness_11 : decode cX7_isBusiness 11 = .ok (.invokevirtual 84, 3) := by decide +kernel
theorem dX7_isBusiness_14 : decode cX7_isBusiness 14 = .ok (.ifCond .ne 7, 3) := by decide +kernel
theorem dX7_isBusiness_17 : decode cX7_isBusiness 17 = .ok (.iconst 1, 1) := by decide +kernel
theorem dX7_isBusiness_18 : decode cX7_isBusiness 18 = .ok (.goto 4, 3) := by decide +kernel
theorem dX7_isBusiness_21 : decode cX7_isBusiness 21 = .ok (.iconst 0, 1) := by decide +kernel
theorem dX7_isBusiness_22 : decode cX7_isBusiness 22 = .ok (.ireturn, 1) := by decide +kernel
theorem dX7_nextBusiness_0 : decode cX7_nextBusiness 0 = .ok (.iload_n 1, 1) := by decide +kernel
theorem dX7_nextBusiness_1 : decode cX7_nextBusiness 1 = .ok (.istore_n 2, 1) := by decide +kernel
theorem dX7_nextBusiness_2 : decode cX7_nextBusiness 2 = .ok (.iload_n 2, 1) := by decide +kernel
theorem dX7_nextBusiness_3 : decode cX7_nextBusiness 3 = .ok (.sipush 1094, 3) := by decide +kernel
theorem dX7_nextBusiness_6 : decode cX7_nextBusiness 6 = .ok (.if_icmp .gt 19, 3) := by decide +kernel
theorem dX7_nextBusiness_9 : decode cX7_nextBusiness 9 = .ok (.aload_n 0, 1) := by decide +kernel
theorem dX7_nextBusiness_10 : decode cX7_nextBusiness 10 = .ok (.iload_n 2, 1) := by decide +kernel
theorem dX7_nextBusiness_11 : decode cX7_nextBusiness 11 = .ok (.invokevirtual 88, 3) := by decide +kernel
theorem dX7_nextBusiness_14 : decode cX7_nextBusiness 14 = .ok (.ifCond .eq 5, 3) := by decide +kernel
theorem dX7_nextBusiness_17 : decode cX7_nextBusiness 17 = .ok (.iload_n 2, 1) := by decide +kernel
theorem dX7_nextBusiness_18 : decode cX7_nextBusiness 18 = .ok (.ireturn, 1) := by decide +kernel
theorem dX7_nextBusiness_19 : decode cX7_nextBusiness 19 = .ok (.iinc 2 1, 3) := by decide +kernel
theorem dX7_nextBusiness_22 : decode cX7_nextBusiness 22 = .ok (.goto (-20), 3) := by decide +kernel
theorem dX7_nextBusiness_25 : decode cX7_nextBusiness 25 = .ok (.bipush (-6), 2) := by decide +kernel
theorem dX7_nextBusiness_27 : decode cX7_nextBusiness 27 = .ok (.ireturn, 1) := by decide +kernel
theorem dX7_lastBusiness_0 : decode cX7_lastBusiness 0 = .ok (.iload_n 1, 1) := by decide +kernel
theorem dX7_lastBusiness_1 : decode cX7_lastBusiness 1 = .ok (.istore_n 2, 1) := by decide +kernel
theorem dX7_lastBusiness_2 : decode cX7_lastBusiness 2 = .ok (.iload_n 2, 1) := by decide +kernel
theorem dX7_lastBusiness_3 : decode cX7_lastBusiness 3 = .ok (.ifCond .lt 19, 3) := by decide +kernel
theorem dX7_lastBusiness_6 : decode cX7_lastBusiness 6 = .ok (.aload_n 0, 1) := by decide +kernel
theorem dX7_lastBusiness_7 : decode cX7_lastBusiness 7 = .ok (.iload_n 2, 1) := by decide +kernel
theorem dX7_lastBusiness_8 : decode cX7_lastBusiness 8 = .ok (.invokevirtual 88, 3) := by decide +kernel
theorem dX7_lastBusiness_11 : decode cX7_lastBusiness 11 = .ok (.ifCond .eq 5, 3) := by decide +kernel
theorem dX7_lastBusiness_14 : decode cX7_lastBusiness 14 = .ok (.iload_n 2, 1) := by decide +kernel
theorem dX7_lastBusiness_15 : decode cX7_lastBusiness 15 = .ok (.ireturn, 1) := by decide +kernel
theorem dX7_lastBusiness_16 : decode cX7_lastBusiness 16 = .ok (.iinc 2 (-1), 3) := by decide +kernel
theorem dX7_lastBusiness_19 : decode cX7_lastBusiness 19 = .ok (.goto (-17), 3) := by decide +kernel
theorem dX7_lastBusiness_22 : decode cX7_lastBusiness 22 = .ok (.bipush (-6), 2) := by decide +kernel
theorem dX7_lastBusiness_24 : decode cX7_lastBusiness 24 = .ok (.ireturn, 1) := by decide +kernel
theorem dX7_ofDay_0 : decode cX7_ofDay 0 = .ok (.iload_n 1, 1) := by decide +kernel
theorem dX7_ofDay_1 : decode cX7_ofDay 1 = .ok (.invokestatic 91, 3) := by decide +kernel
theorem dX7_ofDay_4 : decode cX7_ofDay 4 = .ok (.ifCond .ne 6, 3) := by decide +kernel
theorem dX7_ofDay_7 : decode cX7_ofDay 7 = .ok (.bipush (-2), 2) := by decide +kernel
theorem dX7_ofDay_9 : decode cX7_ofDay 9 = .ok (.ireturn, 1) := by decide +kernel
theorem dX7_ofDay_10 : decode cX7_ofDay 10 = .ok (.iload_n 2, 1) := by decide +kernel
theorem dX7_ofDay_11 : decode cX7_ofDay 11 = .ok (.tableswitch 86 0 5 #[37, 43, 48, 60, 74, 80], 37) := by decide +kernel
theorem dX7_ofDay_48 : decode cX7_ofDay 48 = .ok (.aload_n 0, 1) := by decide +kernel
theorem dX7_ofDay_49 : decode cX7_ofDay 49 = .ok (.iload_n 1, 1) := by decide +kernel
theorem dX7_ofDay_50 : decode cX7_ofDay 50 = .ok (.invokevirtual 81, 3) := by decide +kernel
theorem dX7_ofDay_53 : decode cX7_ofDay 53 = .ok (.ireturn, 1) := by decide +kernel
theorem dX7_ofDay_54 : decode cX7_ofDay 54 = .ok (.iload_n 1, 1) := by decide +kernel
theorem dX7_ofDay_55 : decode cX7_ofDay 55 = .ok (.invokestatic 94, 3) := by decide +kernel
theorem dX7_ofDay_58 : decode cX7_ofDay 58 = .ok (.ireturn, 1) := by decide +kernel
theorem dX7_ofDay_59 : decode cX7_ofDay 59 = .ok (.iload_n 1, 1) := by decide +kernel
theorem dX7_ofDay_60 : decode cX7_ofDay 60 = .ok (.iload_n 1, 1) := by decide +kernel
theorem dX7_ofDay_61 : decode cX7_ofDay 61 = .ok (.invokestatic 94, 3) := by decide +kernel
theorem dX7_ofDay_64 : decode cX7_ofDay 64 = .ok (.invokestatic 78, 3) := by decide +kernel
theorem dX7_ofDay_67 : decode cX7_ofDay 67 = .ok (.isub, 1) := by decide +kernel
theorem dX7_ofDay_68 : decode cX7_ofDay 68 = .ok (.iconst 1, 1) := by decide +kernel
theorem dX7_ofDay_69 : decode cX7_ofDay 69 = .ok (.iadd, 1) := by decide +kernel
theorem dX7_ofDay_70 : decode cX7_ofDay 70 = .ok (.ireturn, 1) := by decide +kernel
theorem dX7_ofDay_71 : decode cX7_ofDay 71 = .ok (.aload_n 0, 1) := by decide +kernel
theorem dX7_ofDay_72 : decode cX7_ofDay 72 = .ok (.iload_n 1, 1) := by decide +kernel
theorem dX7_ofDay_73 : decode cX7_ofDay 73 = .ok (.invokevirtual 88, 3) := by decide +kernel
theorem dX7_ofDay_76 : decode cX7_ofDay 76 = .ok (.ifCond .eq 7, 3) := by decide +kernel
theorem dX7_ofDay_79 : decode cX7_ofDay 79 = .ok (.iconst 1, 1) := by decide +kernel
theorem dX7_ofDay_80 : decode cX7_ofDay 80 = .ok (.goto 4, 3) := by decide +kernel
theorem dX7_ofDay_83 : decode cX7_ofDay 83 = .ok (.iconst 0, 1) := by decide +kernel
theorem dX7_ofDay_84 : decode cX7_ofDay 84 = .ok (.ireturn, 1) := by decide +kernel
theorem dX7_ofDay_85 : decode cX7_ofDay 85 = .ok (.aload_n 0, 1) := by decide +kernel
theorem dX7_ofDay_86 : decode cX7_ofDay 86 = .ok (.iload_n 1, 1) := by decide +kernel
theorem dX7_ofDay_87 : decode cX7_ofDay 87 = .ok (.invokevirtual 97, 3) := by decide +kernel
theorem dX7_ofDay_90 : decode cX7_ofDay 90 = .ok (.ireturn, 1) := by decide +kernel
theorem dX7_ofDay_91 : decode cX7_ofDay 91 = .ok (.aload_n 0, 1) := by decide +kernel
theorem dX7_ofDay_92 : decode cX7_ofDay 92 = .ok (.iload_n 1, 1) := by decide +kernel
theorem dX7_ofDay_93 : decode cX7_ofDay 93 = .ok (.invokevirtual 100, 3) := by decide +kernel
theorem dX7_ofDay_96 : decode cX7_ofDay 96 = .ok (.ireturn, 1) := by decide +kernel
theorem dX7_ofDay_97 : decode cX7_ofDay 97 = .ok (.bipush (-2), 2) := by decide +kernel
theorem dX7_ofDay_99 : decode cX7_ofDay 99 = .ok (.ireturn, 1) := by decide +kernel
theorem dX7_shifted_0 : decode cX7_shifted 0 = .ok (.iload_n 2, 1) := by decide +kernel
theorem dX7_shifted_1 : decode cX7_shifted 1 = .ok (.ifCond .eq 16, 3) := by decide +kernel
theorem dX7_shifted_4 : decode cX7_shifted 4 = .ok (.iload_n 2, 1) := by decide +kernel
theorem dX7_shifted_5 : decode cX7_shifted 5 = .ok (.iconst 4, 1) := by decide +kernel
theorem dX7_shifted_6 : decode cX7_shifted 6 = .ok (.if_icmp .eq 11, 3) := by decide +kernel
theorem dX7_shifted_9 : decode cX7_shifted 9 = .ok (.aload_n 0, 1) := by decide +kernel
theorem dX7_shifted_10 : decode cX7_shifted 10 = .ok (.iload_n 1, 1) := by decide +kernel
theorem dX7_shifted_11 : decode cX7_shifted 11 = .ok (.invokevirtual 88, 3) := by decide +kernel
theorem dX7_shifted_14 : decode cX7_shifted 14 = .ok (.ifCond .eq 5, 3) := by decide +kernel
theorem dX7_shifted_17 : decode cX7_shifted 17 = .ok (.iload_n 1, 1) := by decide +kernel
theorem dX7_shifted_18 : decode cX7_shifted 18 = .ok (.ireturn, 1) := by decide +kernel
theorem dX7_shifted_19 : decode cX7_shifted 19 = .ok (.aload_n 0, 1) := by decide +kernel
theorem dX7_shifted_20 : decode cX7_shifted 20 = .ok (.iload_n 1, 1) := by decide +kernel
theorem dX7_shifted_21 : decode cX7_shifted 21 = .ok (.invokevirtual 97, 3) := by decide +kernel
theorem dX7_shifted_24 : decode cX7_shifted 24 = .ok (.istore_n 3, 1) := by decide +kernel
theorem dX7_shifted_25 : decode cX7_shifted 25 = .ok (.aload_n 0, 1) := by decide +kernel
theorem dX7_shifted_26 : decode cX7_shifted 26 = .ok (.iload_n 1, 1) := by decide +kernel
theorem dX7_shifted_27 : decode cX7_shifted 27 = .ok (.invokevirtual 100, 3) := by decide +kernel
theorem dX7_shifted_30 : decode cX7_shifted 30 = .ok (.istore 4, 2) := by decide +kernel
theorem dX7_shifted_32 : decode cX7_shifted 32 = .ok (.iload_n 2, 1) := by decide +kernel
theorem dX7_shifted_33 : decode cX7_shifted 33 = .ok (.iconst 1, 1) := by decide +kernel
theorem dX7_shifted_34 : decode cX7_shifted 34 = .ok (.if_icmp .ne 15, 3) := by decide +kernel
theorem dX7_shifted_37 : decode cX7_shifted 37 = .ok (.iload_n 3, 1) := by decide +kernel
theorem dX7_shifted_38 : decode cX7_shifted 38 = .ok (.bipush (-6), 2) := by decide +kernel
theorem dX7_shifted_40 : decode cX7_shifted 40 = .ok (.if_icmp .ne 7, 3) := by decide +kernel
theorem dX7_shifted_43 : decode cX7_shifted 43 = .ok (.iload_n 1, 1) := by decide +kernel
theorem dX7_shifted_44 : decode cX7_shifted 44 = .ok (.goto 4, 3) := by decide +kernel
theorem dX7_shifted_47 : decode cX7_shifted 47 = .ok (.iload_n 3, 1) := by decide +kernel
theorem dX7_shifted_48 : decode cX7_shifted 48 = .ok (.ireturn, 1) := by decide +kernel
theorem dX7_shifted_49 : decode cX7_shifted 49 = .ok (.iload_n 2, 1) := by decide +kernel
theorem dX7_shifted_50 : decode cX7_shifted 50 = .ok (.iconst 3, 1) := by decide +kernel
theorem dX7_shifted_51 : decode cX7_shifted 51 = .ok (.if_icmp .ne 22, 3) := by decide +kernel
theorem dX7_shifted_54 : decode cX7_shifted 54 = .ok (.iload_n 3, 1) := by decide +kernel
theorem dX7_shifted_55 : decode cX7_shifted 55 = .ok (.bipush (-6), 2) := by decide +kernel
theorem dX7_shifted_57 : decode cX7_shifted 57 = .ok (.if_icmp .eq 16, 3) := by decide +kernel
theorem dX7_shifted_60 : decode cX7_shifted 60 = .ok (.iload_n 3, 1) := by decide +kernel
theorem dX7_shifted_61 : decode cX7_shifted 61 = .ok (.invokestatic 94, 3) := by decide +kernel
theorem dX7_shifted_64 : decode cX7_shifted 64 = .ok (.iload_n 1, 1) := by decide +kernel
theorem dX7_shifted_65 : decode cX7_shifted 65 = .ok (.invokestatic 94, 3) := by decide +kernel
theorem dX7_shifted_68 : decode cX7_shifted 68 = .ok (.if_icmp .ne 5, 3) := by decide +kernel
theorem dX7_shifted_71 : decode cX7_shifted 71 = .ok (.iload_n 3, 1) := by decide +kernel
theorem dX7_shifted_72 : decode cX7_shifted 72 = .ok (.ireturn, 1) := by decide +kernel
theorem dX7_shifted_73 : decode cX7_shifted 73 = .ok (.iload 4, 2) := by decide +kernel
theorem dX7_shifted_75 : decode cX7_shifted 75 = .ok (.bipush (-6), 2) := by decide +kernel
theorem dX7_shifted_77 : decode cX7_shifted 77 = .ok (.if_icmp .ne 7, 3) := by decide +kernel
theorem dX7_shifted_80 : decode cX7_shifted 80 = .ok (.iload_n 1, 1) := by decide +kernel
theorem dX7_shifted_81 : decode cX7_shifted 81 = .ok (.goto 5, 3) := by decide +kernel
theorem dX7_shifted_84 : decode cX7_shifted 84 = .ok (.iload 4, 2) := by decide +kernel
theorem dX7_shifted_86 : decode cX7_shifted 86 = .ok (.ireturn, 1) := by decide +kernel
theorem dX7_shift_0 : decode cX7_shift 0 = .ok (.iload_n 1, 1) := by decide +kernel
theorem dX7_shift_1 : decode cX7_shift 1 = .ok (.invokestatic 91, 3) := by decide +kernel
theorem dX7_shift_4 : decode cX7_shift 4 = .ok (.ifCond .eq 24, 3) := by decide +kernel
theorem dX7_shift_7 : decode cX7_shift 7 = .ok (.iload_n 2, 1) := by decide +kernel
theorem dX7_shift_8 : decode cX7_shift 8 = .ok (.i2l, 1) := by decide +kernel
theorem dX7_shift_9 : decode cX7_shift 9 = .ok (.lconst 0, 1) := by decide +kernel
theorem dX7_shift_10 : decode cX7_shift 10 = .ok (.ldc2_w 103, 3) := by decide +kernel
theorem dX7_shift_13 : decode cX7_shift 13 = .ok (.invokestatic 47, 3) := by decide +kernel
theorem dX7_shift_16 : decode cX7_shift 16 = .ok (.ifCond .eq 12, 3) := by decide +kernel
theorem dX7_shift_19 : decode cX7_shift 19 = .ok (.aload_n 0, 1) := by decide +kernel
theorem dX7_shift_20 : decode cX7_shift 20 = .ok (.iload_n 1, 1) := by decide +kernel
theorem dX7_shift_21 : decode cX7_shift 21 = .ok (.iload_n 2, 1) := by decide +kernel
theorem dX7_shift_22 : decode cX7_shift 22 = .ok (.invokevirtual 105, 3) := by decide +kernel
theorem dX7_shift_25 : decode cX7_shift 25 = .ok (.goto 5, 3) := by decide +kernel
theorem dX7_shift_28 : decode cX7_shift 28 = .ok (.bipush (-2), 2) := by decide +kernel
theorem dX7_shift_30 : decode cX7_shift 30 = .ok (.ireturn, 1) := by decide +kernel
theorem dX7_isSetting_0 : decode cX7_isSetting 0 = .ok (.iload_n 1, 1) := by decide +kernel
theorem dX7_isSetting_1 : decode cX7_isSetting 1 = .ok (.tableswitch 57 0 2 #[27, 37, 47], 27) := by decide +kernel
theorem dX7_isSetting_28 : decode cX7_isSetting 28 = .ok (.iload_n 2, 1) := by decide +kernel
theorem dX7_isSetting_29 : decode cX7_isSetting 29 = .ok (.i2l, 1) := by decide +kernel
theorem dX7_isSetting_30 : decode cX7_isSetting 30 = .ok (.lconst 1, 1) := by decide +kernel
theorem dX7_isSetting_31 : decode cX7_isSetting 31 = .ok (.ldc2_w 109, 3) := by decide +kernel
theorem dX7_isSetting_34 : decode cX7_isSetting 34 = .ok (.invokestatic 47, 3) := by decide +kernel
theorem dX7_isSetting_37 : decode cX7_isSetting 37 = .ok (.ireturn, 1) := by decide +kernel
theorem dX7_isSetting_38 : decode cX7_isSetting 38 = .ok (.iload_n 2, 1) := by decide +kernel
theorem dX7_isSetting_39 : decode cX7_isSetting 39 = .ok (.i2l, 1) := by decide +kernel
theorem dX7_isSetting_40 : decode cX7_isSetting 40 = .ok (.lconst 0, 1) := by decide +kernel
theorem dX7_isSetting_41 : decode cX7_isSetting 41 = .ok (.ldc2_w 111, 3) := by decide +kernel
theorem dX7_isSetting_44 : decode cX7_isSetting 44 = .ok (.invokestatic 47, 3) := by decide +kernel
theorem dX7_isSetting_47 : decode cX7_isSetting 47 = .ok (.ireturn, 1) := by decide +kernel
theorem dX7_isSetting_48 : decode cX7_isSetting 48 = .ok (.iload_n 2, 1) := by decide +kernel
theorem dX7_isSetting_49 : decode cX7_isSetting 49 = .ok (.i2l, 1) := by decide +kernel
theorem dX7_isSetting_50 : decode cX7_isSetting 50 = .ok (.lconst 0, 1) := by decide +kernel
theorem dX7_isSetting_51 : decode cX7_isSetting 51 = .ok (.ldc2_w 113, 3) := by decide +kernel
theorem dX7_isSetting_54 : decode cX7_isSetting 54 = .ok (.invokestatic 47, 3) := by decide +kernel
theorem dX7_isSetting_57 : decode cX7_isSetting 57 = .ok (.ireturn, 1) := by decide +kernel
theorem dX7_isSetting_58 : decode cX7_isSetting 58 = .ok (.iload_n 1, 1) := by decide +kernel
theorem dX7_isSetting_59 : decode cX7_isSetting 59 = .ok (.iconst 3, 1) := by decide +kernel
theorem dX7_isSetting_60 : decode cX7_isSetting 60 = .ok (.if_icmp .ne 19, 3) := by decide +kernel
theorem dX7_isSetting_63 : decode cX7_isSetting 63 = .ok (.iload_n 2, 1) := by decide +kernel
theorem dX7_isSetting_64 : decode cX7_isSetting 64 = .ok (.i2l, 1) := by decide +kernel
theorem dX7_isSetting_65 : decode cX7_isSetting 65 = .ok (.lconst 0, 1) := by decide +kernel
theorem dX7_isSetting_66 : decode cX7_isSetting 66 = .ok (.ldc2_w 115, 3) := by decide +kernel
theorem dX7_isSetting_69 : decode cX7_isSetting 69 = .ok (.invokestatic 47, 3) := by decide +kernel
theorem dX7_isSetting_72 : decode cX7_isSetting 72 = .ok (.ifCond .eq 7, 3) := by decide +kernel
theorem dX7_isSetting_75 : decode cX7_isSetting 75 = .ok (.iconst 1, 1) := by decide +kernel
theorem dX7_isSetting_76 : decode cX7_isSetting 76 = .ok (.goto 4, 3) := by decide +kernel
theorem dX7_isSetting_79 : decode cX7_isSetting 79 = .ok (.iconst 0, 1) := by decide +kernel
theorem dX7_isSetting_80 : decode cX7_isSetting 80 = .ok (.ireturn, 1) := by decide +kernel
theorem dX7_set_0 : decode cX7_set 0 = .ok (.aload_n 0, 1) := by decide +kernel
theorem dX7_set_1 : decode cX7_set 1 = .ok (.iload_n 1, 1) := by decide +kernel
theorem dX7_set_2 : decode cX7_set 2 = .ok (.iload_n 2, 1) := by decide +kernel
theorem dX7_set_3 : decode cX7_set 3 = .ok (.invokevirtual 117, 3) := by decide +kernel
theorem dX7_set_6 : decode cX7_set 6 = .ok (.ifCond .ne 6, 3) := by decide +kernel
theorem dX7_set_9 : decode cX7_set 9 = .ok (.bipush (-2), 2) := by decide +kernel
theorem dX7_set_11 : decode cX7_set 11 = .ok (.ireturn, 1) := by decide +kernel
theorem dX7_set_12 : decode cX7_set 12 = .ok (.aload_n 0, 1) := by decide +kernel
theorem dX7_set_13 : decode cX7_set 13 = .ok (.invokevirtual 70, 3) := by decide +kernel
theorem dX7_set_16 : decode cX7_set 16 = .ok (.aload_n 0, 1) := by decide +kernel
theorem dX7_set_17 : decode cX7_set 17 = .ok (.bipush 9, 2) := by decide +kernel
theorem dX7_set_19 : decode cX7_set 19 = .ok (.iload_n 1, 1) := by decide +kernel
theorem dX7_set_20 : decode cX7_set 20 = .ok (.iadd, 1) := by decide +kernel
theorem dX7_set_21 : decode cX7_set 21 = .ok (.invokevirtual 43, 3) := by decide +kernel
theorem dX7_set_24 : decode cX7_set 24 = .ok (.istore_n 3, 1) := by decide +kernel
theorem dX7_set_25 : decode cX7_set 25 = .ok (.aload_n 0, 1) := by decide +kernel
theorem dX7_set_26 : decode cX7_set 26 = .ok (.getfield 7, 3) := by decide +kernel
theorem dX7_set_29 : decode cX7_set 29 = .ok (.bipush 9, 2) := by decide +kernel
theorem dX7_set_31 : decode cX7_set 31 = .ok (.iload_n 1, 1) := by decide +kernel
theorem dX7_set_32 : decode cX7_set 32 = .ok (.iadd, 1) := by decide +kernel
theorem dX7_set_33 : decode cX7_set 33 = .ok (.iload_n 2, 1) := by decide +kernel
theorem dX7_set_34 : decode cX7_set 34 = .ok (.i2l, 1) := by decide +kernel
theorem dX7_set_35 : decode cX7_set 35 = .ok (.lastore, 1) := by decide +kernel
theorem dX7_set_36 : decode cX7_set 36 = .ok (.iload_n 3, 1) := by decide +kernel
theorem dX7_set_37 : decode cX7_set 37 = .ok (.ireturn, 1) := by decide +kernel
theorem dX7_holiday_0 : decode cX7_holiday 0 = .ok (.iload_n 1, 1) := by decide +kernel
theorem dX7_holiday_1 : decode cX7_holiday 1 = .ok (.invokestatic 91, 3) := by decide +kernel
theorem dX7_holiday_4 : decode cX7_holiday 4 = .ok (.ifCond .eq 13, 3) := by decide +kernel
theorem dX7_holiday_7 : decode cX7_holiday 7 = .ok (.iload_n 2, 1) := by decide +kernel
theorem dX7_holiday_8 : decode cX7_holiday 8 = .ok (.i2l, 1) := by decide +kernel
theorem dX7_holiday_9 : decode cX7_holiday 9 = .ok (.lconst 0, 1) := by decide +kernel
theorem dX7_holiday_10 : decode cX7_holiday 10 = .ok (.lconst 1, 1) := by decide +kernel
theorem dX7_holiday_11 : decode cX7_holiday 11 = .ok (.invokestatic 47, 3) := by decide +kernel
theorem dX7_holiday_14 : decode cX7_holiday 14 = .ok (.ifCond .ne 6, 3) := by decide +kernel
theorem dX7_holiday_17 : decode cX7_holiday 17 = .ok (.bipush (-2), 2) := by decide +kernel
theorem dX7_holiday_19 : decode cX7_holiday 19 = .ok (.ireturn, 1) := by decide +kernel
theorem dX7_holiday_20 : decode cX7_holiday 20 = .ok (.aload_n 0, 1) := by decide +kernel
theorem dX7_holiday_21 : decode cX7_holiday 21 = .ok (.iload_n 1, 1) := by decide +kernel
theorem dX7_holiday_22 : decode cX7_holiday 22 = .ok (.invokevirtual 84, 3) := by decide +kernel
theorem dX7_holiday_25 : decode cX7_holiday 25 = .ok (.istore_n 3, 1) := by decide +kernel
theorem dX7_holiday_26 : decode cX7_holiday 26 = .ok (.iload_n 2, 1) := by decide +kernel
theorem dX7_holiday_27 : decode cX7_holiday 27 = .ok (.iconst 1, 1) := by decide +kernel
theorem dX7_holiday_28 : decode cX7_holiday 28 = .ok (.if_icmp .ne 23, 3) := by decide +kernel
theorem dX7_holiday_31 : decode cX7_holiday 31 = .ok (.iload_n 3, 1) := by decide +kernel
theorem dX7_holiday_32 : decode cX7_holiday 32 = .ok (.ifCond .ne 19, 3) := by decide +kernel
theorem dX7_holiday_35 : decode cX7_holiday 35 = .ok (.aload_n 0, 1) := by decide +kernel
theorem dX7_holiday_36 : decode cX7_holiday 36 = .ok (.getfield 7, 3) := by decide +kernel
theorem dX7_holiday_39 : decode cX7_holiday 39 = .ok (.iconst 3, 1) := by decide +kernel
theorem dX7_holiday_40 : decode cX7_holiday 40 = .ok (.laload, 1) := by decide +kernel
theorem dX7_holiday_41 : decode cX7_holiday 41 = .ok (.ldc2_w 121, 3) := by decide +kernel
theorem dX7_holiday_44 : decode cX7_holiday 44 = .ok (.lcmp, 1) := by decide +kernel
theorem dX7_holiday_45 : decode cX7_holiday 45 = .ok (.ifCond .ne 6, 3) := by decide +kernel
theorem dX7_holiday_48 : decode cX7_holiday 48 = .ok (.bipush (-4), 2) := by decide +kernel
theorem dX7_holiday_50 : decode cX7_holiday 50 = .ok (.ireturn, 1) := by decide +kernel
theorem dX7_holiday_51 : decode cX7_holiday 51 = .ok (.aload_n 0, 1) := by decide +kernel
theorem dX7_holiday_52 : decode cX7_holiday 52 = .ok (.invokevirtual 70, 3) := by decide +kernel
theorem dX7_holiday_55 : decode cX7_holiday 55 = .ok (.iload_n 2, 1) := by decide +kernel
theorem dX7_holiday_56 : decode cX7_holiday 56 = .ok (.iconst 1, 1) := by decide +kernel
theorem dX7_holiday_57 : decode cX7_holiday 57 = .ok (.if_icmp .ne 35, 3) := by decide +kernel
theorem dX7_holiday_60 : decode cX7_holiday 60 = .ok (.iload_n 3, 1) := by decide +kernel
theorem dX7_holiday_61 : decode cX7_holiday 61 = .ok (.ifCond .ne 31, 3) := by decide +kernel
theorem dX7_holiday_64 : decode cX7_holiday 64 = .ok (.aload_n 0, 1) := by decide +kernel
theorem dX7_holiday_65 : decode cX7_holiday 65 = .ok (.getfield 7, 3) := by decide +kernel
theorem dX7_holiday_68 : decode cX7_holiday 68 = .ok (.bipush 13, 2) := by decide +kernel
theorem dX7_holiday_70 : decode cX7_holiday 70 = .ok (.aload_n 0, 1) := by decide +kernel
theorem dX7_holiday_71 : decode cX7_holiday 71 = .ok (.iconst 3, 1) := by decide +kernel
theorem dX7_holiday_72 : decode cX7_holiday 72 = .ok (.invokevirtual 43, 3) := by decide +kernel
theorem dX7_holiday_75 : decode cX7_holiday 75 = .ok (.iadd, 1) := by decide +kernel
theorem dX7_holiday_76 : decode cX7_holiday 76 = .ok (.iload_n 1, 1) := by decide +kernel
theorem dX7_holiday_77 : decode cX7_holiday 77 = .ok (.i2l, 1) := by decide +kernel
theorem dX7_holiday_78 : decode cX7_holiday 78 = .ok (.lastore, 1) := by decide +kernel
theorem dX7_holiday_79 : decode cX7_holiday 79 = .ok (.aload_n 0, 1) := by decide +kernel
theorem dX7_holiday_80 : decode cX7_holiday 80 = .ok (.getfield 7, 3) := by decide +kernel
theorem dX7_holiday_83 : decode cX7_holiday 83 = .ok (.iconst 3, 1) := by decide +kernel
theorem dX7_holiday_84 : decode cX7_holiday 84 = .ok (.dup2, 1) := by decide +kernel
theorem dX7_holiday_85 : decode cX7_holiday 85 = .ok (.laload, 1) := by decide +kernel
theorem dX7_holiday_86 : decode cX7_holiday 86 = .ok (.lconst 1, 1) := by decide +kernel
theorem dX7_holiday_87 : decode cX7_holiday 87 = .ok (.ladd, 1) := by decide +kernel
theorem dX7_holiday_88 : decode cX7_holiday 88 = .ok (.lastore, 1) := by decide +kernel
theorem dX7_holiday_89 : decode cX7_holiday 89 = .ok (.goto 95, 3) := by decide +kernel
theorem dX7_holiday_92 : decode cX7_holiday 92 = .ok (.iload_n 2, 1) := by decide +kernel
theorem dX7_holiday_93 : decode cX7_holiday 93 = .ok (.ifCond .ne 91, 3) := by decide +kernel
theorem dX7_holiday_96 : decode cX7_holiday 96 = .ok (.iload_n 3, 1) := by decide +kernel
theorem dX7_holiday_97 : decode cX7_holiday 97 = .ok (.ifCond .eq 87, 3) := by decide +kernel
theorem dX7_holiday_100 : decode cX7_holiday 100 = .ok (.aload_n 0, 1) := by decide +kernel
theorem dX7_holiday_101 : decode cX7_holiday 101 = .ok (.getfield 7, 3) := by decide +kernel
theorem dX7_holiday_104 : decode cX7_holiday 104 = .ok (.iconst 3, 1) := by decide +kernel
theorem dX7_holiday_105 : decode cX7_holiday 105 = .ok (.dup2, 1) := by decide +kernel
theorem dX7_holiday_106 : decode cX7_holiday 106 = .ok (.laload, 1) := by decide +kernel
theorem dX7_holiday_107 : decode cX7_holiday 107 = .ok (.lconst 1, 1) := by decide +kernel
theorem dX7_holiday_108 : decode cX7_holiday 108 = .ok (.lsub, 1) := by decide +kernel
theorem dX7_holiday_109 : decode cX7_holiday 109 = .ok (.lastore, 1) := by decide +kernel
theorem dX7_holiday_110 : decode cX7_holiday 110 = .ok (.iconst 0, 1) := by decide +kernel
theorem dX7_holiday_111 : decode cX7_holiday 111 = .ok (.istore 4, 2) := by decide +kernel
theorem dX7_holiday_113 : decode cX7_holiday 113 = .ok (.iload 4, 2) := by decide +kernel
theorem dX7_holiday_115 : decode cX7_holiday 115 = .ok (.i2l, 1) := by decide +kernel
theorem dX7_holiday_116 : decode cX7_holiday 116 = .ok (.aload_n 0, 1) := by decide +kernel
theorem dX7_holiday_117 : decode cX7_holiday 117 = .ok (.getfield 7, 3) := by decide +kernel
theorem dX7_holiday_120 : decode cX7_holiday 120 = .ok (.iconst 3, 1) := by decide +kernel
theorem dX7_holiday_121 : decode cX7_holiday 121 = .ok (.laload, 1) := by decide +kernel
theorem dX7_holiday_122 : decode cX7_holiday 122 = .ok (.lcmp, 1) := by decide +kernel
theorem dX7_holiday_123 : decode cX7_holiday 123 = .ok (.ifCond .ge 61, 3) := by decide +kernel
theorem dX7_holiday_126 : decode cX7_holiday 126 = .ok (.aload_n 0, 1) := by decide +kernel
theorem dX7_holiday_127 : decode cX7_holiday 127 = .ok (.getfield 7, 3) := by decide +kernel
theorem dX7_holiday_130 : decode cX7_holiday 130 = .ok (.bipush 13, 2) := by decide +kernel
theorem dX7_holiday_132 : decode cX7_holiday 132 = .ok (.iload 4, 2) := by decide +kernel
theorem dX7_holiday_134 : decode cX7_holiday 134 = .ok (.iadd, 1) := by decide +kernel
theorem dX7_holiday_135 : decode cX7_holiday 135 = .ok (.aload_n 0, 1) := by decide +kernel
theorem dX7_holiday_136 : decode cX7_holiday 136 = .ok (.getfield 7, 3) := by decide +kernel
theorem dX7_holiday_139 : decode cX7_holiday 139 = .ok (.bipush 13, 2) := by decide +kernel
theorem dX7_holiday_141 : decode cX7_holiday 141 = .ok (.iload 4, 2) := by decide +kernel
theorem dX7_holiday_143 : decode cX7_holiday 143 = .ok (.iadd, 1) := by decide +kernel
theorem dX7_holiday_144 : decode cX7_holiday 144 = .ok (.laload, 1) := by decide +kernel
theorem dX7_holiday_145 : decode cX7_holiday 145 = .ok (.iload_n 1, 1) := by decide +kernel
theorem dX7_holiday_146 : decode cX7_holiday 146 = .ok (.i2l, 1) := by decide +kernel
theorem dX7_holiday_147 : decode cX7_holiday 147 = .ok (.lcmp, 1) := by decide +kernel
theorem dX7_holiday_148 : decode cX7_holiday 148 = .ok (.ifCond .ne 19, 3) := by decide +kernel
theorem dX7_holiday_151 : decode cX7_holiday 151 = .ok (.aload_n 0, 1) := by decide +kernel
theorem dX7_holiday_152 : decode cX7_holiday 152 = .ok (.getfield 7, 3) := by decide +kernel
theorem dX7_holiday_155 : decode cX7_holiday 155 = .ok (.bipush 13, 2) := by decide +kernel
theorem dX7_holiday_157 : decode cX7_holiday 157 = .ok (.aload_n 0, 1) := by decide +kernel
theorem dX7_holiday_158 : decode cX7_holiday 158 = .ok (.iconst 3, 1) := by decide +kernel
theorem dX7_holiday_159 : decode cX7_holiday 159 = .ok (.invokevirtual 43, 3) := by decide +kernel
theorem dX7_holiday_162 : decode cX7_holiday 162 = .ok (.iadd, 1) := by decide +kernel
theorem dX7_holiday_163 : decode cX7_holiday 163 = .ok (.laload, 1) := by decide +kernel
theorem dX7_holiday_164 : decode cX7_holiday 164 = .ok (.goto 13, 3) := by decide +kernel
theorem dX7_holiday_167 : decode cX7_holiday 167 = .ok (.aload_n 0, 1) := by decide +kernel
theorem dX7_holiday_168 : decode cX7_holiday 168 = .ok (.getfield 7, 3) := by decide +kernel
theorem dX7_holiday_171 : decode cX7_holiday 171 = .ok (.bipush 13, 2) := by decide +kernel
theorem dX7_holiday_173 : decode cX7_holiday 173 = .ok (.iload 4, 2) := by decide +kernel
theorem dX7_holiday_175 : decode cX7_holiday 175 = .ok (.iadd, 1) := by decide +kernel
theorem dX7_holiday_176 : decode cX7_holiday 176 = .ok (.laload, 1) := by decide +kernel
theorem dX7_holiday_177 : decode cX7_holiday 177 = .ok (.lastore, 1) := by decide +kernel
theorem dX7_holiday_178 : decode cX7_holiday 178 = .ok (.iinc 4 1, 3) := by decide +kernel
theorem dX7_holiday_181 : decode cX7_holiday 181 = .ok (.goto (-68), 3) := by decide +kernel
theorem dX7_holiday_184 : decode cX7_holiday 184 = .ok (.aload_n 0, 1) := by decide +kernel
theorem dX7_holiday_185 : decode cX7_holiday 185 = .ok (.iconst 3, 1) := by decide +kernel
theorem dX7_holiday_186 : decode cX7_holiday 186 = .ok (.invokevirtual 43, 3) := by decide +kernel
theorem dX7_holiday_189 : decode cX7_holiday 189 = .ok (.ireturn, 1) := by decide +kernel
theorem dX7_account_0 : decode cX7_account 0 = .ok (.iload_n 1, 1) := by decide +kernel
theorem dX7_account_1 : decode cX7_account 1 = .ok (.i2l, 1) := by decide +kernel
theorem dX7_account_2 : decode cX7_account 2 = .ok (.lconst 0, 1) := by decide +kernel
theorem dX7_account_3 : decode cX7_account 3 = .ok (.ldc2_w 123, 3) := by decide +kernel
theorem dX7_account_6 : decode cX7_account 6 = .ok (.invokestatic 47, 3) := by decide +kernel
theorem dX7_account_9 : decode cX7_account 9 = .ok (.ifCond .eq 15, 3) := by decide +kernel
theorem dX7_account_12 : decode cX7_account 12 = .ok (.iload_n 2, 1) := by decide +kernel
theorem dX7_account_13 : decode cX7_account 13 = .ok (.i2l, 1) := by decide +kernel
theorem dX7_account_14 : decode cX7_account 14 = .ok (.lconst 0, 1) := by decide +kernel
theorem dX7_account_15 : decode cX7_account 15 = .ok (.ldc2_w 123, 3) := by decide +kernel
theorem dX7_account_18 : decode cX7_account 18 = .ok (.invokestatic 47, 3) := by decide +kernel
theorem dX7_account_21 : decode cX7_account 21 = .ok (.ifCond .ne 6, 3) := by decide +kernel
theorem dX7_account_24 : decode cX7_account 24 = .ok (.bipush (-2), 2) := by decide +kernel
theorem dX7_account_26 : decode cX7_account 26 = .ok (.ireturn, 1) := by decide +kernel
theorem dX7_account_27 : decode cX7_account 27 = .ok (.aload_n 0, 1) := by decide +kernel
theorem dX7_account_28 : decode cX7_account 28 = .ok (.getfield 7, 3) := by decide +kernel
theorem dX7_account_31 : decode cX7_account 31 = .ok (.iconst 1, 1) := by decide +kernel
theorem dX7_account_32 : decode cX7_account 32 = .ok (.laload, 1) := by decide +kernel
theorem dX7_account_33 : decode cX7_account 33 = .ok (.ldc2_w 125, 3) := by decide +kernel
theorem dX7_account_36 : decode cX7_account 36 = .ok (.lcmp, 1) := by decide +kernel
theorem dX7_account_37 : decode cX7_account 37 = .ok (.ifCond .ne 6, 3) := by decide +kernel
theorem dX7_account_40 : decode cX7_account 40 = .ok (.bipush (-4), 2) := by decide +kernel
theorem dX7_account_42 : decode cX7_account 42 = .ok (.ireturn, 1) := by decide +kernel
theorem dX7_account_43 : decode cX7_account 43 = .ok (.aload_n 0, 1) := by decide +kernel
theorem dX7_account_44 : decode cX7_account 44 = .ok (.invokevirtual 70, 3) := by decide +kernel
theorem dX7_account_47 : decode cX7_account 47 = .ok (.aload_n 0, 1) := by decide +kernel
theorem dX7_account_48 : decode cX7_account 48 = .ok (.iconst 1, 1) := by decide +kernel
theorem dX7_account_49 : decode cX7_account 49 = .ok (.invokevirtual 43, 3) := by decide +kernel
theorem dX7_account_52 : decode cX7_account 52 = .ok (.istore_n 3, 1) := by decide +kernel
theorem dX7_account_53 : decode cX7_account 53 = .ok (.aload_n 0, 1) := by decide +kernel
theorem dX7_account_54 : decode cX7_account 54 = .ok (.getfield 7, 3) := by decide +kernel
theorem dX7_account_57 : decode cX7_account 57 = .ok (.bipush 33, 2) := by decide +kernel
theorem dX7_account_59 : decode cX7_account 59 = .ok (.bipush 11, 2) := by decide +kernel
theorem dX7_account_61 : decode cX7_account 61 = .ok (.iload_n 3, 1) := by decide +kernel
theorem dX7_account_62 : decode cX7_account 62 = .ok (.imul, 1) := by decide +kernel
theorem dX7_account_63 : decode cX7_account 63 = .ok (.iadd, 1) := by decide +kernel
theorem dX7_account_64 : decode cX7_account 64 = .ok (.iconst 0, 1) := by decide +kernel
theorem dX7_account_65 : decode cX7_account 65 = .ok (.iadd, 1) := by decide +kernel
theorem dX7_account_66 : decode cX7_account 66 = .ok (.iload_n 1, 1) := by decide +kernel
theorem dX7_account_67 : decode cX7_account 67 = .ok (.i2l, 1) := by decide +kernel
theorem dX7_account_68 : decode cX7_account 68 = .ok (.lastore, 1) := by decide +kernel
theorem dX7_account_69 : decode cX7_account 69 = .ok (.aload_n 0, 1) := by decide +kernel
theorem dX7_account_70 : decode cX7_account 70 = .ok (.getfield 7, 3) := by decide +kernel
theorem dX7_account_73 : decode cX7_account 73 = .ok (.bipush 33, 2) := by decide +kernel
theorem dX7_account_75 : decode cX7_account 75 = .ok (.bipush 11, 2) := by decide +kernel
theorem dX7_account_77 : decode cX7_account 77 = .ok (.iload_n 3, 1) := by decide +kernel
theorem dX7_account_78 : decode cX7_account 78 = .ok (.imul, 1) := by decide +kernel
theorem dX7_account_79 : decode cX7_account 79 = .ok (.iadd, 1) := by decide +kernel
theorem dX7_account_80 : decode cX7_account 80 = .ok (.iconst 1, 1) := by decide +kernel
theorem dX7_account_81 : decode cX7_account 81 = .ok (.iadd, 1) := by decide +kernel
theorem dX7_account_82 : decode cX7_account 82 = .ok (.iload_n 2, 1) := by decide +kernel
theorem dX7_account_83 : decode cX7_account 83 = .ok (.i2l, 1) := by decide +kernel
theorem dX7_account_84 : decode cX7_account 84 = .ok (.lastore, 1) := by decide +kernel
theorem dX7_account_85 : decode cX7_account 85 = .ok (.aload_n 0, 1) := by decide +kernel
theorem dX7_account_86 : decode cX7_account 86 = .ok (.getfield 7, 3) := by decide +kernel
theorem dX7_account_89 : decode cX7_account 89 = .ok (.bipush 33, 2) := by decide +kernel
theorem dX7_account_91 : decode cX7_account 91 = .ok (.bipush 11, 2) := by decide +kernel
theorem dX7_account_93 : decode cX7_account 93 = .ok (.iload_n 3, 1) := by decide +kernel
theorem dX7_account_94 : decode cX7_account 94 = .ok (.imul, 1) := by decide +kernel
theorem dX7_account_95 : decode cX7_account 95 = .ok (.iadd, 1) := by decide +kernel
theorem dX7_account_96 : decode cX7_account 96 = .ok (.iconst 2, 1) := by decide +kernel
theorem dX7_account_97 : decode cX7_account 97 = .ok (.iadd, 1) := by decide +kernel
theorem dX7_account_98 : decode cX7_account 98 = .ok (.ldc2_w 127, 3) := by decide +kernel
theorem dX7_account_101 : decode cX7_account 101 = .ok (.lastore, 1) := by decide +kernel
theorem dX7_account_102 : decode cX7_account 102 = .ok (.iconst 0, 1) := by decide +kernel
theorem dX7_account_103 : decode cX7_account 103 = .ok (.istore 4, 2) := by decide +kernel
theorem dX7_account_105 : decode cX7_account 105 = .ok (.iload 4, 2) := by decide +kernel
theorem dX7_account_107 : decode cX7_account 107 = .ok (.bipush 8, 2) := by decide +kernel
theorem dX7_account_109 : decode cX7_account 109 = .ok (.if_icmp .ge 27, 3) := by decide +kernel
theorem dX7_account_112 : decode cX7_account 112 = .ok (.aload_n 0, 1) := by decide +kernel
theorem dX7_account_113 : decode cX7_account 113 = .ok (.getfield 7, 3) := by decide +kernel
theorem dX7_account_116 : decode cX7_account 116 = .ok (.bipush 33, 2) := by decide +kernel
theorem dX7_account_118 : decode cX7_account 118 = .ok (.bipush 11, 2) := by decide +kernel
theorem dX7_account_120 : decode cX7_account 120 = .ok (.iload_n 3, 1) := by decide +kernel
theorem dX7_account_121 : decode cX7_account 121 = .ok (.imul, 1) := by decide +kernel
theorem dX7_account_122 : decode cX7_account 122 = .ok (.iadd, 1) := by decide +kernel
theorem dX7_account_123 : decode cX7_account 123 = .ok (.iconst 3, 1) := by decide +kernel
theorem dX7_account_124 : decode cX7_account 124 = .ok (.iadd, 1) := by decide +kernel
theorem dX7_account_125 : decode cX7_account 125 = .ok (.iload 4, 2) := by decide +kernel
theorem dX7_account_127 : decode cX7_account 127 = .ok (.iadd, 1) := by decide +kernel
theorem dX7_account_128 : decode cX7_account 128 = .ok (.lconst 0, 1) := by decide +kernel
theorem dX7_account_129 : decode cX7_account 129 = .ok (.lastore, 1) := by decide +kernel
theorem dX7_account_130 : decode cX7_account 130 = .ok (.iinc 4 1, 3) := by decide +kernel
theorem dX7_account_133 : decode cX7_account 133 = .ok (.goto (-28), 3) := by decide +kernel
theorem dX7_account_136 : decode cX7_account 136 = .ok (.aload_n 0, 1) := by decide +kernel
theorem dX7_account_137 : decode cX7_account 137 = .ok (.getfield 13, 3) := by decide +kernel
theorem dX7_account_140 : decode cX7_account 140 = .ok (.iload_n 3, 1) := by decide +kernel
theorem dX7_account_141 : decode cX7_account 141 = .ok (.dconst 0, 1) := by decide +kernel
theorem dX7_account_142 : decode cX7_account 142 = .ok (.dastore, 1) := by decide +kernel
theorem dX7_account_143 : decode cX7_account 143 = .ok (.aload_n 0, 1) := by decide +kernel
theorem dX7_account_144 : decode cX7_account 144 = .ok (.getfield 7, 3) := by decide +kernel
theorem dX7_account_147 : decode cX7_account 147 = .ok (.iconst 1, 1) := by decide +kernel
theorem dX7_account_148 : decode cX7_account 148 = .ok (.dup2, 1) := by decide +kernel
theorem dX7_account_149 : decode cX7_account 149 = .ok (.laload, 1) := by decide +kernel
theorem dX7_account_150 : decode cX7_account 150 = .ok (.lconst 1, 1) := by decide +kernel
theorem dX7_account_151 : decode cX7_account 151 = .ok (.ladd, 1) := by decide +kernel
theorem dX7_account_152 : decode cX7_account 152 = .ok (.lastore, 1) := by decide +kernel
theorem dX7_account_153 : decode cX7_account 153 = .ok (.iload_n 3, 1) := by decide +kernel
theorem dX7_account_154 : decode cX7_account 154 = .ok (.ireturn, 1) := by decide +kernel
theorem dX7_feed_0 : decode cX7_feed 0 = .ok (.aload_n 0, 1) := by decide +kernel
theorem dX7_feed_1 : decode cX7_feed 1 = .ok (.iload_n 1, 1) := by decide +kernel
theorem dX7_feed_2 : decode cX7_feed 2 = .ok (.invokevirtual 129, 3) := by decide +kernel
theorem dX7_feed_5 : decode cX7_feed 5 = .ok (.ifCond .eq 22, 3) := by decide +kernel
theorem dX7_feed_8 : decode cX7_feed 8 = .ok (.iload_n 2, 1) := by decide +kernel
theorem dX7_feed_9 : decode cX7_feed 9 = .ok (.bipush (-6), 2) := by decide +kernel
theorem dX7_feed_11 : decode cX7_feed 11 = .ok (.if_icmp .eq 18, 3) := by decide +kernel
theorem dX7_feed_14 : decode cX7_feed 14 = .ok (.aload_n 0, 1) := by decide +kernel
theorem dX7_feed_15 : decode cX7_feed 15 = .ok (.iload_n 2, 1) := by decide +kernel
theorem dX7_feed_16 : decode cX7_feed 16 = .ok (.invokevirtual 129, 3) := by decide +kernel
theorem dX7_feed_19 : decode cX7_feed 19 = .ok (.ifCond .eq 8, 3) := by decide +kernel
theorem dX7_feed_22 : decode cX7_feed 22 = .ok (.iload_n 2, 1) := by decide +kernel
theorem dX7_feed_23 : decode cX7_feed 23 = .ok (.iload_n 1, 1) := by decide +kernel
theorem dX7_feed_24 : decode cX7_feed 24 = .ok (.if_icmp .ne 5, 3) := by decide +kernel
theorem dX7_feed_27 : decode cX7_feed 27 = .ok (.iconst (-1), 1) := by decide +kernel
theorem dX7_feed_28 : decode cX7_feed 28 = .ok (.ireturn, 1) := by decide +kernel
theorem dX7_feed_29 : decode cX7_feed 29 = .ok (.aload_n 0, 1) := by decide +kernel
theorem dX7_feed_30 : decode cX7_feed 30 = .ok (.invokevirtual 70, 3) := by decide +kernel
theorem dX7_feed_33 : decode cX7_feed 33 = .ok (.aload_n 0, 1) := by decide +kernel
theorem dX7_feed_34 : decode cX7_feed 34 = .ok (.iload_n 1, 1) := by decide +kernel
theorem dX7_feed_35 : decode cX7_feed 35 = .ok (.iconst 2, 1) := by decide +kernel
theorem dX7_feed_36 : decode cX7_feed 36 = .ok (.invokevirtual 132, 3) := by decide +kernel
theorem dX7_feed_39 : decode cX7_feed 39 = .ok (.istore_n 3, 1) := by decide +kernel
theorem dX7_feed_40 : decode cX7_feed 40 = .ok (.aload_n 0, 1) := by decide +kernel
theorem dX7_feed_41 : decode cX7_feed 41 = .ok (.getfield 7, 3) := by decide +kernel
theorem dX7_feed_44 : decode cX7_feed 44 = .ok (.bipush 33, 2) := by decide +kernel
theorem dX7_feed_46 : decode cX7_feed 46 = .ok (.bipush 11, 2) := by decide +kernel
theorem dX7_feed_48 : decode cX7_feed 48 = .ok (.iload_n 1, 1) := by decide +kernel
theorem dX7_feed_49 : decode cX7_feed 49 = .ok (.imul, 1) := by decide +kernel
theorem dX7_feed_50 : decode cX7_feed 50 = .ok (.iadd, 1) := by decide +kernel
theorem dX7_feed_51 : decode cX7_feed 51 = .ok (.iconst 2, 1) := by decide +kernel
theorem dX7_feed_52 : decode cX7_feed 52 = .ok (.iadd, 1) := by decide +kernel
theorem dX7_feed_53 : decode cX7_feed 53 = .ok (.iload_n 2, 1) := by decide +kernel
theorem dX7_feed_54 : decode cX7_feed 54 = .ok (.i2l, 1) := by decide +kernel
theorem dX7_feed_55 : decode cX7_feed 55 = .ok (.lastore, 1) := by decide +kernel
theorem dX7_feed_56 : decode cX7_feed 56 = .ok (.iload_n 3, 1) := by decide +kernel
theorem dX7_feed_57 : decode cX7_feed 57 = .ok (.ireturn, 1) := by decide +kernel
theorem dX7_checksDeposit_0 : decode cX7_checksDeposit 0 = .ok (.aload_n 0, 1) := by decide +kernel
theorem dX7_checksDeposit_1 : decode cX7_checksDeposit 1 = .ok (.iload_n 1, 1) := by decide +kernel
theorem dX7_checksDeposit_2 : decode cX7_checksDeposit 2 = .ok (.invokevirtual 129, 3) := by decide +kernel
theorem dX7_checksDeposit_5 : decode cX7_checksDeposit 5 = .ok (.ifCond .ne 5, 3) := by decide +kernel
theorem dX7_checksDeposit_8 : decode cX7_checksDeposit 8 = .ok (.iconst (-1), 1) := by decide +kernel
theorem dX7_checksDeposit_9 : decode cX7_checksDeposit 9 = .ok (.ireturn, 1) := by decide +kernel
theorem dX7_checksDeposit_10 : decode cX7_checksDeposit 10 = .ok (.iload_n 2, 1) := by decide +kernel
theorem dX7_checksDeposit_11 : decode cX7_checksDeposit 11 = .ok (.i2l, 1) := by decide +kernel
theorem dX7_checksDeposit_12 : decode cX7_checksDeposit 12 = .ok (.lconst 1, 1) := by decide +kernel
theorem dX7_checksDeposit_13 : decode cX7_checksDeposit 13 = .ok (.ldc2_w 135, 3) := by decide +kernel
theorem dX7_checksDeposit_16 : decode cX7_checksDeposit 16 = .ok (.invokestatic 47, 3) := by decide +kernel
theorem dX7_checksDeposit_19 : decode cX7_checksDeposit 19 = .ok (.ifCond .eq 7, 3) := by decide +kernel
theorem dX7_checksDeposit_22 : decode cX7_checksDeposit 22 = .ok (.iconst 0, 1) := by decide +kernel
theorem dX7_checksDeposit_23 : decode cX7_checksDeposit 23 = .ok (.goto 5, 3) := by decide +kernel
theorem dX7_checksDeposit_26 : decode cX7_checksDeposit 26 = .ok (.bipush (-2), 2) := by decide +kernel
theorem dX7_checksDeposit_28 : decode cX7_checksDeposit 28 = .ok (.ireturn, 1) := by decide +kernel
theorem dX7_deposits_0 : decode cX7_deposits 0 = .ok (.aload_n 0, 1) := by decide +kernel
theorem dX7_deposits_1 : decode cX7_deposits 1 = .ok (.iload_n 1, 1) := by decide +kernel
theorem dX7_deposits_2 : decode cX7_deposits 2 = .ok (.iconst 0, 1) := by decide +kernel
theorem dX7_deposits_3 : decode cX7_deposits 3 = .ok (.iload_n 2, 1) := by decide +kernel
theorem dX7_deposits_4 : decode cX7_deposits 4 = .ok (.i2l, 1) := by decide +kernel
theorem dX7_deposits_5 : decode cX7_deposits 5 = .ok (.invokevirtual 137, 3) := by decide +kernel
theorem dX7_deposits_8 : decode cX7_deposits 8 = .ok (.aload_n 0, 1) := by decide +kernel
theorem dX7_deposits_9 : decode cX7_deposits 9 = .ok (.iload_n 1, 1) := by decide +kernel
theorem dX7_deposits_10 : decode cX7_deposits 10 = .ok (.iconst 1, 1) := by decide +kernel
theorem dX7_deposits_11 : decode cX7_deposits 11 = .ok (.iload_n 2, 1) := by decide +kernel
theorem dX7_deposits_12 : decode cX7_deposits 12 = .ok (.i2l, 1) := by decide +kernel
theorem dX7_deposits_13 : decode cX7_deposits 13 = .ok (.invokevirtual 137, 3) := by decide +kernel
theorem dX7_deposits_16 : decode cX7_deposits 16 = .ok (.aload_n 0, 1) := by decide +kernel
theorem dX7_deposits_17 : decode cX7_deposits 17 = .ok (.iload_n 1, 1) := by decide +kernel
theorem dX7_deposits_18 : decode cX7_deposits 18 = .ok (.iconst 0, 1) := by decide +kernel
theorem dX7_deposits_19 : decode cX7_deposits 19 = .ok (.invokevirtual 141, 3) := by decide +kernel
theorem dX7_deposits_22 : decode cX7_deposits 22 = .ok (.lconst 0, 1) := by decide +kernel
theorem dX7_deposits_23 : decode cX7_deposits 23 = .ok (.lcmp, 1) := by decide +kernel
theorem dX7_deposits_24 : decode cX7_deposits 24 = .ok (.ifCond .lt 7, 3) := by decide +kernel
theorem dX7_deposits_27 : decode cX7_deposits 27 = .ok (.iconst 1, 1) := by decide +kernel
theorem dX7_deposits_28 : decode cX7_deposits 28 = .ok (.goto 4, 3) := by decide +kernel
theorem dX7_deposits_31 : decode cX7_deposits 31 = .ok (.iconst 0, 1) := by decide +kernel
theorem dX7_deposits_32 : decode cX7_deposits 32 = .ok (.ireturn, 1) := by decide +kernel
theorem dX7_deposit_0 : decode cX7_deposit 0 = .ok (.aload_n 0, 1) := by decide +kernel
theorem dX7_deposit_1 : decode cX7_deposit 1 = .ok (.iload_n 1, 1) := by decide +kernel
theorem dX7_deposit_2 : decode cX7_deposit 2 = .ok (.iload_n 2, 1) := by decide +kernel
theorem dX7_deposit_3 : decode cX7_deposit 3 = .ok (.invokevirtual 145, 3) := by decide +kernel
theorem dX7_deposit_6 : decode cX7_deposit 6 = .ok (.istore_n 3, 1) := by decide +kernel
theorem dX7_deposit_7 : decode cX7_deposit 7 = .ok (.iload_n 3, 1) := by decide +kernel
theorem dX7_deposit_8 : decode cX7_deposit 8 = .ok (.ifCond .eq 5, 3) := by decide +kernel
theorem dX7_deposit_11 : decode cX7_deposit 11 = .ok (.iload_n 3, 1) := by decide +kernel
theorem dX7_deposit_12 : decode cX7_deposit 12 = .ok (.ireturn, 1) := by decide +kernel
theorem dX7_deposit_13 : decode cX7_deposit 13 = .ok (.aload_n 0, 1) := by decide +kernel
theorem dX7_deposit_14 : decode cX7_deposit 14 = .ok (.invokevirtual 70, 3) := by decide +kernel
theorem dX7_deposit_17 : decode cX7_deposit 17 = .ok (.aload_n 0, 1) := by decide +kernel
theorem dX7_deposit_18 : decode cX7_deposit 18 = .ok (.iload_n 1, 1) := by decide +kernel
theorem dX7_deposit_19 : decode cX7_deposit 19 = .ok (.iload_n 2, 1) := by decide +kernel
theorem dX7_deposit_20 : decode cX7_deposit 20 = .ok (.invokevirtual 148, 3) := by decide +kernel
theorem dX7_deposit_23 : decode cX7_deposit 23 = .ok (.ireturn, 1) := by decide +kernel
theorem dX7_nominal_0 : decode cX7_nominal 0 = .ok (.aload_n 0, 1) := by decide +kernel
theorem dX7_nominal_1 : decode cX7_nominal 1 = .ok (.iload_n 1, 1) := by decide +kernel
theorem dX7_nominal_2 : decode cX7_nominal 2 = .ok (.bipush 6, 2) := by decide +kernel
theorem dX7_nominal_4 : decode cX7_nominal 4 = .ok (.invokevirtual 151, 3) := by decide +kernel
theorem dX7_nominal_7 : decode cX7_nominal 7 = .ok (.istore_n 3, 1) := by decide +kernel
theorem dX7_nominal_8 : decode cX7_nominal 8 = .ok (.aload_n 0, 1) := by decide +kernel
theorem dX7_nominal_9 : decode cX7_nominal 9 = .ok (.iload_n 1, 1) := by decide +kernel
theorem dX7_nominal_10 : decode cX7_nominal 10 = .ok (.iconst 3, 1) := by decide +kernel
theorem dX7_nominal_11 : decode cX7_nominal 11 = .ok (.invokevirtual 151, 3) := by decide +kernel
theorem dX7_nominal_14 : decode cX7_nominal 14 = .ok (.istore 4, 2) := by decide +kernel
theorem dX7_nominal_16 : decode cX7_nominal 16 = .ok (.iload_n 2, 1) := by decide +kernel
theorem dX7_nominal_17 : decode cX7_nominal 17 = .ok (.aload_n 0, 1) := by decide +kernel
theorem dX7_nominal_18 : decode cX7_nominal 18 = .ok (.iload_n 1, 1) := by decide +kernel
theorem dX7_nominal_19 : decode cX7_nominal 19 = .ok (.iconst 4, 1) := by decide +kernel
theorem dX7_nominal_20 : decode cX7_nominal 20 = .ok (.invokevirtual 151, 3) := by decide +kernel
theorem dX7_nominal_23 : decode cX7_nominal 23 = .ok (.imul, 1) := by decide +kernel
theorem dX7_nominal_24 : decode cX7_nominal 24 = .ok (.istore 5, 2) := by decide +kernel
theorem dX7_nominal_26 : decode cX7_nominal 26 = .ok (.iload 4, 2) := by decide +kernel
theorem dX7_nominal_28 : decode cX7_nominal 28 = .ok (.iconst 2, 1) := by decide +kernel
theorem dX7_nominal_29 : decode cX7_nominal 29 = .ok (.if_icmp .ge 25, 3) := by decide +kernel
theorem dX7_nominal_32 : decode cX7_nominal 32 = .ok (.iload_n 3, 1) := by decide +kernel
theorem dX7_nominal_33 : decode cX7_nominal 33 = .ok (.iload 4, 2) := by decide +kernel
theorem dX7_nominal_35 : decode cX7_nominal 35 = .ok (.ifCond .ne 8, 3) := by decide +kernel
theorem dX7_nominal_38 : decode cX7_nominal 38 = .ok (.iload 5, 2) := by decide +kernel
theorem dX7_nominal_40 : decode cX7_nominal 40 = .ok (.goto 8, 3) := by decide +kernel
theorem dX7_nominal_43 : decode cX7_nominal 43 = .ok (.bipush 7, 2) := by decide +kernel
theorem dX7_nominal_45 : decode cX7_nominal 45 = .ok (.iload 5, 2) := by decide +kernel
theorem dX7_nominal_47 : decode cX7_nominal 47 = .ok (.imul, 1) := by decide +kernel
theorem dX7_nominal_48 : decode cX7_nominal 48 = .ok (.iadd, 1) := by decide +kernel
theorem dX7_nominal_49 : decode cX7_nominal 49 = .ok (.istore 6, 2) := by decide +kernel
theorem dX7_nominal_51 : decode cX7_nominal 51 = .ok (.goto 51, 3) := by decide +kernel
theorem dX7_nominal_54 : decode cX7_nominal 54 = .ok (.iload_n 3, 1) := by decide +kernel
theorem dX7_nominal_55 : decode cX7_nominal 55 = .ok (.invokestatic 94, 3) := by decide +kernel
theorem dX7_nominal_58 : decode cX7_nominal 58 = .ok (.iload 5, 2) := by decide +kernel
theorem dX7_nominal_60 : decode cX7_nominal 60 = .ok (.iadd, 1) := by decide +kernel
theorem dX7_nominal_61 : decode cX7_nominal 61 = .ok (.istore 7, 2) := by decide +kernel
theorem dX7_nominal_63 : decode cX7_nominal 63 = .ok (.iload 7, 2) := by decide +kernel
theorem dX7_nominal_65 : decode cX7_nominal 65 = .ok (.bipush 36, 2) := by decide +kernel
theorem dX7_nominal_67 : decode cX7_nominal 67 = .ok (.if_icmp .lt 7, 3) := by decide +kernel
theorem dX7_nominal_70 : decode cX7_nominal 70 = .ok (.sipush 5000, 3) := by decide +kernel
theorem dX7_nominal_73 : decode cX7_nominal 73 = .ok (.ireturn, 1) := by decide +kernel
theorem dX7_nominal_74 : decode cX7_nominal 74 = .ok (.iload 4, 2) := by decide +kernel
theorem dX7_nominal_76 : decode cX7_nominal 76 = .ok (.iconst 2, 1) := by decide +kernel
theorem dX7_nominal_77 : decode cX7_nominal 77 = .ok (.if_icmp .ne 17, 3) := by decide +kernel
theorem dX7_nominal_80 : decode cX7_nominal 80 = .ok (.iload 7, 2) := by decide +kernel
theorem dX7_nominal_82 : decode cX7_nominal 82 = .ok (.aload_n 0, 1) := by decide +kernel
theorem dX7_nominal_83 : decode cX7_nominal 83 = .ok (.iload_n 1, 1) := by decide +kernel
theorem dX7_nominal_84 : decode cX7_nominal 84 = .ok (.iconst 5, 1) := by decide +kernel
theorem dX7_nominal_85 : decode cX7_nominal 85 = .ok (.invokevirtual 151, 3) := by decide +kernel
theorem dX7_nominal_88 : decode cX7_nominal 88 = .ok (.invokestatic 154, 3) := by decide +kernel
theorem dX7_nominal_91 : decode cX7_nominal 91 = .ok (.goto 9, 3) := by decide +kernel
theorem dX7_nominal_94 : decode cX7_nominal 94 = .ok (.aload_n 0, 1) := by decide +kernel
theorem dX7_nominal_95 : decode cX7_nominal 95 = .ok (.iload 7, 2) := by decide +kernel
theorem dX7_nominal_97 : decode cX7_nominal 97 = .ok (.invokevirtual 157, 3) := by decide +kernel
theorem dX7_nominal_100 : decode cX7_nominal 100 = .ok (.istore 6, 2) := by decide +kernel
theorem dX7_nominal_102 : decode cX7_nominal 102 = .ok (.iload 6, 2) := by decide +kernel
theorem dX7_nominal_104 : decode cX7_nominal 104 = .ok (.sipush 1094, 3) := by decide +kernel
theorem dX7_nominal_107 : decode cX7_nominal 107 = .ok (.if_icmp .le 7, 3) := by decide +kernel
theorem dX7_nominal_110 : decode cX7_nominal 110 = .ok (.sipush 5000, 3) := by decide +kernel
theorem dX7_nominal_113 : decode cX7_nominal 113 = .ok (.ireturn, 1) := by decide +kernel
theorem dX7_nominal_114 : decode cX7_nominal 114 = .ok (.iload 6, 2) := by decide +kernel
theorem dX7_nominal_116 : decode cX7_nominal 116 = .ok (.iload_n 3, 1) := by decide +kernel
theorem dX7_nominal_117 : decode cX7_nominal 117 = .ok (.if_icmp .ge 8, 3) := by decide +kernel
theorem dX7_nominal_120 : decode cX7_nominal 120 = .ok (.bipush (-6), 2) := by decide +kernel
theorem dX7_nominal_122 : decode cX7_nominal 122 = .ok (.goto 5, 3) := by decide +kernel
theorem dX7_nominal_125 : decode cX7_nominal 125 = .ok (.iload 6, 2) := by decide +kernel
theorem dX7_nominal_127 : decode cX7_nominal 127 = .ok (.ireturn, 1) := by decide +kernel
theorem dX7_dayIn_0 : decode cX7_dayIn 0 = .ok (.iload_n 0, 1) := by decide +kernel
theorem dX7_dayIn_1 : decode cX7_dayIn 1 = .ok (.invokestatic 75, 3) := by decide +kernel
theorem dX7_dayIn_4 : decode cX7_dayIn 4 = .ok (.istore_n 2, 1) := by decide +kernel
theorem dX7_dayIn_5 : decode cX7_dayIn 5 = .ok (.iload_n 0, 1) := by decide +kernel
theorem dX7_dayIn_6 : decode cX7_dayIn 6 = .ok (.invokestatic 78, 3) := by decide +kernel
theorem dX7_dayIn_9 : decode cX7_dayIn 9 = .ok (.iload_n 1, 1) := by decide +kernel
theorem dX7_dayIn_10 : decode cX7_dayIn 10 = .ok (.iload_n 2, 1) := by decide +kernel
theorem dX7_dayIn_11 : decode cX7_dayIn 11 = .ok (.if_icmp .ge 7, 3) := by decide +kernel
theorem dX7_dayIn_14 : decode cX7_dayIn 14 = .ok (.iload_n 1, 1) := by decide +kernel
theorem dX7_dayIn_15 : decode cX7_dayIn 15 = .ok (.goto 4, 3) := by decide +kernel
theorem dX7_dayIn_18 : decode cX7_dayIn 18 = .ok (.iload_n 2, 1) := by decide +kernel
theorem dX7_dayIn_19 : decode cX7_dayIn 19 = .ok (.iadd, 1) := by decide +kernel
theorem dX7_dayIn_20 : decode cX7_dayIn 20 = .ok (.iconst 1, 1) := by decide +kernel
theorem dX7_dayIn_21 : decode cX7_dayIn 21 = .ok (.isub, 1) := by decide +kernel
theorem dX7_dayIn_22 : decode cX7_dayIn 22 = .ok (.ireturn, 1) := by decide +kernel
theorem dX7_lastOf_0 : decode cX7_lastOf 0 = .ok (.iload_n 1, 1) := by decide +kernel
theorem dX7_lastOf_1 : decode cX7_lastOf 1 = .ok (.invokestatic 78, 3) := by decide +kernel
theorem dX7_lastOf_4 : decode cX7_lastOf 4 = .ok (.iload_n 1, 1) := by decide +kernel
theorem dX7_lastOf_5 : decode cX7_lastOf 5 = .ok (.invokestatic 75, 3) := by decide +kernel
theorem dX7_lastOf_8 : decode cX7_lastOf 8 = .ok (.iadd, 1) := by decide +kernel
theorem dX7_lastOf_9 : decode cX7_lastOf 9 = .ok (.iconst 1, 1) := by decide +kernel
theorem dX7_lastOf_10 : decode cX7_lastOf 10 = .ok (.isub, 1) := by decide +kernel
theorem dX7_lastOf_11 : decode cX7_lastOf 11 = .ok (.istore_n 2, 1) := by decide +kernel
theorem dX7_lastOf_12 : decode cX7_lastOf 12 = .ok (.aload_n 0, 1) := by decide +kernel
theorem dX7_lastOf_13 : decode cX7_lastOf 13 = .ok (.iload_n 2, 1) := by decide +kernel
theorem dX7_lastOf_14 : decode cX7_lastOf 14 = .ok (.invokevirtual 100, 3) := by decide +kernel
theorem dX7_lastOf_17 : decode cX7_lastOf 17 = .ok (.istore_n 3, 1) := by decide +kernel
theorem dX7_lastOf_18 : decode cX7_lastOf 18 = .ok (.iload_n 3, 1) := by decide +kernel
theorem dX7_lastOf_19 : decode cX7_lastOf 19 = .ok (.bipush (-6), 2) := by decide +kernel
theorem dX7_lastOf_21 : decode cX7_lastOf 21 = .ok (.if_icmp .eq 11, 3) := by decide +kernel
theorem dX7_lastOf_24 : decode cX7_lastOf 24 = .ok (.iload_n 3, 1) := by decide +kernel
theorem dX7_lastOf_25 : decode cX7_lastOf 25 = .ok (.iload_n 1, 1) := by decide +kernel
theorem dX7_lastOf_26 : decode cX7_lastOf 26 = .ok (.invokestatic 78, 3) := by decide +kernel
theorem dX7_lastOf_29 : decode cX7_lastOf 29 = .ok (.if_icmp .ge 7, 3) := by decide +kernel
theorem dX7_lastOf_32 : decode cX7_lastOf 32 = .ok (.iload_n 2, 1) := by decide +kernel
theorem dX7_lastOf_33 : decode cX7_lastOf 33 = .ok (.goto 4, 3) := by decide +kernel
theorem dX7_lastOf_36 : decode cX7_lastOf 36 = .ok (.iload_n 3, 1) := by decide +kernel
theorem dX7_lastOf_37 : decode cX7_lastOf 37 = .ok (.ireturn, 1) := by decide +kernel
theorem dX7_occurrence_0 : decode cX7_occurrence 0 = .ok (.iload_n 2, 1) := by decide +kernel
theorem dX7_occurrence_1 : decode cX7_occurrence 1 = .ok (.istore_n 3, 1) := by decide +kernel
theorem dX7_occurrence_2 : decode cX7_occurrence 2 = .ok (.aload_n 0, 1) := by decide +kernel
theorem dX7_occurrence_3 : decode cX7_occurrence 3 = .ok (.iload_n 1, 1) := by decide +kernel
theorem dX7_occurrence_4 : decode cX7_occurrence 4 = .ok (.iload_n 3, 1) := by decide +kernel
theorem dX7_occurrence_5 : decode cX7_occurrence 5 = .ok (.invokevirtual 160, 3) := by decide +kernel
theorem dX7_occurrence_8 : decode cX7_occurrence 8 = .ok (.bipush (-6), 2) := by decide +kernel
theorem dX7_occurrence_10 : decode cX7_occurrence 10 = .ok (.if_icmp .ne 9, 3) := by decide +kernel
theorem dX7_occurrence_13 : decode cX7_occurrence 13 = .ok (.iinc 3 1, 3) := by decide +kernel
theorem dX7_occurrence_16 : decode cX7_occurrence 16 = .ok (.goto (-14), 3) := by decide +kernel
theorem dX7_occurrence_19 : decode cX7_occurrence 19 = .ok (.aload_n 0, 1) := by decide +kernel
theorem dX7_occurrence_20 : decode cX7_occurrence 20 = .ok (.iload_n 1, 1) := by decide +kernel
theorem dX7_occurrence_21 : decode cX7_occurrence 21 = .ok (.iload_n 3, 1) := by decide +kernel
theorem dX7_occurrence_22 : decode cX7_occurrence 22 = .ok (.invokevirtual 160, 3) := by decide +kernel
theorem dX7_occurrence_25 : decode cX7_occurrence 25 = .ok (.sipush 5000, 3) := by decide +kernel
theorem dX7_occurrence_28 : decode cX7_occurrence 28 = .ok (.if_icmp .ne 8, 3) := by decide +kernel
theorem dX7_occurrence_31 : decode cX7_occurrence 31 = .ok (.bipush (-6), 2) := by decide +kernel
theorem dX7_occurrence_33 : decode cX7_occurrence 33 = .ok (.goto 4, 3) := by decide +kernel
theorem dX7_occurrence_36 : decode cX7_occurrence 36 = .ok (.iload_n 3, 1) := by decide +kernel
theorem dX7_occurrence_37 : decode cX7_occurrence 37 = .ok (.ireturn, 1) := by decide +kernel
theorem dX7_dateBy_0 : decode cX7_dateBy 0 = .ok (.aload_n 0, 1) := by decide +kernel
theorem dX7_dateBy_1 : decode cX7_dateBy 1 = .ok (.aload_n 0, 1) := by decide +kernel
theorem dX7_dateBy_2 : decode cX7_dateBy 2 = .ok (.iload_n 1, 1) := by decide +kernel
theorem dX7_dateBy_3 : decode cX7_dateBy 3 = .ok (.iload_n 2, 1) := by decide +kernel
theorem dX7_dateBy_4 : decode cX7_dateBy 4 = .ok (.invokevirtual 160, 3) := by decide +kernel
theorem dX7_dateBy_7 : decode cX7_dateBy 7 = .ok (.aload_n 0, 1) := by decide +kernel
theorem dX7_dateBy_8 : decode cX7_dateBy 8 = .ok (.iload_n 1, 1) := by decide +kernel
theorem dX7_dateBy_9 : decode cX7_dateBy 9 = .ok (.bipush 7, 2) := by decide +kernel
theorem dX7_dateBy_11 : decode cX7_dateBy 11 = .ok (.invokevirtual 151, 3) := by decide +kernel
theorem dX7_dateBy_14 : decode cX7_dateBy 14 = .ok (.invokevirtual 105, 3) := by decide +kernel
theorem dX7_dateBy_17 : decode cX7_dateBy 17 = .ok (.ireturn, 1) := by decide +kernel
theorem dX7_leavesOut_0 : decode cX7_leavesOut 0 = .ok (.iconst 0, 1) := by decide +kernel
theorem dX7_leavesOut_1 : decode cX7_leavesOut 1 = .ok (.istore_n 2, 1) := by decide +kernel
theorem dX7_leavesOut_2 : decode cX7_leavesOut 2 = .ok (.aload_n 0, 1) := by decide +kernel
theorem dX7_leavesOut_3 : decode cX7_leavesOut 3 = .ok (.iload_n 1, 1) := by decide +kernel
theorem dX7_leavesOut_4 : decode cX7_leavesOut 4 = .ok (.aload_n 0, 1) := by decide +kernel
theorem dX7_leavesOut_5 : decode cX7_leavesOut 5 = .ok (.iload_n 1, 1) := by decide +kernel
theorem dX7_leavesOut_6 : decode cX7_leavesOut 6 = .ok (.bipush 14, 2) := by decide +kernel
theorem dX7_leavesOut_8 : decode cX7_leavesOut 8 = .ok (.invokevirtual 151, 3) := by decide +kernel
theorem dX7_leavesOut_11 : decode cX7_leavesOut 11 = .ok (.invokevirtual 163, 3) := by decide +kernel
theorem dX7_leavesOut_14 : decode cX7_leavesOut 14 = .ok (.istore_n 3, 1) := by decide +kernel
theorem dX7_leavesOut_15 : decode cX7_leavesOut 15 = .ok (.iload_n 3, 1) := by decide +kernel
theorem dX7_leavesOut_16 : decode cX7_leavesOut 16 = .ok (.bipush (-6), 2) := by decide +kernel
theorem dX7_leavesOut_18 : decode cX7_leavesOut 18 = .ok (.if_icmp .eq 41, 3) := by decide +kernel
theorem dX7_leavesOut_21 : decode cX7_leavesOut 21 = .ok (.aload_n 0, 1) := by decide +kernel
theorem dX7_leavesOut_22 : decode cX7_leavesOut 22 = .ok (.iload_n 1, 1) := by decide +kernel
theorem dX7_leavesOut_23 : decode cX7_leavesOut 23 = .ok (.iload_n 3, 1) := by decide +kernel
theorem dX7_leavesOut_24 : decode cX7_leavesOut 24 = .ok (.invokevirtual 166, 3) := by decide +kernel
theorem dX7_leavesOut_27 : decode cX7_leavesOut 27 = .ok (.aload_n 0, 1) := by decide +kernel
theorem dX7_leavesOut_28 : decode cX7_leavesOut 28 = .ok (.invokevirtual 66, 3) := by decide +kernel
theorem dX7_leavesOut_31 : decode cX7_leavesOut 31 = .ok (.if_icmp .ge 28, 3) := by decide +kernel
theorem dX7_leavesOut_34 : decode cX7_leavesOut 34 = .ok (.iinc 2 1, 3) := by decide +kernel
theorem dX7_leavesOut_37 : decode cX7_leavesOut 37 = .ok (.aload_n 0, 1) := by decide +kernel
theorem dX7_leavesOut_38 : decode cX7_leavesOut 38 = .ok (.iload_n 1, 1) := by decide +kernel
theorem dX7_leavesOut_39 : decode cX7_leavesOut 39 = .ok (.bipush 14, 2) := by decide +kernel
theorem dX7_leavesOut_41 : decode cX7_leavesOut 41 = .ok (.iload_n 3, 1) := by decide +kernel
theorem dX7_leavesOut_42 : decode cX7_leavesOut 42 = .ok (.iconst 1, 1) := by decide +kernel
theorem dX7_leavesOut_43 : decode cX7_leavesOut 43 = .ok (.iadd, 1) := by decide +kernel
theorem dX7_leavesOut_44 : decode cX7_leavesOut 44 = .ok (.invokevirtual 169, 3) := by decide +kernel
theorem dX7_leavesOut_47 : decode cX7_leavesOut 47 = .ok (.aload_n 0, 1) := by decide +kernel
theorem dX7_leavesOut_48 : decode cX7_leavesOut 48 = .ok (.iload_n 1, 1) := by decide +kernel
theorem dX7_leavesOut_49 : decode cX7_leavesOut 49 = .ok (.iload_n 3, 1) := by decide +kernel
theorem dX7_leavesOut_50 : decode cX7_leavesOut 50 = .ok (.iconst 1, 1) := by decide +kernel
theorem dX7_leavesOut_51 : decode cX7_leavesOut 51 = .ok (.iadd, 1) := by decide +kernel
theorem dX7_leavesOut_52 : decode cX7_leavesOut 52 = .ok (.invokevirtual 163, 3) := by decide +kernel
theorem dX7_leavesOut_55 : decode cX7_leavesOut 55 = .ok (.istore_n 3, 1) := by decide +kernel
theorem dX7_leavesOut_56 : decode cX7_leavesOut 56 = .ok (.goto (-41), 3) := by decide +kernel
theorem dX7_leavesOut_59 : decode cX7_leavesOut 59 = .ok (.iload_n 2, 1) := by decide +kernel
theorem dX7_leavesOut_60 : decode cX7_leavesOut 60 = .ok (.ireturn, 1) := by decide +kernel
theorem dX7_hasLeft_0 : decode cX7_hasLeft 0 = .ok (.aload_n 0, 1) := by decide +kernel
theorem dX7_hasLeft_1 : decode cX7_hasLeft 1 = .ok (.iload_n 1, 1) := by decide +kernel
theorem dX7_hasLeft_2 : decode cX7_hasLeft 2 = .ok (.bipush 15, 2) := by decide +kernel
theorem dX7_hasLeft_4 : decode cX7_hasLeft 4 = .ok (.invokevirtual 151, 3) := by decide +kernel
theorem dX7_hasLeft_7 : decode cX7_hasLeft 7 = .ok (.iconst 1, 1) := by decide +kernel
theorem dX7_hasLeft_8 : decode cX7_hasLeft 8 = .ok (.if_icmp .eq 13, 3) := by decide +kernel
theorem dX7_hasLeft_11 : decode cX7_hasLeft 11 = .ok (.aload_n 0, 1) := by decide +kernel
theorem dX7_hasLeft_12 : decode cX7_hasLeft 12 = .ok (.iload_n 1, 1) := by decide +kernel
theorem dX7_hasLeft_13 : decode cX7_hasLeft 13 = .ok (.bipush 9, 2) := by decide +kernel
theorem dX7_hasLeft_15 : decode cX7_hasLeft 15 = .ok (.invokevirtual 151, 3) := by decide +kernel
theorem dX7_hasLeft_18 : decode cX7_hasLeft 18 = .ok (.ifCond .le 7, 3) := by decide +kernel
theorem dX7_hasLeft_21 : decode cX7_hasLeft 21 = .ok (.iconst 1, 1) := by decide +kernel
theorem dX7_hasLeft_22 : decode cX7_hasLeft 22 = .ok (.goto 4, 3) := by decide +kernel
theorem dX7_hasLeft_25 : decode cX7_hasLeft 25 = .ok (.iconst 0, 1) := by decide +kernel
theorem dX7_hasLeft_26 : decode cX7_hasLeft 26 = .ok (.ireturn, 1) := by decide +kernel
theorem dX7_dateOf_0 : decode cX7_dateOf 0 = .ok (.aload_n 0, 1) := by decide +kernel
theorem dX7_dateOf_1 : decode cX7_dateOf 1 = .ok (.iload_n 1, 1) := by decide +kernel
theorem dX7_dateOf_2 : decode cX7_dateOf 2 = .ok (.invokevirtual 173, 3) := by decide +kernel
theorem dX7_dateOf_5 : decode cX7_dateOf 5 = .ok (.ifCond .ne 5, 3) := by decide +kernel
theorem dX7_dateOf_8 : decode cX7_dateOf 8 = .ok (.iconst (-1), 1) := by decide +kernel
theorem dX7_dateOf_9 : decode cX7_dateOf 9 = .ok (.ireturn, 1) := by decide +kernel
theorem dX7_dateOf_10 : decode cX7_dateOf 10 = .ok (.iload_n 2, 1) := by decide +kernel
theorem dX7_dateOf_11 : decode cX7_dateOf 11 = .ok (.i2l, 1) := by decide +kernel
theorem dX7_dateOf_12 : decode cX7_dateOf 12 = .ok (.lconst 0, 1) := by decide +kernel
theorem dX7_dateOf_13 : decode cX7_dateOf 13 = .ok (.ldc2_w 176, 3) := by decide +kernel
theorem dX7_dateOf_16 : decode cX7_dateOf 16 = .ok (.invokestatic 47, 3) := by decide +kernel
theorem dX7_dateOf_19 : decode cX7_dateOf 19 = .ok (.ifCond .ne 6, 3) := by decide +kernel
theorem dX7_dateOf_22 : decode cX7_dateOf 22 = .ok (.bipush (-2), 2) := by decide +kernel
theorem dX7_dateOf_24 : decode cX7_dateOf 24 = .ok (.ireturn, 1) := by decide +kernel
theorem dX7_dateOf_25 : decode cX7_dateOf 25 = .ok (.aload_n 0, 1) := by decide +kernel
theorem dX7_dateOf_26 : decode cX7_dateOf 26 = .ok (.iload_n 1, 1) := by decide +kernel
theorem dX7_dateOf_27 : decode cX7_dateOf 27 = .ok (.bipush 10, 2) := by decide +kernel
theorem dX7_dateOf_29 : decode cX7_dateOf 29 = .ok (.invokevirtual 151, 3) := by decide +kernel
theorem dX7_dateOf_32 : decode cX7_dateOf 32 = .ok (.iconst 2, 1) := by decide +kernel
theorem dX7_dateOf_33 : decode cX7_dateOf 33 = .ok (.if_icmp .eq 24, 3) := by decide +kernel
theorem dX7_dateOf_36 : decode cX7_dateOf 36 = .ok (.aload_n 0, 1) := by decide +kernel
theorem dX7_dateOf_37 : decode cX7_dateOf 37 = .ok (.iload_n 1, 1) := by decide +kernel
theorem dX7_dateOf_38 : decode cX7_dateOf 38 = .ok (.bipush 15, 2) := by decide +kernel
theorem dX7_dateOf_40 : decode cX7_dateOf 40 = .ok (.invokevirtual 151, 3) := by decide +kernel
theorem dX7_dateOf_43 : decode cX7_dateOf 43 = .ok (.ifCond .ne 17, 3) := by decide +kernel
theorem dX7_dateOf_46 : decode cX7_dateOf 46 = .ok (.iload_n 2, 1) := by decide +kernel
theorem dX7_dateOf_47 : decode cX7_dateOf 47 = .ok (.aload_n 0, 1) := by decide +kernel
theorem dX7_dateOf_48 : decode cX7_dateOf 48 = .ok (.iload_n 1, 1) := by decide +kernel
theorem dX7_dateOf_49 : decode cX7_dateOf 49 = .ok (.bipush 9, 2) := by decide +kernel
theorem dX7_dateOf_51 : decode cX7_dateOf 51 = .ok (.invokevirtual 151, 3) := by decide +kernel
theorem dX7_dateOf_54 : decode cX7_dateOf 54 = .ok (.if_icmp .lt 6, 3) := by decide +kernel
theorem dX7_dateOf_57 : decode cX7_dateOf 57 = .ok (.bipush (-6), 2) := by decide +kernel
theorem dX7_dateOf_59 : decode cX7_dateOf 59 = .ok (.ireturn, 1) := by decide +kernel
theorem dX7_dateOf_60 : decode cX7_dateOf 60 = .ok (.aload_n 0, 1) := by decide +kernel
theorem dX7_dateOf_61 : decode cX7_dateOf 61 = .ok (.iload_n 1, 1) := by decide +kernel
theorem dX7_dateOf_62 : decode cX7_dateOf 62 = .ok (.aload_n 0, 1) := by decide +kernel
theorem dX7_dateOf_63 : decode cX7_dateOf 63 = .ok (.iload_n 1, 1) := by decide +kernel
theorem dX7_dateOf_64 : decode cX7_dateOf 64 = .ok (.bipush 14, 2) := by decide +kernel
theorem dX7_dateOf_66 : decode cX7_dateOf 66 = .ok (.invokevirtual 151, 3) := by decide +kernel
theorem dX7_dateOf_69 : decode cX7_dateOf 69 = .ok (.invokevirtual 163, 3) := by decide +kernel
theorem dX7_dateOf_72 : decode cX7_dateOf 72 = .ok (.istore_n 3, 1) := by decide +kernel
theorem dX7_dateOf_73 : decode cX7_dateOf 73 = .ok (.iconst 0, 1) := by decide +kernel
theorem dX7_dateOf_74 : decode cX7_dateOf 74 = .ok (.istore 4, 2) := by decide +kernel
theorem dX7_dateOf_76 : decode cX7_dateOf 76 = .ok (.iload 4, 2) := by decide +kernel
theorem dX7_dateOf_78 : decode cX7_dateOf 78 = .ok (.iload_n 2, 1) := by decide +kernel
theorem dX7_dateOf_79 : decode cX7_dateOf 79 = .ok (.if_icmp .ge 24, 3) := by decide +kernel
theorem dX7_dateOf_82 : decode cX7_dateOf 82 = .ok (.iload_n 3, 1) := by decide +kernel
theorem dX7_dateOf_83 : decode cX7_dateOf 83 = .ok (.bipush (-6), 2) := by decide +kernel
theorem dX7_dateOf_85 : decode cX7_dateOf 85 = .ok (.if_icmp .eq 18, 3) := by decide +kernel
theorem dX7_dateOf_88 : decode cX7_dateOf 88 = .ok (.aload_n 0, 1) := by decide +kernel
theorem dX7_dateOf_89 : decode cX7_dateOf 89 = .ok (.iload_n 1, 1) := by decide +kernel
theorem dX7_dateOf_90 : decode cX7_dateOf 90 = .ok (.iload_n 3, 1) := by decide +kernel
theorem dX7_dateOf_91 : decode cX7_dateOf 91 = .ok (.iconst 1, 1) := by decide +kernel
theorem dX7_dateOf_92 : decode cX7_dateOf 92 = .ok (.iadd, 1) := by decide +kernel
theorem dX7_dateOf_93 : decode cX7_dateOf 93 = .ok (.invokevirtual 163, 3) := by decide +kernel
theorem dX7_dateOf_96 : decode cX7_dateOf 96 = .ok (.istore_n 3, 1) := by decide +kernel
theorem dX7_dateOf_97 : decode cX7_dateOf 97 = .ok (.iinc 4 1, 3) := by decide +kernel
theorem dX7_dateOf_100 : decode cX7_dateOf 100 = .ok (.goto (-24), 3) := by decide +kernel
theorem dX7_dateOf_103 : decode cX7_dateOf 103 = .ok (.iload_n 3, 1) := by decide +kernel
theorem dX7_dateOf_104 : decode cX7_dateOf 104 = .ok (.bipush (-6), 2) := by decide +kernel
theorem dX7_dateOf_106 : decode cX7_dateOf 106 = .ok (.if_icmp .ne 8, 3) := by decide +kernel
theorem dX7_dateOf_109 : decode cX7_dateOf 109 = .ok (.bipush (-6), 2) := by decide +kernel
theorem dX7_dateOf_111 : decode cX7_dateOf 111 = .ok (.goto 9, 3) := by decide +kernel
theorem dX7_dateOf_114 : decode cX7_dateOf 114 = .ok (.aload_n 0, 1) := by decide +kernel
theorem dX7_dateOf_115 : decode cX7_dateOf 115 = .ok (.iload_n 1, 1) := by decide +kernel
theorem dX7_dateOf_116 : decode cX7_dateOf 116 = .ok (.iload_n 3, 1) := by decide +kernel
theorem dX7_dateOf_117 : decode cX7_dateOf 117 = .ok (.invokevirtual 166, 3) := by decide +kernel
theorem dX7_dateOf_120 : decode cX7_dateOf 120 = .ok (.ireturn, 1) := by decide +kernel
theorem dX7_checksOrder_0 : decode cX7_checksOrder 0 = .ok (.iload_n 1, 1) := by decide +kernel
theorem dX7_checksOrder_1 : decode cX7_checksOrder 1 = .ok (.bipush 9, 2) := by decide +kernel
theorem dX7_checksOrder_3 : decode cX7_checksOrder 3 = .ok (.idiv, 1) := by decide +kernel
theorem dX7_checksOrder_4 : decode cX7_checksOrder 4 = .ok (.istore 7, 2) := by decide +kernel
theorem dX7_checksOrder_6 : decode cX7_checksOrder 6 = .ok (.iload_n 1, 1) := by decide +kernel
theorem dX7_checksOrder_7 : decode cX7_checksOrder 7 = .ok (.bipush 9, 2) := by decide +kernel
theorem dX7_checksOrder_9 : decode cX7_checksOrder 9 = .ok (.irem, 1) := by decide +kernel
theorem dX7_checksOrder_10 : decode cX7_checksOrder 10 = .ok (.istore 8, 2) := by decide +kernel
theorem dX7_checksOrder_12 : decode cX7_checksOrder 12 = .ok (.iload_n 1, 1) := by decide +kernel
theorem dX7_checksOrder_13 : decode cX7_checksOrder 13 = .ok (.ifCond .lt 35, 3) := by decide +kernel
theorem dX7_checksOrder_16 : decode cX7_checksOrder 16 = .ok (.aload_n 0, 1) := by decide +kernel
theorem dX7_checksOrder_17 : decode cX7_checksOrder 17 = .ok (.iload 7, 2) := by decide +kernel
theorem dX7_checksOrder_19 : decode cX7_checksOrder 19 = .ok (.invokevirtual 129, 3) := by decide +kernel
theorem dX7_checksOrder_22 : decode cX7_checksOrder 22 = .ok (.ifCond .eq 26, 3) := by decide +kernel
theorem dX7_checksOrder_25 : decode cX7_checksOrder 25 = .ok (.iload 8, 2) := by decide +kernel
theorem dX7_checksOrder_27 : decode cX7_checksOrder 27 = .ok (.bipush 8, 2) := by decide +kernel
theorem dX7_checksOrder_29 : decode cX7_checksOrder 29 = .ok (.if_icmp .eq 12, 3) := by decide +kernel
theorem dX7_checksOrder_32 : decode cX7_checksOrder 32 = .ok (.aload_n 0, 1) := by decide +kernel
theorem dX7_checksOrder_33 : decode cX7_checksOrder 33 = .ok (.iload 8, 2) := by decide +kernel
theorem dX7_checksOrder_35 : decode cX7_checksOrder 35 = .ok (.invokevirtual 129, 3) := by decide +kernel
theorem dX7_checksOrder_38 : decode cX7_checksOrder 38 = .ok (.ifCond .eq 10, 3) := by decide +kernel
theorem dX7_checksOrder_41 : decode cX7_checksOrder 41 = .ok (.iload 7, 2) := by decide +kernel
theorem dX7_checksOrder_43 : decode cX7_checksOrder 43 = .ok (.iload 8, 2) := by decide +kernel
theorem dX7_checksOrder_45 : decode cX7_checksOrder 45 = .ok (.if_icmp .ne 5, 3) := by decide +kernel
theorem dX7_checksOrder_48 : decode cX7_checksOrder 48 = .ok (.iconst (-1), 1) := by decide +kernel
theorem dX7_checksOrder_49 : decode cX7_checksOrder 49 = .ok (.ireturn, 1) := by decide +kernel
theorem dX7_checksOrder_50 : decode cX7_checksOrder 50 = .ok (.iload_n 3, 1) := by decide +kernel
theorem dX7_checksOrder_51 : decode cX7_checksOrder 51 = .ok (.i2l, 1) := by decide +kernel
theorem dX7_checksOrder_52 : decode cX7_checksOrder 52 = .ok (.lconst 0, 1) := by decide +kernel
theorem dX7_checksOrder_53 : decode cX7_checksOrder 53 = .ok (.ldc2_w 178, 3) := by decide +kernel
theorem dX7_checksOrder_56 : decode cX7_checksOrder 56 = .ok (.invokestatic 47, 3) := by decide +kernel
theorem dX7_checksOrder_59 : decode cX7_checksOrder 59 = .ok (.ifCond .eq 40, 3) := by decide +kernel
theorem dX7_checksOrder_62 : decode cX7_checksOrder 62 = .ok (.iload_n 3, 1) := by decide +kernel
theorem dX7_checksOrder_63 : decode cX7_checksOrder 63 = .ok (.bipush 100, 2) := by decide +kernel
theorem dX7_checksOrder_65 : decode cX7_checksOrder 65 = .ok (.idiv, 1) := by decide +kernel
theorem dX7_checksOrder_66 : decode cX7_checksOrder 66 = .ok (.bipush 100, 2) := by decide +kernel
theorem dX7_checksOrder_68 : decode cX7_checksOrder 68 = .ok (.irem, 1) := by decide +kernel
theorem dX7_checksOrder_69 : decode cX7_checksOrder 69 = .ok (.i2l, 1) := by decide +kernel
theorem dX7_checksOrder_70 : decode cX7_checksOrder 70 = .ok (.lconst 1, 1) := by decide +kernel
theorem dX7_checksOrder_71 : decode cX7_checksOrder 71 = .ok (.ldc2_w 180, 3) := by decide +kernel
theorem dX7_checksOrder_74 : decode cX7_checksOrder 74 = .ok (.invokestatic 47, 3) := by decide +kernel
theorem dX7_checksOrder_77 : decode cX7_checksOrder 77 = .ok (.ifCond .eq 22, 3) := by decide +kernel
theorem dX7_checksOrder_80 : decode cX7_checksOrder 80 = .ok (.iload_n 3, 1) := by decide +kernel
theorem dX7_checksOrder_81 : decode cX7_checksOrder 81 = .ok (.bipush 100, 2) := by decide +kernel
theorem dX7_checksOrder_83 : decode cX7_checksOrder 83 = .ok (.irem, 1) := by decide +kernel
theorem dX7_checksOrder_84 : decode cX7_checksOrder 84 = .ok (.i2l, 1) := by decide +kernel
theorem dX7_checksOrder_85 : decode cX7_checksOrder 85 = .ok (.lconst 1, 1) := by decide +kernel
theorem dX7_checksOrder_86 : decode cX7_checksOrder 86 = .ok (.ldc2_w 182, 3) := by decide +kernel
theorem dX7_checksOrder_89 : decode cX7_checksOrder 89 = .ok (.invokestatic 47, 3) := by decide +kernel
theorem dX7_checksOrder_92 : decode cX7_checksOrder 92 = .ok (.ifCond .eq 7, 3) := by decide +kernel
theorem dX7_checksOrder_95 : decode cX7_checksOrder 95 = .ok (.iconst 1, 1) := by decide +kernel
theorem dX7_checksOrder_96 : decode cX7_checksOrder 96 = .ok (.goto 4, 3) := by decide +kernel
theorem dX7_checksOrder_99 : decode cX7_checksOrder 99 = .ok (.iconst 0, 1) := by decide +kernel
theorem dX7_checksOrder_100 : decode cX7_checksOrder 100 = .ok (.istore 9, 2) := by decide +kernel
theorem dX7_checksOrder_102 : decode cX7_checksOrder 102 = .ok (.iload_n 2, 1) := by decide +kernel
theorem dX7_checksOrder_103 : decode cX7_checksOrder 103 = .ok (.i2l, 1) := by decide +kernel
theorem dX7_checksOrder_104 : decode cX7_checksOrder 104 = .ok (.lconst 1, 1) := by decide +kernel
theorem dX7_checksOrder_105 : decode cX7_checksOrder 105 = .ok (.ldc2_w 123, 3) := by decide +kernel
theorem dX7_checksOrder_108 : decode cX7_checksOrder 108 = .ok (.invokestatic 47, 3) := by decide +kernel
theorem dX7_checksOrder_111 : decode cX7_checksOrder 111 = .ok (.ifCond .eq 51, 3) := by decide +kernel
theorem dX7_checksOrder_114 : decode cX7_checksOrder 114 = .ok (.iload 9, 2) := by decide +kernel
theorem dX7_checksOrder_116 : decode cX7_checksOrder 116 = .ok (.ifCond .eq 46, 3) := by decide +kernel
theorem dX7_checksOrder_119 : decode cX7_checksOrder 119 = .ok (.iload 4, 2) := by decide +kernel
theorem dX7_checksOrder_121 : decode cX7_checksOrder 121 = .ok (.i2l, 1) := by decide +kernel
theorem dX7_checksOrder_122 : decode cX7_checksOrder 122 = .ok (.aload_n 0, 1) := by decide +kernel
theorem dX7_checksOrder_123 : decode cX7_checksOrder 123 = .ok (.invokevirtual 66, 3) := by decide +kernel
theorem dX7_checksOrder_126 : decode cX7_checksOrder 126 = .ok (.i2l, 1) := by decide +kernel
theorem dX7_checksOrder_127 : decode cX7_checksOrder 127 = .ok (.ldc2_w 73, 3) := by decide +kernel
theorem dX7_checksOrder_130 : decode cX7_checksOrder 130 = .ok (.invokestatic 47, 3) := by decide +kernel
theorem dX7_checksOrder_133 : decode cX7_checksOrder 133 = .ok (.ifCond .eq 29, 3) := by decide +kernel
theorem dX7_checksOrder_136 : decode cX7_checksOrder 136 = .ok (.iload 5, 2) := by decide +kernel
theorem dX7_checksOrder_138 : decode cX7_checksOrder 138 = .ok (.i2l, 1) := by decide +kernel
theorem dX7_checksOrder_139 : decode cX7_checksOrder 139 = .ok (.lconst 0, 1) := by decide +kernel
theorem dX7_checksOrder_140 : decode cX7_checksOrder 140 = .ok (.ldc2_w 184, 3) := by decide +kernel
theorem dX7_checksOrder_143 : decode cX7_checksOrder 143 = .ok (.invokestatic 47, 3) := by decide +kernel
theorem dX7_checksOrder_146 : decode cX7_checksOrder 146 = .ok (.ifCond .eq 16, 3) := by decide +kernel
theorem dX7_checksOrder_149 : decode cX7_checksOrder 149 = .ok (.iload 6, 2) := by decide +kernel
theorem dX7_checksOrder_151 : decode cX7_checksOrder 151 = .ok (.i2l, 1) := by decide +kernel
theorem dX7_checksOrder_152 : decode cX7_checksOrder 152 = .ok (.lconst 0, 1) := by decide +kernel
theorem dX7_checksOrder_153 : decode cX7_checksOrder 153 = .ok (.ldc2_w 176, 3) := by decide +kernel
theorem dX7_checksOrder_156 : decode cX7_checksOrder 156 = .ok (.invokestatic 47, 3) := by decide +kernel
theorem dX7_checksOrder_159 : decode cX7_checksOrder 159 = .ok (.ifCond .ne 6, 3) := by decide +kernel
theorem dX7_checksOrder_162 : decode cX7_checksOrder 162 = .ok (.bipush (-2), 2) := by decide +kernel
theorem dX7_checksOrder_164 : decode cX7_checksOrder 164 = .ok (.ireturn, 1) := by decide +kernel
theorem dX7_checksOrder_165 : decode cX7_checksOrder 165 = .ok (.aload_n 0, 1) := by decide +kernel
theorem dX7_checksOrder_166 : decode cX7_checksOrder 166 = .ok (.getfield 7, 3) := by decide +kernel
theorem dX7_checksOrder_169 : decode cX7_checksOrder 169 = .ok (.iconst 2, 1) := by decide +kernel
theorem dX7_checksOrder_170 : decode cX7_checksOrder 170 = .ok (.laload, 1) := by decide +kernel
theorem dX7_checksOrder_171 : decode cX7_checksOrder 171 = .ok (.ldc2_w 186, 3) := by decide +kernel
theorem dX7_checksOrder_174 : decode cX7_checksOrder 174 = .ok (.lcmp, 1) := by decide +kernel
theorem dX7_checksOrder_175 : decode cX7_checksOrder 175 = .ok (.ifCond .ne 8, 3) := by decide +kernel
theorem dX7_checksOrder_178 : decode cX7_checksOrder 178 = .ok (.bipush (-4), 2) := by decide +kernel
theorem dX7_checksOrder_180 : decode cX7_checksOrder 180 = .ok (.goto 4, 3) := by decide +kernel
theorem dX7_checksOrder_183 : decode cX7_checksOrder 183 = .ok (.iconst 0, 1) := by decide +kernel
theorem dX7_checksOrder_184 : decode cX7_checksOrder 184 = .ok (.ireturn, 1) := by decide +kernel
theorem dX7_makes_0 : decode cX7_makes 0 = .ok (.aload_n 0, 1) := by decide +kernel
theorem dX7_makes_1 : decode cX7_makes 1 = .ok (.iconst 2, 1) := by decide +kernel
theorem dX7_makes_2 : decode cX7_makes 2 = .ok (.invokevirtual 43, 3) := by decide +kernel
theorem dX7_makes_5 : decode cX7_makes 5 = .ok (.istore 7, 2) := by decide +kernel
theorem dX7_makes_7 : decode cX7_makes 7 = .ok (.aload_n 0, 1) := by decide +kernel
theorem dX7_makes_8 : decode cX7_makes 8 = .ok (.getfield 7, 3) := by decide +kernel
theorem dX7_makes_11 : decode cX7_makes 11 = .ok (.iconst 2, 1) := by decide +kernel
theorem dX7_makes_12 : decode cX7_makes 12 = .ok (.dup2, 1) := by decide +kernel
theorem dX7_makes_13 : decode cX7_makes 13 = .ok (.laload, 1) := by decide +kernel
theorem dX7_makes_14 : decode cX7_makes 14 = .ok (.lconst 1, 1) := by decide +kernel
theorem dX7_makes_15 : decode cX7_makes 15 = .ok (.ladd, 1) := by decide +kernel
theorem dX7_makes_16 : decode cX7_makes 16 = .ok (.lastore, 1) := by decide +kernel
theorem dX7_makes_17 : decode cX7_makes 17 = .ok (.iconst 0, 1) := by decide +kernel
theorem dX7_makes_18 : decode cX7_makes 18 = .ok (.istore 8, 2) := by decide +kernel
theorem dX7_makes_20 : decode cX7_makes 20 = .ok (.iload 8, 2) := by decide +kernel
theorem dX7_makes_22 : decode cX7_makes 22 = .ok (.bipush 16, 2) := by decide +kernel
theorem dX7_makes_24 : decode cX7_makes 24 = .ok (.if_icmp .ge 18, 3) := by decide +kernel
theorem dX7_makes_27 : decode cX7_makes 27 = .ok (.aload_n 0, 1) := by decide +kernel
theorem dX7_makes_28 : decode cX7_makes 28 = .ok (.iload 7, 2) := by decide +kernel
theorem dX7_makes_30 : decode cX7_makes 30 = .ok (.iload 8, 2) := by decide +kernel
theorem dX7_makes_32 : decode cX7_makes 32 = .ok (.iconst 0, 1) := by decide +kernel
theorem dX7_makes_33 : decode cX7_makes 33 = .ok (.invokevirtual 169, 3) := by decide +kernel
theorem dX7_makes_36 : decode cX7_makes 36 = .ok (.iinc 8 1, 3) := by decide +kernel
theorem dX7_makes_39 : decode cX7_makes 39 = .ok (.goto (-19), 3) := by decide +kernel
theorem dX7_makes_42 : decode cX7_makes 42 = .ok (.aload_n 0, 1) := by decide +kernel
theorem dX7_makes_43 : decode cX7_makes 43 = .ok (.iload 7, 2) := by decide +kernel
theorem dX7_makes_45 : decode cX7_makes 45 = .ok (.iconst 0, 1) := by decide +kernel
theorem dX7_makes_46 : decode cX7_makes 46 = .ok (.iload_n 1, 1) := by decide +kernel
theorem dX7_makes_47 : decode cX7_makes 47 = .ok (.bipush 9, 2) := by decide +kernel
theorem dX7_makes_49 : decode cX7_makes 49 = .ok (.idiv, 1) := by decide +kernel
theorem dX7_makes_50 : decode cX7_makes 50 = .ok (.invokevirtual 169, 3) := by decide +kernel
theorem dX7_makes_53 : decode cX7_makes 53 = .ok (.aload_n 0, 1) := by decide +kernel
theorem dX7_makes_54 : decode cX7_makes 54 = .ok (.iload 7, 2) := by decide +kernel
theorem dX7_makes_56 : decode cX7_makes 56 = .ok (.iconst 1, 1) := by decide +kernel
theorem dX7_makes_57 : decode cX7_makes 57 = .ok (.iload_n 1, 1) := by decide +kernel
theorem dX7_makes_58 : decode cX7_makes 58 = .ok (.bipush 9, 2) := by decide +kernel
theorem dX7_makes_60 : decode cX7_makes 60 = .ok (.irem, 1) := by decide +kernel
theorem dX7_makes_61 : decode cX7_makes 61 = .ok (.invokevirtual 169, 3) := by decide +kernel
theorem dX7_makes_64 : decode cX7_makes 64 = .ok (.aload_n 0, 1) := by decide +kernel
theorem dX7_makes_65 : decode cX7_makes 65 = .ok (.iload 7, 2) := by decide +kernel
theorem dX7_makes_67 : decode cX7_makes 67 = .ok (.iconst 2, 1) := by decide +kernel
theorem dX7_makes_68 : decode cX7_makes 68 = .ok (.iload_n 2, 1) := by decide +kernel
theorem dX7_makes_69 : decode cX7_makes 69 = .ok (.invokevirtual 169, 3) := by decide +kernel
theorem dX7_makes_72 : decode cX7_makes 72 = .ok (.aload_n 0, 1) := by decide +kernel
theorem dX7_makes_73 : decode cX7_makes 73 = .ok (.iload 7, 2) := by decide +kernel
theorem dX7_makes_75 : decode cX7_makes 75 = .ok (.iconst 3, 1) := by decide +kernel
theorem dX7_makes_76 : decode cX7_makes 76 = .ok (.iload_n 3, 1) := by decide +kernel
theorem dX7_makes_77 : decode cX7_makes 77 = .ok (.sipush 10000, 3) := by decide +kernel
theorem dX7_makes_80 : decode cX7_makes 80 = .ok (.idiv, 1) := by decide +kernel
theorem dX7_makes_81 : decode cX7_makes 81 = .ok (.invokevirtual 169, 3) := by decide +kernel
theorem dX7_makes_84 : decode cX7_makes 84 = .ok (.aload_n 0, 1) := by decide +kernel
theorem dX7_makes_85 : decode cX7_makes 85 = .ok (.iload 7, 2) := by decide +kernel
theorem dX7_makes_87 : decode cX7_makes 87 = .ok (.iconst 4, 1) := by decide +kernel
theorem dX7_makes_88 : decode cX7_makes 88 = .ok (.iload_n 3, 1) := by decide +kernel
theorem dX7_makes_89 : decode cX7_makes 89 = .ok (.bipush 100, 2) := by decide +kernel
theorem dX7_makes_91 : decode cX7_makes 91 = .ok (.idiv, 1) := by decide +kernel
theorem dX7_makes_92 : decode cX7_makes 92 = .ok (.bipush 100, 2) := by decide +kernel
theorem dX7_makes_94 : decode cX7_makes 94 = .ok (.irem, 1) := by decide +kernel
theorem dX7_makes_95 : decode cX7_makes 95 = .ok (.invokevirtual 169, 3) := by decide +kernel
theorem dX7_makes_98 : decode cX7_makes 98 = .ok (.aload_n 0, 1) := by decide +kernel
theorem dX7_makes_99 : decode cX7_makes 99 = .ok (.iload 7, 2) := by decide +kernel
theorem dX7_makes_101 : decode cX7_makes 101 = .ok (.iconst 5, 1) := by decide +kernel
theorem dX7_makes_102 : decode cX7_makes 102 = .ok (.iload_n 3, 1) := by decide +kernel
theorem dX7_makes_103 : decode cX7_makes 103 = .ok (.bipush 100, 2) := by decide +kernel
theorem dX7_makes_105 : decode cX7_makes 105 = .ok (.irem, 1) := by decide +kernel
theorem dX7_makes_106 : decode cX7_makes 106 = .ok (.invokevirtual 169, 3) := by decide +kernel
theorem dX7_makes_109 : decode cX7_makes 109 = .ok (.aload_n 0, 1) := by decide +kernel
theorem dX7_makes_110 : decode cX7_makes 110 = .ok (.iload 7, 2) := by decide +kernel
theorem dX7_makes_112 : decode cX7_makes 112 = .ok (.bipush 6, 2) := by decide +kernel
theorem dX7_makes_114 : decode cX7_makes 114 = .ok (.iload 4, 2) := by decide +kernel
theorem dX7_makes_116 : decode cX7_makes 116 = .ok (.invokevirtual 169, 3) := by decide +kernel
theorem dX7_makes_119 : decode cX7_makes 119 = .ok (.aload_n 0, 1) := by decide +kernel
theorem dX7_makes_120 : decode cX7_makes 120 = .ok (.iload 7, 2) := by decide +kernel
theorem dX7_makes_122 : decode cX7_makes 122 = .ok (.bipush 7, 2) := by decide +kernel
theorem dX7_makes_124 : decode cX7_makes 124 = .ok (.iload 5, 2) := by decide +kernel
theorem dX7_makes_126 : decode cX7_makes 126 = .ok (.bipush 10, 2) := by decide +kernel
theorem dX7_makes_128 : decode cX7_makes 128 = .ok (.idiv, 1) := by decide +kernel
theorem dX7_makes_129 : decode cX7_makes 129 = .ok (.invokevirtual 169, 3) := by decide +kernel
theorem dX7_makes_132 : decode cX7_makes 132 = .ok (.aload_n 0, 1) := by decide +kernel
theorem dX7_makes_133 : decode cX7_makes 133 = .ok (.iload 7, 2) := by decide +kernel
theorem dX7_makes_135 : decode cX7_makes 135 = .ok (.bipush 8, 2) := by decide +kernel
theorem dX7_makes_137 : decode cX7_makes 137 = .ok (.iload 5, 2) := by decide +kernel
theorem dX7_makes_139 : decode cX7_makes 139 = .ok (.bipush 10, 2) := by decide +kernel
theorem dX7_makes_141 : decode cX7_makes 141 = .ok (.irem, 1) := by decide +kernel
theorem dX7_makes_142 : decode cX7_makes 142 = .ok (.invokevirtual 169, 3) := by decide +kernel
theorem dX7_makes_145 : decode cX7_makes 145 = .ok (.aload_n 0, 1) := by decide +kernel
theorem dX7_makes_146 : decode cX7_makes 146 = .ok (.iload 7, 2) := by decide +kernel
theorem dX7_makes_148 : decode cX7_makes 148 = .ok (.bipush 9, 2) := by decide +kernel
theorem dX7_makes_150 : decode cX7_makes 150 = .ok (.iload 6, 2) := by decide +kernel
theorem dX7_makes_152 : decode cX7_makes 152 = .ok (.invokevirtual 169, 3) := by decide +kernel
theorem dX7_makes_155 : decode cX7_makes 155 = .ok (.aload_n 0, 1) := by decide +kernel
theorem dX7_makes_156 : decode cX7_makes 156 = .ok (.iload 7, 2) := by decide +kernel
theorem dX7_makes_158 : decode cX7_makes 158 = .ok (.bipush 15, 2) := by decide +kernel
theorem dX7_makes_160 : decode cX7_makes 160 = .ok (.iload 6, 2) := by decide +kernel
theorem dX7_makes_162 : decode cX7_makes 162 = .ok (.ifCond .ne 7, 3) := by decide +kernel
theorem dX7_makes_165 : decode cX7_makes 165 = .ok (.iconst 1, 1) := by decide +kernel
theorem dX7_makes_166 : decode cX7_makes 166 = .ok (.goto 4, 3) := by decide +kernel
theorem dX7_makes_169 : decode cX7_makes 169 = .ok (.iconst 0, 1) := by decide +kernel
theorem dX7_makes_170 : decode cX7_makes 170 = .ok (.invokevirtual 169, 3) := by decide +kernel
theorem dX7_makes_173 : decode cX7_makes 173 = .ok (.aload_n 0, 1) := by decide +kernel
theorem dX7_makes_174 : decode cX7_makes 174 = .ok (.iload 7, 2) := by decide +kernel
theorem dX7_makes_176 : decode cX7_makes 176 = .ok (.invokevirtual 188, 3) := by decide +kernel
theorem dX7_makes_179 : decode cX7_makes 179 = .ok (.pop, 1) := by decide +kernel
theorem dX7_makes_180 : decode cX7_makes 180 = .ok (.iload 7, 2) := by decide +kernel
theorem dX7_makes_182 : decode cX7_makes 182 = .ok (.ireturn, 1) := by decide +kernel
theorem dX7_order_0 : decode cX7_order 0 = .ok (.aload_n 0, 1) := by decide +kernel
theorem dX7_order_1 : decode cX7_order 1 = .ok (.iload_n 1, 1) := by decide +kernel
theorem dX7_order_2 : decode cX7_order 2 = .ok (.iload_n 2, 1) := by decide +kernel
theorem dX7_order_3 : decode cX7_order 3 = .ok (.iload_n 3, 1) := by decide +kernel
theorem dX7_order_4 : decode cX7_order 4 = .ok (.iload 4, 2) := by decide +kernel
theorem dX7_order_6 : decode cX7_order 6 = .ok (.iload 5, 2) := by decide +kernel
theorem dX7_order_8 : decode cX7_order 8 = .ok (.iload 6, 2) := by decide +kernel
theorem dX7_order_10 : decode cX7_order 10 = .ok (.invokevirtual 191, 3) := by decide +kernel
theorem dX7_order_13 : decode cX7_order 13 = .ok (.istore 7, 2) := by decide +kernel
theorem dX7_order_15 : decode cX7_order 15 = .ok (.iload 7, 2) := by decide +kernel
theorem dX7_order_17 : decode cX7_order 17 = .ok (.ifCond .eq 6, 3) := by decide +kernel
theorem dX7_order_20 : decode cX7_order 20 = .ok (.iload 7, 2) := by decide +kernel
theorem dX7_order_22 : decode cX7_order 22 = .ok (.ireturn, 1) := by decide +kernel
theorem dX7_order_23 : decode cX7_order 23 = .ok (.aload_n 0, 1) := by decide +kernel
theorem dX7_order_24 : decode cX7_order 24 = .ok (.invokevirtual 70, 3) := by decide +kernel
theorem dX7_order_27 : decode cX7_order 27 = .ok (.aload_n 0, 1) := by decide +kernel
theorem dX7_order_28 : decode cX7_order 28 = .ok (.iload_n 1, 1) := by decide +kernel
theorem dX7_order_29 : decode cX7_order 29 = .ok (.iload_n 2, 1) := by decide +kernel
theorem dX7_order_30 : decode cX7_order 30 = .ok (.iload_n 3, 1) := by decide +kernel
theorem dX7_order_31 : decode cX7_order 31 = .ok (.iload 4, 2) := by decide +kernel
theorem dX7_order_33 : decode cX7_order 33 = .ok (.iload 5, 2) := by decide +kernel
theorem dX7_order_35 : decode cX7_order 35 = .ok (.iload 6, 2) := by decide +kernel
theorem dX7_order_37 : decode cX7_order 37 = .ok (.invokevirtual 195, 3) := by decide +kernel
theorem dX7_order_40 : decode cX7_order 40 = .ok (.ireturn, 1) := by decide +kernel
theorem dX7_change_0 : decode cX7_change 0 = .ok (.aload_n 0, 1) := by decide +kernel
theorem dX7_change_1 : decode cX7_change 1 = .ok (.iload_n 1, 1) := by decide +kernel
theorem dX7_change_2 : decode cX7_change 2 = .ok (.invokevirtual 173, 3) := by decide +kernel
theorem dX7_change_5 : decode cX7_change 5 = .ok (.ifCond .ne 5, 3) := by decide +kernel
theorem dX7_change_8 : decode cX7_change 8 = .ok (.iconst (-1), 1) := by decide +kernel
theorem dX7_change_9 : decode cX7_change 9 = .ok (.ireturn, 1) := by decide +kernel
theorem dX7_change_10 : decode cX7_change 10 = .ok (.iload_n 2, 1) := by decide +kernel
theorem dX7_change_11 : decode cX7_change 11 = .ok (.i2l, 1) := by decide +kernel
theorem dX7_change_12 : decode cX7_change 12 = .ok (.lconst 1, 1) := by decide +kernel
theorem dX7_change_13 : decode cX7_change 13 = .ok (.ldc2_w 123, 3) := by decide +kernel
theorem dX7_change_16 : decode cX7_change 16 = .ok (.invokestatic 47, 3) := by decide +kernel
theorem dX7_change_19 : decode cX7_change 19 = .ok (.ifCond .eq 15, 3) := by decide +kernel
theorem dX7_change_22 : decode cX7_change 22 = .ok (.iload_n 3, 1) := by decide +kernel
theorem dX7_change_23 : decode cX7_change 23 = .ok (.i2l, 1) := by decide +kernel
theorem dX7_change_24 : decode cX7_change 24 = .ok (.lconst 0, 1) := by decide +kernel
theorem dX7_change_25 : decode cX7_change 25 = .ok (.ldc2_w 109, 3) := by decide +kernel
theorem dX7_change_28 : decode cX7_change 28 = .ok (.invokestatic 47, 3) := by decide +kernel
theorem dX7_change_31 : decode cX7_change 31 = .ok (.ifCond .ne 6, 3) := by decide +kernel
theorem dX7_change_34 : decode cX7_change 34 = .ok (.bipush (-2), 2) := by decide +kernel
theorem dX7_change_36 : decode cX7_change 36 = .ok (.ireturn, 1) := by decide +kernel
theorem dX7_change_37 : decode cX7_change 37 = .ok (.aload_n 0, 1) := by decide +kernel
theorem dX7_change_38 : decode cX7_change 38 = .ok (.iload_n 1, 1) := by decide +kernel
theorem dX7_change_39 : decode cX7_change 39 = .ok (.bipush 10, 2) := by decide +kernel
theorem dX7_change_41 : decode cX7_change 41 = .ok (.invokevirtual 151, 3) := by decide +kernel
theorem dX7_change_44 : decode cX7_change 44 = .ok (.iconst 2, 1) := by decide +kernel
theorem dX7_change_45 : decode cX7_change 45 = .ok (.if_icmp .ne 6, 3) := by decide +kernel
theorem dX7_change_48 : decode cX7_change 48 = .ok (.bipush (-5), 2) := by decide +kernel
theorem dX7_change_50 : decode cX7_change 50 = .ok (.ireturn, 1) := by decide +kernel
theorem dX7_change_51 : decode cX7_change 51 = .ok (.aload_n 0, 1) := by decide +kernel
theorem dX7_change_52 : decode cX7_change 52 = .ok (.invokevirtual 70, 3) := by decide +kernel
theorem dX7_change_55 : decode cX7_change 55 = .ok (.aload_n 0, 1) := by decide +kernel
theorem dX7_change_56 : decode cX7_change 56 = .ok (.iload_n 1, 1) := by decide +kernel
theorem dX7_change_57 : decode cX7_change 57 = .ok (.iconst 2, 1) := by decide +kernel
theorem dX7_change_58 : decode cX7_change 58 = .ok (.invokevirtual 151, 3) := by decide +kernel
theorem dX7_change_61 : decode cX7_change 61 = .ok (.istore 4, 2) := by decide +kernel
theorem dX7_change_63 : decode cX7_change 63 = .ok (.aload_n 0, 1) := by decide +kernel
theorem dX7_change_64 : decode cX7_change 64 = .ok (.iload_n 1, 1) := by decide +kernel
theorem dX7_change_65 : decode cX7_change 65 = .ok (.iconst 2, 1) := by decide +kernel
theorem dX7_change_66 : decode cX7_change 66 = .ok (.iload_n 2, 1) := by decide +kernel
theorem dX7_change_67 : decode cX7_change 67 = .ok (.invokevirtual 169, 3) := by decide +kernel
theorem dX7_change_70 : decode cX7_change 70 = .ok (.aload_n 0, 1) := by decide +kernel
theorem dX7_change_71 : decode cX7_change 71 = .ok (.iload_n 1, 1) := by decide +kernel
theorem dX7_change_72 : decode cX7_change 72 = .ok (.bipush 8, 2) := by decide +kernel
theorem dX7_change_74 : decode cX7_change 74 = .ok (.iload_n 3, 1) := by decide +kernel
theorem dX7_change_75 : decode cX7_change 75 = .ok (.invokevirtual 169, 3) := by decide +kernel
theorem dX7_change_78 : decode cX7_change 78 = .ok (.iload 4, 2) := by decide +kernel
theorem dX7_change_80 : decode cX7_change 80 = .ok (.ireturn, 1) := by decide +kernel
theorem dX7_partOf_0 : decode cX7_partOf 0 = .ok (.aload_n 0, 1) := by decide +kernel
theorem dX7_partOf_1 : decode cX7_partOf 1 = .ok (.getfield 17, 3) := by decide +kernel
theorem dX7_partOf_4 : decode cX7_partOf 4 = .ok (.iload_n 1, 1) := by decide +kernel
theorem dX7_partOf_5 : decode cX7_partOf 5 = .ok (.laload, 1) := by decide +kernel
theorem dX7_partOf_6 : decode cX7_partOf 6 = .ok (.lstore_n 3, 1) := by decide +kernel
theorem dX7_partOf_7 : decode cX7_partOf 7 = .ok (.iload_n 2, 1) := by decide +kernel
theorem dX7_partOf_8 : decode cX7_partOf 8 = .ok (.tableswitch 87 0 4 #[36, 43, 54, 65, 76], 36) := by decide +kernel
theorem dX7_partOf_44 : decode cX7_partOf 44 = .ok (.lload_n 3, 1) := by decide +kernel
theorem dX7_partOf_45 : decode cX7_partOf 45 = .ok (.ldc2_w 186, 3) := by decide +kernel
theorem dX7_partOf_48 : decode cX7_partOf 48 = .ok (.lrem, 1) := by decide +kernel
theorem dX7_partOf_49 : decode cX7_partOf 49 = .ok (.l2i, 1) := by decide +kernel
theorem dX7_partOf_50 : decode cX7_partOf 50 = .ok (.ireturn, 1) := by decide +kernel
theorem dX7_partOf_51 : decode cX7_partOf 51 = .ok (.lload_n 3, 1) := by decide +kernel
theorem dX7_partOf_52 : decode cX7_partOf 52 = .ok (.ldc2_w 186, 3) := by decide +kernel
theorem dX7_partOf_55 : decode cX7_partOf 55 = .ok (.ldiv, 1) := by decide +kernel
theorem dX7_partOf_56 : decode cX7_partOf 56 = .ok (.ldc2_w 198, 3) := by decide +kernel
theorem dX7_partOf_59 : decode cX7_partOf 59 = .ok (.lrem, 1) := by decide +kernel
theorem dX7_partOf_60 : decode cX7_partOf 60 = .ok (.l2i, 1) := by decide +kernel
theorem dX7_partOf_61 : decode cX7_partOf 61 = .ok (.ireturn, 1) := by decide +kernel
theorem dX7_partOf_62 : decode cX7_partOf 62 = .ok (.lload_n 3, 1) := by decide +kernel
theorem dX7_partOf_63 : decode cX7_partOf 63 = .ok (.ldc2_w 200, 3) := by decide +kernel
theorem dX7_partOf_66 : decode cX7_partOf 66 = .ok (.ldiv, 1) := by decide +kernel
theorem dX7_partOf_67 : decode cX7_partOf 67 = .ok (.ldc2_w 202, 3) := by decide +kernel
theorem dX7_partOf_70 : decode cX7_partOf 70 = .ok (.lrem, 1) := by decide +kernel
theorem dX7_partOf_71 : decode cX7_partOf 71 = .ok (.l2i, 1) := by decide +kernel
theorem dX7_partOf_72 : decode cX7_partOf 72 = .ok (.ireturn, 1) := by decide +kernel
theorem dX7_partOf_73 : decode cX7_partOf 73 = .ok (.lload_n 3, 1) := by decide +kernel
theorem dX7_partOf_74 : decode cX7_partOf 74 = .ok (.ldc2_w 204, 3) := by decide +kernel
theorem dX7_partOf_77 : decode cX7_partOf 77 = .ok (.ldiv, 1) := by decide +kernel
theorem dX7_partOf_78 : decode cX7_partOf 78 = .ok (.ldc2_w 202, 3) := by decide +kernel
theorem dX7_partOf_81 : decode cX7_partOf 81 = .ok (.lrem, 1) := by decide +kernel
theorem dX7_partOf_82 : decode cX7_partOf 82 = .ok (.l2i, 1) := by decide +kernel
theorem dX7_partOf_83 : decode cX7_partOf 83 = .ok (.ireturn, 1) := by decide +kernel
theorem dX7_partOf_84 : decode cX7_partOf 84 = .ok (.lload_n 3, 1) := by decide +kernel
theorem dX7_partOf_85 : decode cX7_partOf 85 = .ok (.ldc2_w 206, 3) := by decide +kernel
theorem dX7_partOf_88 : decode cX7_partOf 88 = .ok (.ldiv, 1) := by decide +kernel
theorem dX7_partOf_89 : decode cX7_partOf 89 = .ok (.ldc2_w 186, 3) := by decide +kernel
theorem dX7_partOf_92 : decode cX7_partOf 92 = .ok (.lrem, 1) := by decide +kernel
theorem dX7_partOf_93 : decode cX7_partOf 93 = .ok (.l2i, 1) := by decide +kernel
theorem dX7_partOf_94 : decode cX7_partOf 94 = .ok (.ireturn, 1) := by decide +kernel
theorem dX7_partOf_95 : decode cX7_partOf 95 = .ok (.lload_n 3, 1) := by decide +kernel
theorem dX7_partOf_96 : decode cX7_partOf 96 = .ok (.ldc2_w 208, 3) := by decide +kernel
theorem dX7_partOf_99 : decode cX7_partOf 99 = .ok (.ldiv, 1) := by decide +kernel
theorem dX7_partOf_100 : decode cX7_partOf 100 = .ok (.l2i, 1) := by decide +kernel
theorem dX7_partOf_101 : decode cX7_partOf 101 = .ok (.ireturn, 1) := by decide +kernel
theorem dX7_waitsOf_0 : decode cX7_waitsOf 0 = .ok (.iconst 0, 1) := by decide +kernel
theorem dX7_waitsOf_1 : decode cX7_waitsOf 1 = .ok (.istore_n 2, 1) := by decide +kernel
theorem dX7_waitsOf_2 : decode cX7_waitsOf 2 = .ok (.iconst 0, 1) := by decide +kernel
theorem dX7_waitsOf_3 : decode cX7_waitsOf 3 = .ok (.istore_n 3, 1) := by decide +kernel
theorem dX7_waitsOf_4 : decode cX7_waitsOf 4 = .ok (.iload_n 3, 1) := by decide +kernel
theorem dX7_waitsOf_5 : decode cX7_waitsOf 5 = .ok (.i2l, 1) := by decide +kernel
theorem dX7_waitsOf_6 : decode cX7_waitsOf 6 = .ok (.aload_n 0, 1) := by decide +kernel
theorem dX7_waitsOf_7 : decode cX7_waitsOf 7 = .ok (.getfield 7, 3) := by decide +kernel
theorem dX7_waitsOf_10 : decode cX7_waitsOf 10 = .ok (.iconst 4, 1) := by decide +kernel
theorem dX7_waitsOf_11 : decode cX7_waitsOf 11 = .ok (.laload, 1) := by decide +kernel
theorem dX7_waitsOf_12 : decode cX7_waitsOf 12 = .ok (.lcmp, 1) := by decide +kernel
theorem dX7_waitsOf_13 : decode cX7_waitsOf 13 = .ok (.ifCond .ge 27, 3) := by decide +kernel
theorem dX7_waitsOf_16 : decode cX7_waitsOf 16 = .ok (.iload_n 2, 1) := by decide +kernel
theorem dX7_waitsOf_17 : decode cX7_waitsOf 17 = .ok (.aload_n 0, 1) := by decide +kernel
theorem dX7_waitsOf_18 : decode cX7_waitsOf 18 = .ok (.iload_n 3, 1) := by decide +kernel
theorem dX7_waitsOf_19 : decode cX7_waitsOf 19 = .ok (.iconst 0, 1) := by decide +kernel
theorem dX7_waitsOf_20 : decode cX7_waitsOf 20 = .ok (.invokevirtual 210, 3) := by decide +kernel
theorem dX7_waitsOf_23 : decode cX7_waitsOf 23 = .ok (.iload_n 1, 1) := by decide +kernel
theorem dX7_waitsOf_24 : decode cX7_waitsOf 24 = .ok (.if_icmp .ne 7, 3) := by decide +kernel
theorem dX7_waitsOf_27 : decode cX7_waitsOf 27 = .ok (.iconst 1, 1) := by decide +kernel
theorem dX7_waitsOf_28 : decode cX7_waitsOf 28 = .ok (.goto 4, 3) := by decide +kernel
theorem dX7_waitsOf_31 : decode cX7_waitsOf 31 = .ok (.iconst 0, 1) := by decide +kernel
theorem dX7_waitsOf_32 : decode cX7_waitsOf 32 = .ok (.iadd, 1) := by decide +kernel
theorem dX7_waitsOf_33 : decode cX7_waitsOf 33 = .ok (.istore_n 2, 1) := by decide +kernel
theorem dX7_waitsOf_34 : decode cX7_waitsOf 34 = .ok (.iinc 3 1, 3) := by decide +kernel
theorem dX7_waitsOf_37 : decode cX7_waitsOf 37 = .ok (.goto (-33), 3) := by decide +kernel
theorem dX7_waitsOf_40 : decode cX7_waitsOf 40 = .ok (.iload_n 2, 1) := by decide +kernel
theorem dX7_waitsOf_41 : decode cX7_waitsOf 41 = .ok (.ireturn, 1) := by decide +kernel
theorem dX7_checksState_0 : decode cX7_checksState 0 = .ok (.aload_n 0, 1) := by decide +kernel
theorem dX7_checksState_1 : decode cX7_checksState 1 = .ok (.iload_n 1, 1) := by decide +kernel
theorem dX7_checksState_2 : decode cX7_checksState 2 = .ok (.invokevirtual 173, 3) := by decide +kernel
theorem dX7_checksState_5 : decode cX7_checksState 5 = .ok (.ifCond .ne 5, 3) := by decide +kernel
theorem dX7_checksState_8 : decode cX7_checksState 8 = .ok (.iconst (-1), 1) := by decide +kernel
theorem dX7_checksState_9 : decode cX7_checksState 9 = .ok (.ireturn, 1) := by decide +kernel
theorem dX7_checksState_10 : decode cX7_checksState 10 = .ok (.aload_n 0, 1) := by decide +kernel
theorem dX7_checksState_11 : decode cX7_checksState 11 = .ok (.iload_n 1, 1) := by decide +kernel
theorem dX7_checksState_12 : decode cX7_checksState 12 = .ok (.bipush 10, 2) := by decide +kernel
theorem dX7_checksState_14 : decode cX7_checksState 14 = .ok (.invokevirtual 151, 3) := by decide +kernel
theorem dX7_checksState_17 : decode cX7_checksState 17 = .ok (.iload_n 2, 1) := by decide +kernel
theorem dX7_checksState_18 : decode cX7_checksState 18 = .ok (.if_icmp .ne 7, 3) := by decide +kernel
theorem dX7_checksState_21 : decode cX7_checksState 21 = .ok (.iconst 0, 1) := by decide +kernel
theorem dX7_checksState_22 : decode cX7_checksState 22 = .ok (.goto 5, 3) := by decide +kernel
theorem dX7_checksState_25 : decode cX7_checksState 25 = .ok (.bipush (-5), 2) := by decide +kernel
theorem dX7_checksState_27 : decode cX7_checksState 27 = .ok (.ireturn, 1) := by decide +kernel
theorem dX7_stops_0 : decode cX7_stops 0 = .ok (.aload_n 0, 1) := by decide +kernel
theorem dX7_stops_1 : decode cX7_stops 1 = .ok (.iload_n 1, 1) := by decide +kernel
theorem dX7_stops_2 : decode cX7_stops 2 = .ok (.bipush 10, 2) := by decide +kernel
theorem dX7_stops_4 : decode cX7_stops 4 = .ok (.iconst 1, 1) := by decide +kernel
theorem dX7_stops_5 : decode cX7_stops 5 = .ok (.invokevirtual 169, 3) := by decide +kernel
theorem dX7_stops_8 : decode cX7_stops 8 = .ok (.aload_n 0, 1) := by decide +kernel
theorem dX7_stops_9 : decode cX7_stops 9 = .ok (.iload_n 1, 1) := by decide +kernel
theorem dX7_stops_10 : decode cX7_stops 10 = .ok (.invokevirtual 213, 3) := by decide +kernel
theorem dX7_stops_13 : decode cX7_stops 13 = .ok (.ireturn, 1) := by decide +kernel
theorem dX7_stop_0 : decode cX7_stop 0 = .ok (.aload_n 0, 1) := by decide +kernel
theorem dX7_stop_1 : decode cX7_stop 1 = .ok (.iload_n 1, 1) := by decide +kernel
theorem dX7_stop_2 : decode cX7_stop 2 = .ok (.iconst 0, 1) := by decide +kernel
theorem dX7_stop_3 : decode cX7_stop 3 = .ok (.invokevirtual 216, 3) := by decide +kernel
theorem dX7_stop_6 : decode cX7_stop 6 = .ok (.istore_n 2, 1) := by decide +kernel
theorem dX7_stop_7 : decode cX7_stop 7 = .ok (.iload_n 2, 1) := by decide +kernel
theorem dX7_stop_8 : decode cX7_stop 8 = .ok (.ifCond .eq 5, 3) := by decide +kernel
theorem dX7_stop_11 : decode cX7_stop 11 = .ok (.iload_n 2, 1) := by decide +kernel
theorem dX7_stop_12 : decode cX7_stop 12 = .ok (.ireturn, 1) := by decide +kernel
theorem dX7_stop_13 : decode cX7_stop 13 = .ok (.aload_n 0, 1) := by decide +kernel
theorem dX7_stop_14 : decode cX7_stop 14 = .ok (.invokevirtual 70, 3) := by decide +kernel
theorem dX7_stop_17 : decode cX7_stop 17 = .ok (.aload_n 0, 1) := by decide +kernel
theorem dX7_stop_18 : decode cX7_stop 18 = .ok (.iload_n 1, 1) := by decide +kernel
theorem dX7_stop_19 : decode cX7_stop 19 = .ok (.invokevirtual 219, 3) := by decide +kernel
theorem dX7_stop_22 : decode cX7_stop 22 = .ok (.ireturn, 1) := by decide +kernel
theorem dX7_goesOn_0 : decode cX7_goesOn 0 = .ok (.aload_n 0, 1) := by decide +kernel
theorem dX7_goesOn_1 : decode cX7_goesOn 1 = .ok (.iload_n 1, 1) := by decide +kernel
theorem dX7_goesOn_2 : decode cX7_goesOn 2 = .ok (.bipush 10, 2) := by decide +kernel
theorem dX7_goesOn_4 : decode cX7_goesOn 4 = .ok (.iconst 0, 1) := by decide +kernel
theorem dX7_goesOn_5 : decode cX7_goesOn 5 = .ok (.invokevirtual 169, 3) := by decide +kernel
theorem dX7_goesOn_8 : decode cX7_goesOn 8 = .ok (.aload_n 0, 1) := by decide +kernel
theorem dX7_goesOn_9 : decode cX7_goesOn 9 = .ok (.iload_n 1, 1) := by decide +kernel
theorem dX7_goesOn_10 : decode cX7_goesOn 10 = .ok (.invokevirtual 188, 3) := by decide +kernel
theorem dX7_goesOn_13 : decode cX7_goesOn 13 = .ok (.ireturn, 1) := by decide +kernel
theorem dX7_goOn_0 : decode cX7_goOn 0 = .ok (.aload_n 0, 1) := by decide +kernel
theorem dX7_goOn_1 : decode cX7_goOn 1 = .ok (.iload_n 1, 1) := by decide +kernel
theorem dX7_goOn_2 : decode cX7_goOn 2 = .ok (.iconst 1, 1) := by decide +kernel
theorem dX7_goOn_3 : decode cX7_goOn 3 = .ok (.invokevirtual 216, 3) := by decide +kernel
theorem dX7_goOn_6 : decode cX7_goOn 6 = .ok (.istore_n 2, 1) := by decide +kernel
theorem dX7_goOn_7 : decode cX7_goOn 7 = .ok (.iload_n 2, 1) := by decide +kernel
theorem dX7_goOn_8 : decode cX7_goOn 8 = .ok (.ifCond .eq 5, 3) := by decide +kernel
theorem dX7_goOn_11 : decode cX7_goOn 11 = .ok (.iload_n 2, 1) := by decide +kernel
theorem dX7_goOn_12 : decode cX7_goOn 12 = .ok (.ireturn, 1) := by decide +kernel
theorem dX7_goOn_13 : decode cX7_goOn 13 = .ok (.aload_n 0, 1) := by decide +kernel
theorem dX7_goOn_14 : decode cX7_goOn 14 = .ok (.invokevirtual 70, 3) := by decide +kernel
theorem dX7_goOn_17 : decode cX7_goOn 17 = .ok (.aload_n 0, 1) := by decide +kernel
theorem dX7_goOn_18 : decode cX7_goOn 18 = .ok (.iload_n 1, 1) := by decide +kernel
theorem dX7_goOn_19 : decode cX7_goOn 19 = .ok (.invokevirtual 222, 3) := by decide +kernel
theorem dX7_goOn_22 : decode cX7_goOn 22 = .ok (.ireturn, 1) := by decide +kernel
theorem dX7_removes_0 : decode cX7_removes 0 = .ok (.aload_n 0, 1) := by decide +kernel
theorem dX7_removes_1 : decode cX7_removes 1 = .ok (.getfield 7, 3) := by decide +kernel
theorem dX7_removes_4 : decode cX7_removes 4 = .ok (.iconst 4, 1) := by decide +kernel
theorem dX7_removes_5 : decode cX7_removes 5 = .ok (.dup2, 1) := by decide +kernel
theorem dX7_removes_6 : decode cX7_removes 6 = .ok (.laload, 1) := by decide +kernel
theorem dX7_removes_7 : decode cX7_removes 7 = .ok (.lconst 1, 1) := by decide +kernel
theorem dX7_removes_8 : decode cX7_removes 8 = .ok (.lsub, 1) := by decide +kernel
theorem dX7_removes_9 : decode cX7_removes 9 = .ok (.lastore, 1) := by decide +kernel
theorem dX7_removes_10 : decode cX7_removes 10 = .ok (.iload_n 1, 1) := by decide +kernel
theorem dX7_removes_11 : decode cX7_removes 11 = .ok (.istore_n 2, 1) := by decide +kernel
theorem dX7_removes_12 : decode cX7_removes 12 = .ok (.iload_n 2, 1) := by decide +kernel
theorem dX7_removes_13 : decode cX7_removes 13 = .ok (.i2l, 1) := by decide +kernel
theorem dX7_removes_14 : decode cX7_removes 14 = .ok (.aload_n 0, 1) := by decide +kernel
theorem dX7_removes_15 : decode cX7_removes 15 = .ok (.getfield 7, 3) := by decide +kernel
theorem dX7_removes_18 : decode cX7_removes 18 = .ok (.iconst 4, 1) := by decide +kernel
theorem dX7_removes_19 : decode cX7_removes 19 = .ok (.laload, 1) := by decide +kernel
theorem dX7_removes_20 : decode cX7_removes 20 = .ok (.lcmp, 1) := by decide +kernel
theorem dX7_removes_21 : decode cX7_removes 21 = .ok (.ifCond .ge 23, 3) := by decide +kernel
theorem dX7_removes_24 : decode cX7_removes 24 = .ok (.aload_n 0, 1) := by decide +kernel
theorem dX7_removes_25 : decode cX7_removes 25 = .ok (.getfield 17, 3) := by decide +kernel
theorem dX7_removes_28 : decode cX7_removes 28 = .ok (.iload_n 2, 1) := by decide +kernel
theorem dX7_removes_29 : decode cX7_removes 29 = .ok (.aload_n 0, 1) := by decide +kernel
theorem dX7_removes_30 : decode cX7_removes 30 = .ok (.getfield 17, 3) := by decide +kernel
theorem dX7_removes_33 : decode cX7_removes 33 = .ok (.iload_n 2, 1) := by decide +kernel
theorem dX7_removes_34 : decode cX7_removes 34 = .ok (.iconst 1, 1) := by decide +kernel
theorem dX7_removes_35 : decode cX7_removes 35 = .ok (.iadd, 1) := by decide +kernel
theorem dX7_removes_36 : decode cX7_removes 36 = .ok (.laload, 1) := by decide +kernel
theorem dX7_removes_37 : decode cX7_removes 37 = .ok (.lastore, 1) := by decide +kernel
theorem dX7_removes_38 : decode cX7_removes 38 = .ok (.iinc 2 1, 3) := by decide +kernel
theorem dX7_removes_41 : decode cX7_removes 41 = .ok (.goto (-29), 3) := by decide +kernel
theorem dX7_removes_44 : decode cX7_removes 44 = .ok (.return_, 1) := by decide +kernel
theorem dX7_misses_0 : decode cX7_misses 0 = .ok (.aload_n 0, 1) := by decide +kernel
theorem dX7_misses_1 : decode cX7_misses 1 = .ok (.getfield 7, 3) := by decide +kernel
theorem dX7_misses_4 : decode cX7_misses 4 = .ok (.bipush 121, 2) := by decide +kernel
theorem dX7_misses_6 : decode cX7_misses 6 = .ok (.bipush 16, 2) := by decide +kernel
theorem dX7_misses_8 : decode cX7_misses 8 = .ok (.aload_n 0, 1) := by decide +kernel
theorem dX7_misses_9 : decode cX7_misses 9 = .ok (.iload_n 1, 1) := by decide +kernel
theorem dX7_misses_10 : decode cX7_misses 10 = .ok (.iconst 0, 1) := by decide +kernel
theorem dX7_misses_11 : decode cX7_misses 11 = .ok (.invokevirtual 210, 3) := by decide +kernel
theorem dX7_misses_14 : decode cX7_misses 14 = .ok (.imul, 1) := by decide +kernel
theorem dX7_misses_15 : decode cX7_misses 15 = .ok (.iadd, 1) := by decide +kernel
theorem dX7_misses_16 : decode cX7_misses 16 = .ok (.bipush 12, 2) := by decide +kernel
theorem dX7_misses_18 : decode cX7_misses 18 = .ok (.iadd, 1) := by decide +kernel
theorem dX7_misses_19 : decode cX7_misses 19 = .ok (.dup2, 1) := by decide +kernel
theorem dX7_misses_20 : decode cX7_misses 20 = .ok (.laload, 1) := by decide +kernel
theorem dX7_misses_21 : decode cX7_misses 21 = .ok (.lconst 1, 1) := by decide +kernel
theorem dX7_misses_22 : decode cX7_misses 22 = .ok (.ladd, 1) := by decide +kernel
theorem dX7_misses_23 : decode cX7_misses 23 = .ok (.lastore, 1) := by decide +kernel
theorem dX7_misses_24 : decode cX7_misses 24 = .ok (.aload_n 0, 1) := by decide +kernel
theorem dX7_misses_25 : decode cX7_misses 25 = .ok (.getfield 7, 3) := by decide +kernel
theorem dX7_misses_28 : decode cX7_misses 28 = .ok (.bipush 6, 2) := by decide +kernel
theorem dX7_misses_30 : decode cX7_misses 30 = .ok (.dup2, 1) := by decide +kernel
theorem dX7_misses_31 : decode cX7_misses 31 = .ok (.laload, 1) := by decide +kernel
theorem dX7_misses_32 : decode cX7_misses 32 = .ok (.lconst 1, 1) := by decide +kernel
theorem dX7_misses_33 : decode cX7_misses 33 = .ok (.ladd, 1) := by decide +kernel
theorem dX7_misses_34 : decode cX7_misses 34 = .ok (.lastore, 1) := by decide +kernel
theorem dX7_misses_35 : decode cX7_misses 35 = .ok (.aload_n 0, 1) := by decide +kernel
theorem dX7_misses_36 : decode cX7_misses 36 = .ok (.iload_n 1, 1) := by decide +kernel
theorem dX7_misses_37 : decode cX7_misses 37 = .ok (.invokevirtual 225, 3) := by decide +kernel
theorem dX7_misses_40 : decode cX7_misses 40 = .ok (.return_, 1) := by decide +kernel
theorem dX7_giveUp_0 : decode cX7_giveUp 0 = .ok (.iload_n 1, 1) := by decide +kernel
theorem dX7_giveUp_1 : decode cX7_giveUp 1 = .ok (.i2l, 1) := by decide +kernel
theorem dX7_giveUp_2 : decode cX7_giveUp 2 = .ok (.lconst 0, 1) := by decide +kernel
theorem dX7_giveUp_3 : decode cX7_giveUp 3 = .ok (.aload_n 0, 1) := by decide +kernel
theorem dX7_giveUp_4 : decode cX7_giveUp 4 = .ok (.getfield 7, 3) := by decide +kernel
theorem dX7_giveUp_7 : decode cX7_giveUp 7 = .ok (.iconst 4, 1) := by decide +kernel
theorem dX7_giveUp_8 : decode cX7_giveUp 8 = .ok (.laload, 1) := by decide +kernel
theorem dX7_giveUp_9 : decode cX7_giveUp 9 = .ok (.lconst 1, 1) := by decide +kernel
theorem dX7_giveUp_10 : decode cX7_giveUp 10 = .ok (.lsub, 1) := by decide +kernel
theorem dX7_giveUp_11 : decode cX7_giveUp 11 = .ok (.invokestatic 47, 3) := by decide +kernel
theorem dX7_giveUp_14 : decode cX7_giveUp 14 = .ok (.ifCond .ne 5, 3) := by decide +kernel
theorem dX7_giveUp_17 : decode cX7_giveUp 17 = .ok (.iconst (-1), 1) := by decide +kernel
theorem dX7_giveUp_18 : decode cX7_giveUp 18 = .ok (.ireturn, 1) := by decide +kernel
theorem dX7_giveUp_19 : decode cX7_giveUp 19 = .ok (.aload_n 0, 1) := by decide +kernel
theorem dX7_giveUp_20 : decode cX7_giveUp 20 = .ok (.invokevirtual 70, 3) := by decide +kernel
theorem dX7_giveUp_23 : decode cX7_giveUp 23 = .ok (.aload_n 0, 1) := by decide +kernel
theorem dX7_giveUp_24 : decode cX7_giveUp 24 = .ok (.iload_n 1, 1) := by decide +kernel
theorem dX7_giveUp_25 : decode cX7_giveUp 25 = .ok (.invokevirtual 228, 3) := by decide +kernel
theorem dX7_giveUp_28 : decode cX7_giveUp 28 = .ok (.aload_n 0, 1) := by decide +kernel
theorem dX7_giveUp_29 : decode cX7_giveUp 29 = .ok (.iconst 4, 1) := by decide +kernel
theorem dX7_giveUp_30 : decode cX7_giveUp 30 = .ok (.invokevirtual 43, 3) := by decide +kernel
theorem dX7_giveUp_33 : decode cX7_giveUp 33 = .ok (.ireturn, 1) := by decide +kernel
theorem dX7_comesDue_0 : decode cX7_comesDue 0 = .ok (.aload_n 0, 1) := by decide +kernel
theorem dX7_comesDue_1 : decode cX7_comesDue 1 = .ok (.iload_n 1, 1) := by decide +kernel
theorem dX7_comesDue_2 : decode cX7_comesDue 2 = .ok (.aload_n 0, 1) := by decide +kernel
theorem dX7_comesDue_3 : decode cX7_comesDue 3 = .ok (.iload_n 1, 1) := by decide +kernel
theorem dX7_comesDue_4 : decode cX7_comesDue 4 = .ok (.bipush 14, 2) := by decide +kernel
theorem dX7_comesDue_6 : decode cX7_comesDue 6 = .ok (.invokevirtual 151, 3) := by decide +kernel
theorem dX7_comesDue_9 : decode cX7_comesDue 9 = .ok (.invokevirtual 163, 3) := by decide +kernel
theorem dX7_comesDue_12 : decode cX7_comesDue 12 = .ok (.istore_n 2, 1) := by decide +kernel
theorem dX7_comesDue_13 : decode cX7_comesDue 13 = .ok (.iload_n 2, 1) := by decide +kernel
theorem dX7_comesDue_14 : decode cX7_comesDue 14 = .ok (.bipush (-6), 2) := by decide +kernel
theorem dX7_comesDue_16 : decode cX7_comesDue 16 = .ok (.if_icmp .eq 191, 3) := by decide +kernel
theorem dX7_comesDue_19 : decode cX7_comesDue 19 = .ok (.aload_n 0, 1) := by decide +kernel
theorem dX7_comesDue_20 : decode cX7_comesDue 20 = .ok (.iload_n 1, 1) := by decide +kernel
theorem dX7_comesDue_21 : decode cX7_comesDue 21 = .ok (.invokevirtual 231, 3) := by decide +kernel
theorem dX7_comesDue_24 : decode cX7_comesDue 24 = .ok (.ifCond .eq 183, 3) := by decide +kernel
theorem dX7_comesDue_27 : decode cX7_comesDue 27 = .ok (.aload_n 0, 1) := by decide +kernel
theorem dX7_comesDue_28 : decode cX7_comesDue 28 = .ok (.iload_n 1, 1) := by decide +kernel
theorem dX7_comesDue_29 : decode cX7_comesDue 29 = .ok (.iload_n 2, 1) := by decide +kernel
theorem dX7_comesDue_30 : decode cX7_comesDue 30 = .ok (.invokevirtual 166, 3) := by decide +kernel
theorem dX7_comesDue_33 : decode cX7_comesDue 33 = .ok (.aload_n 0, 1) := by decide +kernel
theorem dX7_comesDue_34 : decode cX7_comesDue 34 = .ok (.invokevirtual 66, 3) := by decide +kernel
theorem dX7_comesDue_37 : decode cX7_comesDue 37 = .ok (.if_icmp .gt 170, 3) := by decide +kernel
theorem dX7_comesDue_40 : decode cX7_comesDue 40 = .ok (.aload_n 0, 1) := by decide +kernel
theorem dX7_comesDue_41 : decode cX7_comesDue 41 = .ok (.iload_n 1, 1) := by decide +kernel
theorem dX7_comesDue_42 : decode cX7_comesDue 42 = .ok (.iload_n 2, 1) := by decide +kernel
theorem dX7_comesDue_43 : decode cX7_comesDue 43 = .ok (.invokevirtual 160, 3) := by decide +kernel
theorem dX7_comesDue_46 : decode cX7_comesDue 46 = .ok (.istore_n 3, 1) := by decide +kernel
theorem dX7_comesDue_47 : decode cX7_comesDue 47 = .ok (.aload_n 0, 1) := by decide +kernel
theorem dX7_comesDue_48 : decode cX7_comesDue 48 = .ok (.iload_n 1, 1) := by decide +kernel
theorem dX7_comesDue_49 : decode cX7_comesDue 49 = .ok (.bipush 7, 2) := by decide +kernel
theorem dX7_comesDue_51 : decode cX7_comesDue 51 = .ok (.invokevirtual 151, 3) := by decide +kernel
theorem dX7_comesDue_54 : decode cX7_comesDue 54 = .ok (.iconst 4, 1) := by decide +kernel
theorem dX7_comesDue_55 : decode cX7_comesDue 55 = .ok (.if_icmp .ne 44, 3) := by decide +kernel
theorem dX7_comesDue_58 : decode cX7_comesDue 58 = .ok (.aload_n 0, 1) := by decide +kernel
theorem dX7_comesDue_59 : decode cX7_comesDue 59 = .ok (.iload_n 3, 1) := by decide +kernel
theorem dX7_comesDue_60 : decode cX7_comesDue 60 = .ok (.invokevirtual 88, 3) := by decide +kernel
theorem dX7_comesDue_63 : decode cX7_comesDue 63 = .ok (.ifCond .ne 36, 3) := by decide +kernel
theorem dX7_comesDue_66 : decode cX7_comesDue 66 = .ok (.aload_n 0, 1) := by decide +kernel
theorem dX7_comesDue_67 : decode cX7_comesDue 67 = .ok (.getfield 7, 3) := by decide +kernel
theorem dX7_comesDue_70 : decode cX7_comesDue 70 = .ok (.bipush 121, 2) := by decide +kernel
theorem dX7_comesDue_72 : decode cX7_comesDue 72 = .ok (.bipush 16, 2) := by decide +kernel
theorem dX7_comesDue_74 : decode cX7_comesDue 74 = .ok (.iload_n 1, 1) := by decide +kernel
theorem dX7_comesDue_75 : decode cX7_comesDue 75 = .ok (.imul, 1) := by decide +kernel
theorem dX7_comesDue_76 : decode cX7_comesDue 76 = .ok (.iadd, 1) := by decide +kernel
theorem dX7_comesDue_77 : decode cX7_comesDue 77 = .ok (.bipush 13, 2) := by decide +kernel
theorem dX7_comesDue_79 : decode cX7_comesDue 79 = .ok (.iadd, 1) := by decide +kernel
theorem dX7_comesDue_80 : decode cX7_comesDue 80 = .ok (.dup2, 1) := by decide +kernel
theorem dX7_comesDue_81 : decode cX7_comesDue 81 = .ok (.laload, 1) := by decide +kernel
theorem dX7_comesDue_82 : decode cX7_comesDue 82 = .ok (.lconst 1, 1) := by decide +kernel
theorem dX7_comesDue_83 : decode cX7_comesDue 83 = .ok (.ladd, 1) := by decide +kernel
theorem dX7_comesDue_84 : decode cX7_comesDue 84 = .ok (.lastore, 1) := by decide +kernel
theorem dX7_comesDue_85 : decode cX7_comesDue 85 = .ok (.aload_n 0, 1) := by decide +kernel
theorem dX7_comesDue_86 : decode cX7_comesDue 86 = .ok (.getfield 7, 3) := by decide +kernel
theorem dX7_comesDue_89 : decode cX7_comesDue 89 = .ok (.bipush 7, 2) := by decide +kernel
theorem dX7_comesDue_91 : decode cX7_comesDue 91 = .ok (.dup2, 1) := by decide +kernel
theorem dX7_comesDue_92 : decode cX7_comesDue 92 = .ok (.laload, 1) := by decide +kernel
theorem dX7_comesDue_93 : decode cX7_comesDue 93 = .ok (.lconst 1, 1) := by decide +kernel
theorem dX7_comesDue_94 : decode cX7_comesDue 94 = .ok (.ladd, 1) := by decide +kernel
theorem dX7_comesDue_95 : decode cX7_comesDue 95 = .ok (.lastore, 1) := by decide +kernel
theorem dX7_comesDue_96 : decode cX7_comesDue 96 = .ok (.goto 58, 3) := by decide +kernel
theorem dX7_comesDue_99 : decode cX7_comesDue 99 = .ok (.iload_n 3, 1) := by decide +kernel
theorem dX7_comesDue_100 : decode cX7_comesDue 100 = .ok (.i2l, 1) := by decide +kernel
theorem dX7_comesDue_101 : decode cX7_comesDue 101 = .ok (.ldc2_w 202, 3) := by decide +kernel
theorem dX7_comesDue_104 : decode cX7_comesDue 104 = .ok (.aload_n 0, 1) := by decide +kernel
theorem dX7_comesDue_105 : decode cX7_comesDue 105 = .ok (.invokevirtual 66, 3) := by decide +kernel
theorem dX7_comesDue_108 : decode cX7_comesDue 108 = .ok (.i2l, 1) := by decide +kernel
theorem dX7_comesDue_109 : decode cX7_comesDue 109 = .ok (.lmul, 1) := by decide +kernel
theorem dX7_comesDue_110 : decode cX7_comesDue 110 = .ok (.ladd, 1) := by decide +kernel
theorem dX7_comesDue_111 : decode cX7_comesDue 111 = .ok (.lstore 4, 2) := by decide +kernel
theorem dX7_comesDue_113 : decode cX7_comesDue 113 = .ok (.aload_n 0, 1) := by decide +kernel
theorem dX7_comesDue_114 : decode cX7_comesDue 114 = .ok (.getfield 17, 3) := by decide +kernel
theorem dX7_comesDue_117 : decode cX7_comesDue 117 = .ok (.aload_n 0, 1) := by decide +kernel
theorem dX7_comesDue_118 : decode cX7_comesDue 118 = .ok (.iconst 4, 1) := by decide +kernel
theorem dX7_comesDue_119 : decode cX7_comesDue 119 = .ok (.invokevirtual 43, 3) := by decide +kernel
theorem dX7_comesDue_122 : decode cX7_comesDue 122 = .ok (.iload_n 1, 1) := by decide +kernel
theorem dX7_comesDue_123 : decode cX7_comesDue 123 = .ok (.i2l, 1) := by decide +kernel
theorem dX7_comesDue_124 : decode cX7_comesDue 124 = .ok (.ldc2_w 186, 3) := by decide +kernel
theorem dX7_comesDue_127 : decode cX7_comesDue 127 = .ok (.aload_n 0, 1) := by decide +kernel
theorem dX7_comesDue_128 : decode cX7_comesDue 128 = .ok (.iload_n 1, 1) := by decide +kernel
theorem dX7_comesDue_129 : decode cX7_comesDue 129 = .ok (.iconst 2, 1) := by decide +kernel
theorem dX7_comesDue_130 : decode cX7_comesDue 130 = .ok (.invokevirtual 151, 3) := by decide +kernel
theorem dX7_comesDue_133 : decode cX7_comesDue 133 = .ok (.i2l, 1) := by decide +kernel
theorem dX7_comesDue_134 : decode cX7_comesDue 134 = .ok (.ldc2_w 198, 3) := by decide +kernel
theorem dX7_comesDue_137 : decode cX7_comesDue 137 = .ok (.lload 4, 2) := by decide +kernel
theorem dX7_comesDue_139 : decode cX7_comesDue 139 = .ok (.lmul, 1) := by decide +kernel
theorem dX7_comesDue_140 : decode cX7_comesDue 140 = .ok (.ladd, 1) := by decide +kernel
theorem dX7_comesDue_141 : decode cX7_comesDue 141 = .ok (.lmul, 1) := by decide +kernel
theorem dX7_comesDue_142 : decode cX7_comesDue 142 = .ok (.ladd, 1) := by decide +kernel
theorem dX7_comesDue_143 : decode cX7_comesDue 143 = .ok (.lastore, 1) := by decide +kernel
theorem dX7_comesDue_144 : decode cX7_comesDue 144 = .ok (.aload_n 0, 1) := by decide +kernel
theorem dX7_comesDue_145 : decode cX7_comesDue 145 = .ok (.getfield 7, 3) := by decide +kernel
theorem dX7_comesDue_148 : decode cX7_comesDue 148 = .ok (.iconst 4, 1) := by decide +kernel
theorem dX7_comesDue_149 : decode cX7_comesDue 149 = .ok (.dup2, 1) := by decide +kernel
theorem dX7_comesDue_150 : decode cX7_comesDue 150 = .ok (.laload, 1) := by decide +kernel
theorem dX7_comesDue_151 : decode cX7_comesDue 151 = .ok (.lconst 1, 1) := by decide +kernel
theorem dX7_comesDue_152 : decode cX7_comesDue 152 = .ok (.ladd, 1) := by decide +kernel
theorem dX7_comesDue_153 : decode cX7_comesDue 153 = .ok (.lastore, 1) := by decide +kernel
theorem dX7_comesDue_154 : decode cX7_comesDue 154 = .ok (.aload_n 0, 1) := by decide +kernel
theorem dX7_comesDue_155 : decode cX7_comesDue 155 = .ok (.iload_n 1, 1) := by decide +kernel
theorem dX7_comesDue_156 : decode cX7_comesDue 156 = .ok (.bipush 9, 2) := by decide +kernel
theorem dX7_comesDue_158 : decode cX7_comesDue 158 = .ok (.aload_n 0, 1) := by decide +kernel
theorem dX7_comesDue_159 : decode cX7_comesDue 159 = .ok (.iload_n 1, 1) := by decide +kernel
theorem dX7_comesDue_160 : decode cX7_comesDue 160 = .ok (.bipush 15, 2) := by decide +kernel
theorem dX7_comesDue_162 : decode cX7_comesDue 162 = .ok (.invokevirtual 151, 3) := by decide +kernel
theorem dX7_comesDue_165 : decode cX7_comesDue 165 = .ok (.iconst 1, 1) := by decide +kernel
theorem dX7_comesDue_166 : decode cX7_comesDue 166 = .ok (.if_icmp .ne 7, 3) := by decide +kernel
theorem dX7_comesDue_169 : decode cX7_comesDue 169 = .ok (.iconst 0, 1) := by decide +kernel
theorem dX7_comesDue_170 : decode cX7_comesDue 170 = .ok (.goto 12, 3) := by decide +kernel
theorem dX7_comesDue_173 : decode cX7_comesDue 173 = .ok (.aload_n 0, 1) := by decide +kernel
theorem dX7_comesDue_174 : decode cX7_comesDue 174 = .ok (.iload_n 1, 1) := by decide +kernel
theorem dX7_comesDue_175 : decode cX7_comesDue 175 = .ok (.bipush 9, 2) := by decide +kernel
theorem dX7_comesDue_177 : decode cX7_comesDue 177 = .ok (.invokevirtual 151, 3) := by decide +kernel
theorem dX7_comesDue_180 : decode cX7_comesDue 180 = .ok (.iconst 1, 1) := by decide +kernel
theorem dX7_comesDue_181 : decode cX7_comesDue 181 = .ok (.isub, 1) := by decide +kernel
theorem dX7_comesDue_182 : decode cX7_comesDue 182 = .ok (.invokevirtual 169, 3) := by decide +kernel
theorem dX7_comesDue_185 : decode cX7_comesDue 185 = .ok (.aload_n 0, 1) := by decide +kernel
theorem dX7_comesDue_186 : decode cX7_comesDue 186 = .ok (.iload_n 1, 1) := by decide +kernel
theorem dX7_comesDue_187 : decode cX7_comesDue 187 = .ok (.bipush 14, 2) := by decide +kernel
theorem dX7_comesDue_189 : decode cX7_comesDue 189 = .ok (.iload_n 2, 1) := by decide +kernel
theorem dX7_comesDue_190 : decode cX7_comesDue 190 = .ok (.iconst 1, 1) := by decide +kernel
theorem dX7_comesDue_191 : decode cX7_comesDue 191 = .ok (.iadd, 1) := by decide +kernel
theorem dX7_comesDue_192 : decode cX7_comesDue 192 = .ok (.invokevirtual 169, 3) := by decide +kernel
theorem dX7_comesDue_195 : decode cX7_comesDue 195 = .ok (.aload_n 0, 1) := by decide +kernel
theorem dX7_comesDue_196 : decode cX7_comesDue 196 = .ok (.iload_n 1, 1) := by decide +kernel
theorem dX7_comesDue_197 : decode cX7_comesDue 197 = .ok (.iload_n 2, 1) := by decide +kernel
theorem dX7_comesDue_198 : decode cX7_comesDue 198 = .ok (.iconst 1, 1) := by decide +kernel
theorem dX7_comesDue_199 : decode cX7_comesDue 199 = .ok (.iadd, 1) := by decide +kernel
theorem dX7_comesDue_200 : decode cX7_comesDue 200 = .ok (.invokevirtual 163, 3) := by decide +kernel
theorem dX7_comesDue_203 : decode cX7_comesDue 203 = .ok (.istore_n 2, 1) := by decide +kernel
theorem dX7_comesDue_204 : decode cX7_comesDue 204 = .ok (.goto (-191), 3) := by decide +kernel
theorem dX7_comesDue_207 : decode cX7_comesDue 207 = .ok (.iload_n 2, 1) := by decide +kernel
theorem dX7_comesDue_208 : decode cX7_comesDue 208 = .ok (.bipush (-6), 2) := by decide +kernel
theorem dX7_comesDue_210 : decode cX7_comesDue 210 = .ok (.if_icmp .eq 11, 3) := by decide +kernel
theorem dX7_comesDue_213 : decode cX7_comesDue 213 = .ok (.aload_n 0, 1) := by decide +kernel
theorem dX7_comesDue_214 : decode cX7_comesDue 214 = .ok (.iload_n 1, 1) := by decide +kernel
theorem dX7_comesDue_215 : decode cX7_comesDue 215 = .ok (.invokevirtual 231, 3) := by decide +kernel
theorem dX7_comesDue_218 : decode cX7_comesDue 218 = .ok (.ifCond .ne 19, 3) := by decide +kernel
theorem dX7_comesDue_221 : decode cX7_comesDue 221 = .ok (.aload_n 0, 1) := by decide +kernel
theorem dX7_comesDue_222 : decode cX7_comesDue 222 = .ok (.iload_n 1, 1) := by decide +kernel
theorem dX7_comesDue_223 : decode cX7_comesDue 223 = .ok (.bipush 10, 2) := by decide +kernel
theorem dX7_comesDue_225 : decode cX7_comesDue 225 = .ok (.iconst 2, 1) := by decide +kernel
theorem dX7_comesDue_226 : decode cX7_comesDue 226 = .ok (.invokevirtual 169, 3) := by decide +kernel
theorem dX7_comesDue_229 : decode cX7_comesDue 229 = .ok (.aload_n 0, 1) := by decide +kernel
theorem dX7_comesDue_230 : decode cX7_comesDue 230 = .ok (.iload_n 1, 1) := by decide +kernel
theorem dX7_comesDue_231 : decode cX7_comesDue 231 = .ok (.bipush 9, 2) := by decide +kernel
theorem dX7_comesDue_233 : decode cX7_comesDue 233 = .ok (.iconst 0, 1) := by decide +kernel
theorem dX7_comesDue_234 : decode cX7_comesDue 234 = .ok (.invokevirtual 169, 3) := by decide +kernel
theorem dX7_comesDue_237 : decode cX7_comesDue 237 = .ok (.return_, 1) := by decide +kernel
theorem dX7_waitsFor_0 : decode cX7_waitsFor 0 = .ok (.lconst 0, 1) := by decide +kernel
theorem dX7_waitsFor_1 : decode cX7_waitsFor 1 = .ok (.lstore_n 2, 1) := by decide +kernel
theorem dX7_waitsFor_2 : decode cX7_waitsFor 2 = .ok (.iconst 0, 1) := by decide +kernel
theorem dX7_waitsFor_3 : decode cX7_waitsFor 3 = .ok (.istore 4, 2) := by decide +kernel
theorem dX7_waitsFor_5 : decode cX7_waitsFor 5 = .ok (.iload 4, 2) := by decide +kernel
theorem dX7_waitsFor_7 : decode cX7_waitsFor 7 = .ok (.i2l, 1) := by decide +kernel
theorem dX7_waitsFor_8 : decode cX7_waitsFor 8 = .ok (.aload_n 0, 1) := by decide +kernel
theorem dX7_waitsFor_9 : decode cX7_waitsFor 9 = .ok (.getfield 7, 3) := by decide +kernel
theorem dX7_waitsFor_12 : decode cX7_waitsFor 12 = .ok (.iconst 4, 1) := by decide +kernel
theorem dX7_waitsFor_13 : decode cX7_waitsFor 13 = .ok (.laload, 1) := by decide +kernel
theorem dX7_waitsFor_14 : decode cX7_waitsFor 14 = .ok (.lcmp, 1) := by decide +kernel
theorem dX7_waitsFor_15 : decode cX7_waitsFor 15 = .ok (.ifCond .ge 40, 3) := by decide +kernel
theorem dX7_waitsFor_18 : decode cX7_waitsFor 18 = .ok (.lload_n 2, 1) := by decide +kernel
theorem dX7_waitsFor_19 : decode cX7_waitsFor 19 = .ok (.aload_n 0, 1) := by decide +kernel
theorem dX7_waitsFor_20 : decode cX7_waitsFor 20 = .ok (.aload_n 0, 1) := by decide +kernel
theorem dX7_waitsFor_21 : decode cX7_waitsFor 21 = .ok (.iload 4, 2) := by decide +kernel
theorem dX7_waitsFor_23 : decode cX7_waitsFor 23 = .ok (.iconst 0, 1) := by decide +kernel
theorem dX7_waitsFor_24 : decode cX7_waitsFor 24 = .ok (.invokevirtual 210, 3) := by decide +kernel
theorem dX7_waitsFor_27 : decode cX7_waitsFor 27 = .ok (.iconst 0, 1) := by decide +kernel
theorem dX7_waitsFor_28 : decode cX7_waitsFor 28 = .ok (.invokevirtual 151, 3) := by decide +kernel
theorem dX7_waitsFor_31 : decode cX7_waitsFor 31 = .ok (.iload_n 1, 1) := by decide +kernel
theorem dX7_waitsFor_32 : decode cX7_waitsFor 32 = .ok (.if_icmp .ne 14, 3) := by decide +kernel
theorem dX7_waitsFor_35 : decode cX7_waitsFor 35 = .ok (.aload_n 0, 1) := by decide +kernel
theorem dX7_waitsFor_36 : decode cX7_waitsFor 36 = .ok (.iload 4, 2) := by decide +kernel
theorem dX7_waitsFor_38 : decode cX7_waitsFor 38 = .ok (.iconst 1, 1) := by decide +kernel
theorem dX7_waitsFor_39 : decode cX7_waitsFor 39 = .ok (.invokevirtual 210, 3) := by decide +kernel
theorem dX7_waitsFor_42 : decode cX7_waitsFor 42 = .ok (.i2l, 1) := by decide +kernel
theorem dX7_waitsFor_43 : decode cX7_waitsFor 43 = .ok (.goto 4, 3) := by decide +kernel
theorem dX7_waitsFor_46 : decode cX7_waitsFor 46 = .ok (.lconst 0, 1) := by decide +kernel
theorem dX7_waitsFor_47 : decode cX7_waitsFor 47 = .ok (.ladd, 1) := by decide +kernel
theorem dX7_waitsFor_48 : decode cX7_waitsFor 48 = .ok (.lstore_n 2, 1) := by decide +kernel
theorem dX7_waitsFor_49 : decode cX7_waitsFor 49 = .ok (.iinc 4 1, 3) := by decide +kernel
theorem dX7_waitsFor_52 : decode cX7_waitsFor 52 = .ok (.goto (-47), 3) := by decide +kernel
theorem dX7_waitsFor_55 : decode cX7_waitsFor 55 = .ok (.lload_n 2, 1) := by decide +kernel
theorem dX7_waitsFor_56 : decode cX7_waitsFor 56 = .ok (.lreturn, 1) := by decide +kernel
theorem dX7_sweeps_0 : decode cX7_sweeps 0 = .ok (.aload_n 0, 1) := by decide +kernel
theorem dX7_sweeps_1 : decode cX7_sweeps 1 = .ok (.iload_n 1, 1) := by decide +kernel
theorem dX7_sweeps_2 : decode cX7_sweeps 2 = .ok (.iconst 2, 1) := by decide +kernel
theorem dX7_sweeps_3 : decode cX7_sweeps 3 = .ok (.invokevirtual 132, 3) := by decide +kernel
theorem dX7_sweeps_6 : decode cX7_sweeps 6 = .ok (.istore_n 2, 1) := by decide +kernel
theorem dX7_sweeps_7 : decode cX7_sweeps 7 = .ok (.iload_n 2, 1) := by decide +kernel
theorem dX7_sweeps_8 : decode cX7_sweeps 8 = .ok (.bipush (-6), 2) := by decide +kernel
theorem dX7_sweeps_10 : decode cX7_sweeps 10 = .ok (.if_icmp .ne 4, 3) := by decide +kernel
theorem dX7_sweeps_13 : decode cX7_sweeps 13 = .ok (.return_, 1) := by decide +kernel
theorem dX7_sweeps_14 : decode cX7_sweeps 14 = .ok (.aload_n 0, 1) := by decide +kernel
theorem dX7_sweeps_15 : decode cX7_sweeps 15 = .ok (.iload_n 1, 1) := by decide +kernel
theorem dX7_sweeps_16 : decode cX7_sweeps 16 = .ok (.invokevirtual 234, 3) := by decide +kernel
theorem dX7_sweeps_19 : decode cX7_sweeps 19 = .ok (.aload_n 0, 1) := by decide +kernel
theorem dX7_sweeps_20 : decode cX7_sweeps 20 = .ok (.iload_n 1, 1) := by decide +kernel
theorem dX7_sweeps_21 : decode cX7_sweeps 21 = .ok (.iconst 0, 1) := by decide +kernel
theorem dX7_sweeps_22 : decode cX7_sweeps 22 = .ok (.invokevirtual 141, 3) := by decide +kernel
theorem dX7_sweeps_25 : decode cX7_sweeps 25 = .ok (.lsub, 1) := by decide +kernel
theorem dX7_sweeps_26 : decode cX7_sweeps 26 = .ok (.aload_n 0, 1) := by decide +kernel
theorem dX7_sweeps_27 : decode cX7_sweeps 27 = .ok (.iload_n 1, 1) := by decide +kernel
theorem dX7_sweeps_28 : decode cX7_sweeps 28 = .ok (.iconst 0, 1) := by decide +kernel
theorem dX7_sweeps_29 : decode cX7_sweeps 29 = .ok (.invokevirtual 132, 3) := by decide +kernel
theorem dX7_sweeps_32 : decode cX7_sweeps 32 = .ok (.i2l, 1) := by decide +kernel
theorem dX7_sweeps_33 : decode cX7_sweeps 33 = .ok (.lsub, 1) := by decide +kernel
theorem dX7_sweeps_34 : decode cX7_sweeps 34 = .ok (.lstore_n 3, 1) := by decide +kernel
theorem dX7_sweeps_35 : decode cX7_sweeps 35 = .ok (.aload_n 0, 1) := by decide +kernel
theorem dX7_sweeps_36 : decode cX7_sweeps 36 = .ok (.iload_n 2, 1) := by decide +kernel
theorem dX7_sweeps_37 : decode cX7_sweeps 37 = .ok (.iconst 0, 1) := by decide +kernel
theorem dX7_sweeps_38 : decode cX7_sweeps 38 = .ok (.invokevirtual 141, 3) := by decide +kernel
theorem dX7_sweeps_41 : decode cX7_sweeps 41 = .ok (.aload_n 0, 1) := by decide +kernel
theorem dX7_sweeps_42 : decode cX7_sweeps 42 = .ok (.iload_n 2, 1) := by decide +kernel
theorem dX7_sweeps_43 : decode cX7_sweeps 43 = .ok (.iconst 1, 1) := by decide +kernel
theorem dX7_sweeps_44 : decode cX7_sweeps 44 = .ok (.invokevirtual 132, 3) := by decide +kernel
theorem dX7_sweeps_47 : decode cX7_sweeps 47 = .ok (.i2l, 1) := by decide +kernel
theorem dX7_sweeps_48 : decode cX7_sweeps 48 = .ok (.lsub, 1) := by decide +kernel
theorem dX7_sweeps_49 : decode cX7_sweeps 49 = .ok (.lstore 5, 2) := by decide +kernel
theorem dX7_sweeps_51 : decode cX7_sweeps 51 = .ok (.lload_n 3, 1) := by decide +kernel
theorem dX7_sweeps_52 : decode cX7_sweeps 52 = .ok (.lload 5, 2) := by decide +kernel
theorem dX7_sweeps_54 : decode cX7_sweeps 54 = .ok (.lcmp, 1) := by decide +kernel
theorem dX7_sweeps_55 : decode cX7_sweeps 55 = .ok (.ifCond .ge 7, 3) := by decide +kernel
theorem dX7_sweeps_58 : decode cX7_sweeps 58 = .ok (.lload_n 3, 1) := by decide +kernel
theorem dX7_sweeps_59 : decode cX7_sweeps 59 = .ok (.goto 5, 3) := by decide +kernel
theorem dX7_sweeps_62 : decode cX7_sweeps 62 = .ok (.lload 5, 2) := by decide +kernel
theorem dX7_sweeps_64 : decode cX7_sweeps 64 = .ok (.lstore 7, 2) := by decide +kernel
theorem dX7_sweeps_66 : decode cX7_sweeps 66 = .ok (.lload 7, 2) := by decide +kernel
theorem dX7_sweeps_68 : decode cX7_sweeps 68 = .ok (.lconst 0, 1) := by decide +kernel
theorem dX7_sweeps_69 : decode cX7_sweeps 69 = .ok (.lcmp, 1) := by decide +kernel
theorem dX7_sweeps_70 : decode cX7_sweeps 70 = .ok (.ifCond .le 36, 3) := by decide +kernel
theorem dX7_sweeps_73 : decode cX7_sweeps 73 = .ok (.aload_n 0, 1) := by decide +kernel
theorem dX7_sweeps_74 : decode cX7_sweeps 74 = .ok (.iload_n 2, 1) := by decide +kernel
theorem dX7_sweeps_75 : decode cX7_sweeps 75 = .ok (.iconst 0, 1) := by decide +kernel
theorem dX7_sweeps_76 : decode cX7_sweeps 76 = .ok (.lload 7, 2) := by decide +kernel
theorem dX7_sweeps_78 : decode cX7_sweeps 78 = .ok (.lneg, 1) := by decide +kernel
theorem dX7_sweeps_79 : decode cX7_sweeps 79 = .ok (.invokevirtual 137, 3) := by decide +kernel
theorem dX7_sweeps_82 : decode cX7_sweeps 82 = .ok (.aload_n 0, 1) := by decide +kernel
theorem dX7_sweeps_83 : decode cX7_sweeps 83 = .ok (.iload_n 2, 1) := by decide +kernel
theorem dX7_sweeps_84 : decode cX7_sweeps 84 = .ok (.iconst 5, 1) := by decide +kernel
theorem dX7_sweeps_85 : decode cX7_sweeps 85 = .ok (.lload 7, 2) := by decide +kernel
theorem dX7_sweeps_87 : decode cX7_sweeps 87 = .ok (.invokevirtual 137, 3) := by decide +kernel
theorem dX7_sweeps_90 : decode cX7_sweeps 90 = .ok (.aload_n 0, 1) := by decide +kernel
theorem dX7_sweeps_91 : decode cX7_sweeps 91 = .ok (.iload_n 1, 1) := by decide +kernel
theorem dX7_sweeps_92 : decode cX7_sweeps 92 = .ok (.iconst 0, 1) := by decide +kernel
theorem dX7_sweeps_93 : decode cX7_sweeps 93 = .ok (.lload 7, 2) := by decide +kernel
theorem dX7_sweeps_95 : decode cX7_sweeps 95 = .ok (.invokevirtual 137, 3) := by decide +kernel
theorem dX7_sweeps_98 : decode cX7_sweeps 98 = .ok (.aload_n 0, 1) := by decide +kernel
theorem dX7_sweeps_99 : decode cX7_sweeps 99 = .ok (.iload_n 1, 1) := by decide +kernel
theorem dX7_sweeps_100 : decode cX7_sweeps 100 = .ok (.iconst 4, 1) := by decide +kernel
theorem dX7_sweeps_101 : decode cX7_sweeps 101 = .ok (.lload 7, 2) := by decide +kernel
theorem dX7_sweeps_103 : decode cX7_sweeps 103 = .ok (.invokevirtual 137, 3) := by decide +kernel
theorem dX7_sweeps_106 : decode cX7_sweeps 106 = .ok (.return_, 1) := by decide +kernel
theorem dX7_isAhead_0 : decode cX7_isAhead 0 = .ok (.aload_n 0, 1) := by decide +kernel
theorem dX7_isAhead_1 : decode cX7_isAhead 1 = .ok (.aload_n 0, 1) := by decide +kernel
theorem dX7_isAhead_2 : decode cX7_isAhead 2 = .ok (.iload_n 1, 1) := by decide +kernel
theorem dX7_isAhead_3 : decode cX7_isAhead 3 = .ok (.iconst 0, 1) := by decide +kernel
theorem dX7_isAhead_4 : decode cX7_isAhead 4 = .ok (.invokevirtual 210, 3) := by decide +kernel
theorem dX7_isAhead_7 : decode cX7_isAhead 7 = .ok (.bipush 8, 2) := by decide +kernel
theorem dX7_isAhead_9 : decode cX7_isAhead 9 = .ok (.invokevirtual 151, 3) := by decide +kernel
theorem dX7_isAhead_12 : decode cX7_isAhead 12 = .ok (.istore_n 3, 1) := by decide +kernel
theorem dX7_isAhead_13 : decode cX7_isAhead 13 = .ok (.aload_n 0, 1) := by decide +kernel
theorem dX7_isAhead_14 : decode cX7_isAhead 14 = .ok (.aload_n 0, 1) := by decide +kernel
theorem dX7_isAhead_15 : decode cX7_isAhead 15 = .ok (.iload_n 2, 1) := by decide +kernel
theorem dX7_isAhead_16 : decode cX7_isAhead 16 = .ok (.iconst 0, 1) := by decide +kernel
theorem dX7_isAhead_17 : decode cX7_isAhead 17 = .ok (.invokevirtual 210, 3) := by decide +kernel
theorem dX7_isAhead_20 : decode cX7_isAhead 20 = .ok (.bipush 8, 2) := by decide +kernel
theorem dX7_isAhead_22 : decode cX7_isAhead 22 = .ok (.invokevirtual 151, 3) := by decide +kernel
theorem dX7_isAhead_25 : decode cX7_isAhead 25 = .ok (.istore 4, 2) := by decide +kernel
theorem dX7_isAhead_27 : decode cX7_isAhead 27 = .ok (.iload_n 3, 1) := by decide +kernel
theorem dX7_isAhead_28 : decode cX7_isAhead 28 = .ok (.iload 4, 2) := by decide +kernel
theorem dX7_isAhead_30 : decode cX7_isAhead 30 = .ok (.if_icmp .eq 15, 3) := by decide +kernel
theorem dX7_isAhead_33 : decode cX7_isAhead 33 = .ok (.iload_n 3, 1) := by decide +kernel
theorem dX7_isAhead_34 : decode cX7_isAhead 34 = .ok (.iload 4, 2) := by decide +kernel
theorem dX7_isAhead_36 : decode cX7_isAhead 36 = .ok (.if_icmp .le 7, 3) := by decide +kernel
theorem dX7_isAhead_39 : decode cX7_isAhead 39 = .ok (.iconst 1, 1) := by decide +kernel
theorem dX7_isAhead_40 : decode cX7_isAhead 40 = .ok (.goto 4, 3) := by decide +kernel
theorem dX7_isAhead_43 : decode cX7_isAhead 43 = .ok (.iconst 0, 1) := by decide +kernel
theorem dX7_isAhead_44 : decode cX7_isAhead 44 = .ok (.ireturn, 1) := by decide +kernel
theorem dX7_isAhead_45 : decode cX7_isAhead 45 = .ok (.aload_n 0, 1) := by decide +kernel
theorem dX7_isAhead_46 : decode cX7_isAhead 46 = .ok (.iload_n 1, 1) := by decide +kernel
theorem dX7_isAhead_47 : decode cX7_isAhead 47 = .ok (.iconst 3, 1) := by decide +kernel
theorem dX7_isAhead_48 : decode cX7_isAhead 48 = .ok (.invokevirtual 210, 3) := by decide +kernel
theorem dX7_isAhead_51 : decode cX7_isAhead 51 = .ok (.istore 5, 2) := by decide +kernel
theorem dX7_isAhead_53 : decode cX7_isAhead 53 = .ok (.iload 5, 2) := by decide +kernel
theorem dX7_isAhead_55 : decode cX7_isAhead 55 = .ok (.aload_n 0, 1) := by decide +kernel
theorem dX7_isAhead_56 : decode cX7_isAhead 56 = .ok (.iload_n 2, 1) := by decide +kernel
theorem dX7_isAhead_57 : decode cX7_isAhead 57 = .ok (.iconst 3, 1) := by decide +kernel
theorem dX7_isAhead_58 : decode cX7_isAhead 58 = .ok (.invokevirtual 210, 3) := by decide +kernel
theorem dX7_isAhead_61 : decode cX7_isAhead 61 = .ok (.if_icmp .eq 22, 3) := by decide +kernel
theorem dX7_isAhead_64 : decode cX7_isAhead 64 = .ok (.iload 5, 2) := by decide +kernel
theorem dX7_isAhead_66 : decode cX7_isAhead 66 = .ok (.aload_n 0, 1) := by decide +kernel
theorem dX7_isAhead_67 : decode cX7_isAhead 67 = .ok (.iload_n 2, 1) := by decide +kernel
theorem dX7_isAhead_68 : decode cX7_isAhead 68 = .ok (.iconst 3, 1) := by decide +kernel
theorem dX7_isAhead_69 : decode cX7_isAhead 69 = .ok (.invokevirtual 210, 3) := by decide +kernel
theorem dX7_isAhead_72 : decode cX7_isAhead 72 = .ok (.if_icmp .ge 7, 3) := by decide +kernel
theorem dX7_isAhead_75 : decode cX7_isAhead 75 = .ok (.iconst 1, 1) := by decide +kernel
theorem dX7_isAhead_76 : decode cX7_isAhead 76 = .ok (.goto 27, 3) := by decide +kernel
theorem dX7_isAhead_79 : decode cX7_isAhead 79 = .ok (.iconst 0, 1) := by decide +kernel
theorem dX7_isAhead_80 : decode cX7_isAhead 80 = .ok (.goto 23, 3) := by decide +kernel
theorem dX7_isAhead_83 : decode cX7_isAhead 83 = .ok (.aload_n 0, 1) := by decide +kernel
theorem dX7_isAhead_84 : decode cX7_isAhead 84 = .ok (.iload_n 1, 1) := by decide +kernel
theorem dX7_isAhead_85 : decode cX7_isAhead 85 = .ok (.iconst 0, 1) := by decide +kernel
theorem dX7_isAhead_86 : decode cX7_isAhead 86 = .ok (.invokevirtual 210, 3) := by decide +kernel
theorem dX7_isAhead_89 : decode cX7_isAhead 89 = .ok (.aload_n 0, 1) := by decide +kernel
theorem dX7_isAhead_90 : decode cX7_isAhead 90 = .ok (.iload_n 2, 1) := by decide +kernel
theorem dX7_isAhead_91 : decode cX7_isAhead 91 = .ok (.iconst 0, 1) := by decide +kernel
theorem dX7_isAhead_92 : decode cX7_isAhead 92 = .ok (.invokevirtual 210, 3) := by decide +kernel
theorem dX7_isAhead_95 : decode cX7_isAhead 95 = .ok (.if_icmp .ge 7, 3) := by decide +kernel
theorem dX7_isAhead_98 : decode cX7_isAhead 98 = .ok (.iconst 1, 1) := by decide +kernel
theorem dX7_isAhead_99 : decode cX7_isAhead 99 = .ok (.goto 4, 3) := by decide +kernel
theorem dX7_isAhead_102 : decode cX7_isAhead 102 = .ok (.iconst 0, 1) := by decide +kernel
theorem dX7_isAhead_103 : decode cX7_isAhead 103 = .ok (.ireturn, 1) := by decide +kernel
theorem dX7_nextToTry_0 : decode cX7_nextToTry 0 = .ok (.bipush (-6), 2) := by decide +kernel
theorem dX7_nextToTry_2 : decode cX7_nextToTry 2 = .ok (.istore_n 1, 1) := by decide +kernel
theorem dX7_nextToTry_3 : decode cX7_nextToTry 3 = .ok (.iconst 0, 1) := by decide +kernel
theorem dX7_nextToTry_4 : decode cX7_nextToTry 4 = .ok (.istore_n 2, 1) := by decide +kernel
theorem dX7_nextToTry_5 : decode cX7_nextToTry 5 = .ok (.iload_n 2, 1) := by decide +kernel
theorem dX7_nextToTry_6 : decode cX7_nextToTry 6 = .ok (.i2l, 1) := by decide +kernel
theorem dX7_nextToTry_7 : decode cX7_nextToTry 7 = .ok (.aload_n 0, 1) := by decide +kernel
theorem dX7_nextToTry_8 : decode cX7_nextToTry 8 = .ok (.getfield 7, 3) := by decide +kernel
theorem dX7_nextToTry_11 : decode cX7_nextToTry 11 = .ok (.iconst 4, 1) := by decide +kernel
theorem dX7_nextToTry_12 : decode cX7_nextToTry 12 = .ok (.laload, 1) := by decide +kernel
theorem dX7_nextToTry_13 : decode cX7_nextToTry 13 = .ok (.lcmp, 1) := by decide +kernel
theorem dX7_nextToTry_14 : decode cX7_nextToTry 14 = .ok (.ifCond .ge 39, 3) := by decide +kernel
theorem dX7_nextToTry_17 : decode cX7_nextToTry 17 = .ok (.aload_n 0, 1) := by decide +kernel
theorem dX7_nextToTry_18 : decode cX7_nextToTry 18 = .ok (.iload_n 2, 1) := by decide +kernel
theorem dX7_nextToTry_19 : decode cX7_nextToTry 19 = .ok (.iconst 5, 1) := by decide +kernel
theorem dX7_nextToTry_20 : decode cX7_nextToTry 20 = .ok (.invokevirtual 210, 3) := by decide +kernel
theorem dX7_nextToTry_23 : decode cX7_nextToTry 23 = .ok (.ifCond .ne 22, 3) := by decide +kernel
theorem dX7_nextToTry_26 : decode cX7_nextToTry 26 = .ok (.iload_n 1, 1) := by decide +kernel
theorem dX7_nextToTry_27 : decode cX7_nextToTry 27 = .ok (.bipush (-6), 2) := by decide +kernel
theorem dX7_nextToTry_29 : decode cX7_nextToTry 29 = .ok (.if_icmp .eq 12, 3) := by decide +kernel
theorem dX7_nextToTry_32 : decode cX7_nextToTry 32 = .ok (.aload_n 0, 1) := by decide +kernel
theorem dX7_nextToTry_33 : decode cX7_nextToTry 33 = .ok (.iload_n 2, 1) := by decide +kernel
theorem dX7_nextToTry_34 : decode cX7_nextToTry 34 = .ok (.iload_n 1, 1) := by decide +kernel
theorem dX7_nextToTry_35 : decode cX7_nextToTry 35 = .ok (.invokevirtual 238, 3) := by decide +kernel
theorem dX7_nextToTry_38 : decode cX7_nextToTry 38 = .ok (.ifCond .eq 7, 3) := by decide +kernel
theorem dX7_nextToTry_41 : decode cX7_nextToTry 41 = .ok (.iload_n 2, 1) := by decide +kernel
theorem dX7_nextToTry_42 : decode cX7_nextToTry 42 = .ok (.goto 4, 3) := by decide +kernel
theorem dX7_nextToTry_45 : decode cX7_nextToTry 45 = .ok (.iload_n 1, 1) := by decide +kernel
theorem dX7_nextToTry_46 : decode cX7_nextToTry 46 = .ok (.istore_n 1, 1) := by decide +kernel
theorem dX7_nextToTry_47 : decode cX7_nextToTry 47 = .ok (.iinc 2 1, 3) := by decide +kernel
theorem dX7_nextToTry_50 : decode cX7_nextToTry 50 = .ok (.goto (-45), 3) := by decide +kernel
theorem dX7_nextToTry_53 : decode cX7_nextToTry 53 = .ok (.iload_n 1, 1) := by decide +kernel
theorem dX7_nextToTry_54 : decode cX7_nextToTry 54 = .ok (.ireturn, 1) := by decide +kernel
theorem dX7_tries_0 : decode cX7_tries 0 = .ok (.aload_n 0, 1) := by decide +kernel
theorem dX7_tries_1 : decode cX7_tries 1 = .ok (.iload_n 1, 1) := by decide +kernel
theorem dX7_tries_2 : decode cX7_tries 2 = .ok (.iconst 0, 1) := by decide +kernel
theorem dX7_tries_3 : decode cX7_tries 3 = .ok (.invokevirtual 210, 3) := by decide +kernel
theorem dX7_tries_6 : decode cX7_tries 6 = .ok (.istore_n 2, 1) := by decide +kernel
theorem dX7_tries_7 : decode cX7_tries 7 = .ok (.aload_n 0, 1) := by decide +kernel
theorem dX7_tries_8 : decode cX7_tries 8 = .ok (.iload_n 2, 1) := by decide +kernel
theorem dX7_tries_9 : decode cX7_tries 9 = .ok (.iconst 0, 1) := by decide +kernel
theorem dX7_tries_10 : decode cX7_tries 10 = .ok (.invokevirtual 151, 3) := by decide +kernel
theorem dX7_tries_13 : decode cX7_tries 13 = .ok (.istore_n 3, 1) := by decide +kernel
theorem dX7_tries_14 : decode cX7_tries 14 = .ok (.aload_n 0, 1) := by decide +kernel
theorem dX7_tries_15 : decode cX7_tries 15 = .ok (.iload_n 2, 1) := by decide +kernel
theorem dX7_tries_16 : decode cX7_tries 16 = .ok (.iconst 1, 1) := by decide +kernel
theorem dX7_tries_17 : decode cX7_tries 17 = .ok (.invokevirtual 151, 3) := by decide +kernel
theorem dX7_tries_20 : decode cX7_tries 20 = .ok (.istore 4, 2) := by decide +kernel
theorem dX7_tries_22 : decode cX7_tries 22 = .ok (.aload_n 0, 1) := by decide +kernel
theorem dX7_tries_23 : decode cX7_tries 23 = .ok (.iload_n 1, 1) := by decide +kernel
theorem dX7_tries_24 : decode cX7_tries 24 = .ok (.iconst 1, 1) := by decide +kernel
theorem dX7_tries_25 : decode cX7_tries 25 = .ok (.invokevirtual 210, 3) := by decide +kernel
theorem dX7_tries_28 : decode cX7_tries 28 = .ok (.i2l, 1) := by decide +kernel
theorem dX7_tries_29 : decode cX7_tries 29 = .ok (.lstore 5, 2) := by decide +kernel
theorem dX7_tries_31 : decode cX7_tries 31 = .ok (.aload_n 0, 1) := by decide +kernel
theorem dX7_tries_32 : decode cX7_tries 32 = .ok (.iload_n 3, 1) := by decide +kernel
theorem dX7_tries_33 : decode cX7_tries 33 = .ok (.iconst 0, 1) := by decide +kernel
theorem dX7_tries_34 : decode cX7_tries 34 = .ok (.invokevirtual 141, 3) := by decide +kernel
theorem dX7_tries_37 : decode cX7_tries 37 = .ok (.aload_n 0, 1) := by decide +kernel
theorem dX7_tries_38 : decode cX7_tries 38 = .ok (.iload_n 3, 1) := by decide +kernel
theorem dX7_tries_39 : decode cX7_tries 39 = .ok (.iconst 0, 1) := by decide +kernel
theorem dX7_tries_40 : decode cX7_tries 40 = .ok (.invokevirtual 132, 3) := by decide +kernel
theorem dX7_tries_43 : decode cX7_tries 43 = .ok (.i2l, 1) := by decide +kernel
theorem dX7_tries_44 : decode cX7_tries 44 = .ok (.ladd, 1) := by decide +kernel
theorem dX7_tries_45 : decode cX7_tries 45 = .ok (.lload 5, 2) := by decide +kernel
theorem dX7_tries_47 : decode cX7_tries 47 = .ok (.lcmp, 1) := by decide +kernel
theorem dX7_tries_48 : decode cX7_tries 48 = .ok (.ifCond .lt 80, 3) := by decide +kernel
theorem dX7_tries_51 : decode cX7_tries 51 = .ok (.aload_n 0, 1) := by decide +kernel
theorem dX7_tries_52 : decode cX7_tries 52 = .ok (.iload_n 3, 1) := by decide +kernel
theorem dX7_tries_53 : decode cX7_tries 53 = .ok (.iconst 0, 1) := by decide +kernel
theorem dX7_tries_54 : decode cX7_tries 54 = .ok (.lload 5, 2) := by decide +kernel
theorem dX7_tries_56 : decode cX7_tries 56 = .ok (.lneg, 1) := by decide +kernel
theorem dX7_tries_57 : decode cX7_tries 57 = .ok (.invokevirtual 137, 3) := by decide +kernel
theorem dX7_tries_60 : decode cX7_tries 60 = .ok (.aload_n 0, 1) := by decide +kernel
theorem dX7_tries_61 : decode cX7_tries 61 = .ok (.iload_n 3, 1) := by decide +kernel
theorem dX7_tries_62 : decode cX7_tries 62 = .ok (.iconst 2, 1) := by decide +kernel
theorem dX7_tries_63 : decode cX7_tries 63 = .ok (.lload 5, 2) := by decide +kernel
theorem dX7_tries_65 : decode cX7_tries 65 = .ok (.invokevirtual 137, 3) := by decide +kernel
theorem dX7_tries_68 : decode cX7_tries 68 = .ok (.iload 4, 2) := by decide +kernel
theorem dX7_tries_70 : decode cX7_tries 70 = .ok (.bipush 8, 2) := by decide +kernel
theorem dX7_tries_72 : decode cX7_tries 72 = .ok (.if_icmp .eq 21, 3) := by decide +kernel
theorem dX7_tries_75 : decode cX7_tries 75 = .ok (.aload_n 0, 1) := by decide +kernel
theorem dX7_tries_76 : decode cX7_tries 76 = .ok (.iload 4, 2) := by decide +kernel
theorem dX7_tries_78 : decode cX7_tries 78 = .ok (.iconst 0, 1) := by decide +kernel
theorem dX7_tries_79 : decode cX7_tries 79 = .ok (.lload 5, 2) := by decide +kernel
theorem dX7_tries_81 : decode cX7_tries 81 = .ok (.invokevirtual 137, 3) := by decide +kernel
theorem dX7_tries_84 : decode cX7_tries 84 = .ok (.aload_n 0, 1) := by decide +kernel
theorem dX7_tries_85 : decode cX7_tries 85 = .ok (.iload 4, 2) := by decide +kernel
theorem dX7_tries_87 : decode cX7_tries 87 = .ok (.iconst 3, 1) := by decide +kernel
theorem dX7_tries_88 : decode cX7_tries 88 = .ok (.lload 5, 2) := by decide +kernel
theorem dX7_tries_90 : decode cX7_tries 90 = .ok (.invokevirtual 137, 3) := by decide +kernel
theorem dX7_tries_93 : decode cX7_tries 93 = .ok (.aload_n 0, 1) := by decide +kernel
theorem dX7_tries_94 : decode cX7_tries 94 = .ok (.getfield 7, 3) := by decide +kernel
theorem dX7_tries_97 : decode cX7_tries 97 = .ok (.bipush 121, 2) := by decide +kernel
theorem dX7_tries_99 : decode cX7_tries 99 = .ok (.bipush 16, 2) := by decide +kernel
theorem dX7_tries_101 : decode cX7_tries 101 = .ok (.iload_n 2, 1) := by decide +kernel
theorem dX7_tries_102 : decode cX7_tries 102 = .ok (.imul, 1) := by decide +kernel
theorem dX7_tries_103 : decode cX7_tries 103 = .ok (.iadd, 1) := by decide +kernel
theorem dX7_tries_104 : decode cX7_tries 104 = .ok (.bipush 11, 2) := by decide +kernel
theorem dX7_tries_106 : decode cX7_tries 106 = .ok (.iadd, 1) := by decide +kernel
theorem dX7_tries_107 : decode cX7_tries 107 = .ok (.dup2, 1) := by decide +kernel
theorem dX7_tries_108 : decode cX7_tries 108 = .ok (.laload, 1) := by decide +kernel
theorem dX7_tries_109 : decode cX7_tries 109 = .ok (.lconst 1, 1) := by decide +kernel
theorem dX7_tries_110 : decode cX7_tries 110 = .ok (.ladd, 1) := by decide +kernel
theorem dX7_tries_111 : decode cX7_tries 111 = .ok (.lastore, 1) := by decide +kernel
theorem dX7_tries_112 : decode cX7_tries 112 = .ok (.aload_n 0, 1) := by decide +kernel
theorem dX7_tries_113 : decode cX7_tries 113 = .ok (.getfield 7, 3) := by decide +kernel
theorem dX7_tries_116 : decode cX7_tries 116 = .ok (.iconst 5, 1) := by decide +kernel
theorem dX7_tries_117 : decode cX7_tries 117 = .ok (.dup2, 1) := by decide +kernel
theorem dX7_tries_118 : decode cX7_tries 118 = .ok (.laload, 1) := by decide +kernel
theorem dX7_tries_119 : decode cX7_tries 119 = .ok (.lconst 1, 1) := by decide +kernel
theorem dX7_tries_120 : decode cX7_tries 120 = .ok (.ladd, 1) := by decide +kernel
theorem dX7_tries_121 : decode cX7_tries 121 = .ok (.lastore, 1) := by decide +kernel
theorem dX7_tries_122 : decode cX7_tries 122 = .ok (.aload_n 0, 1) := by decide +kernel
theorem dX7_tries_123 : decode cX7_tries 123 = .ok (.iload_n 1, 1) := by decide +kernel
theorem dX7_tries_124 : decode cX7_tries 124 = .ok (.invokevirtual 225, 3) := by decide +kernel
theorem dX7_tries_127 : decode cX7_tries 127 = .ok (.return_, 1) := by decide +kernel
theorem dX7_tries_128 : decode cX7_tries 128 = .ok (.aload_n 0, 1) := by decide +kernel
theorem dX7_tries_129 : decode cX7_tries 129 = .ok (.iload_n 3, 1) := by decide +kernel
theorem dX7_tries_130 : decode cX7_tries 130 = .ok (.iconst 0, 1) := by decide +kernel
theorem dX7_tries_131 : decode cX7_tries 131 = .ok (.aload_n 0, 1) := by decide +kernel
theorem dX7_tries_132 : decode cX7_tries 132 = .ok (.getfield 7, 3) := by decide +kernel
theorem dX7_tries_135 : decode cX7_tries 135 = .ok (.bipush 10, 2) := by decide +kernel
theorem dX7_tries_137 : decode cX7_tries 137 = .ok (.laload, 1) := by decide +kernel
theorem dX7_tries_138 : decode cX7_tries 138 = .ok (.lneg, 1) := by decide +kernel
theorem dX7_tries_139 : decode cX7_tries 139 = .ok (.invokevirtual 137, 3) := by decide +kernel
theorem dX7_tries_142 : decode cX7_tries 142 = .ok (.aload_n 0, 1) := by decide +kernel
theorem dX7_tries_143 : decode cX7_tries 143 = .ok (.iload_n 3, 1) := by decide +kernel
theorem dX7_tries_144 : decode cX7_tries 144 = .ok (.bipush 6, 2) := by decide +kernel
theorem dX7_tries_146 : decode cX7_tries 146 = .ok (.aload_n 0, 1) := by decide +kernel
theorem dX7_tries_147 : decode cX7_tries 147 = .ok (.getfield 7, 3) := by decide +kernel
theorem dX7_tries_150 : decode cX7_tries 150 = .ok (.bipush 10, 2) := by decide +kernel
theorem dX7_tries_152 : decode cX7_tries 152 = .ok (.laload, 1) := by decide +kernel
theorem dX7_tries_153 : decode cX7_tries 153 = .ok (.invokevirtual 137, 3) := by decide +kernel
theorem dX7_tries_156 : decode cX7_tries 156 = .ok (.aload_n 0, 1) := by decide +kernel
theorem dX7_tries_157 : decode cX7_tries 157 = .ok (.getfield 7, 3) := by decide +kernel
theorem dX7_tries_160 : decode cX7_tries 160 = .ok (.bipush 8, 2) := by decide +kernel
theorem dX7_tries_162 : decode cX7_tries 162 = .ok (.dup2, 1) := by decide +kernel
theorem dX7_tries_163 : decode cX7_tries 163 = .ok (.laload, 1) := by decide +kernel
theorem dX7_tries_164 : decode cX7_tries 164 = .ok (.lconst 1, 1) := by decide +kernel
theorem dX7_tries_165 : decode cX7_tries 165 = .ok (.ladd, 1) := by decide +kernel
theorem dX7_tries_166 : decode cX7_tries 166 = .ok (.lastore, 1) := by decide +kernel
theorem dX7_tries_167 : decode cX7_tries 167 = .ok (.aload_n 0, 1) := by decide +kernel
theorem dX7_tries_168 : decode cX7_tries 168 = .ok (.dup, 1) := by decide +kernel
theorem dX7_tries_169 : decode cX7_tries 169 = .ok (.getfield 241, 3) := by decide +kernel
theorem dX7_tries_172 : decode cX7_tries 172 = .ok (.iconst 1, 1) := by decide +kernel
theorem dX7_tries_173 : decode cX7_tries 173 = .ok (.iload_n 3, 1) := by decide +kernel
theorem dX7_tries_174 : decode cX7_tries 174 = .ok (.ishl, 1) := by decide +kernel
theorem dX7_tries_175 : decode cX7_tries 175 = .ok (.ior, 1) := by decide +kernel
theorem dX7_tries_176 : decode cX7_tries 176 = .ok (.putfield 241, 3) := by decide +kernel
theorem dX7_tries_179 : decode cX7_tries 179 = .ok (.aload_n 0, 1) := by decide +kernel
theorem dX7_tries_180 : decode cX7_tries 180 = .ok (.iload_n 1, 1) := by decide +kernel
theorem dX7_tries_181 : decode cX7_tries 181 = .ok (.iconst 4, 1) := by decide +kernel
theorem dX7_tries_182 : decode cX7_tries 182 = .ok (.invokevirtual 210, 3) := by decide +kernel
theorem dX7_tries_185 : decode cX7_tries 185 = .ok (.iconst 1, 1) := by decide +kernel
theorem dX7_tries_186 : decode cX7_tries 186 = .ok (.iadd, 1) := by decide +kernel
theorem dX7_tries_187 : decode cX7_tries 187 = .ok (.i2l, 1) := by decide +kernel
theorem dX7_tries_188 : decode cX7_tries 188 = .ok (.aload_n 0, 1) := by decide +kernel
theorem dX7_tries_189 : decode cX7_tries 189 = .ok (.getfield 7, 3) := by decide +kernel
theorem dX7_tries_192 : decode cX7_tries 192 = .ok (.bipush 9, 2) := by decide +kernel
theorem dX7_tries_194 : decode cX7_tries 194 = .ok (.laload, 1) := by decide +kernel
theorem dX7_tries_195 : decode cX7_tries 195 = .ok (.lcmp, 1) := by decide +kernel
theorem dX7_tries_196 : decode cX7_tries 196 = .ok (.ifCond .lt 11, 3) := by decide +kernel
theorem dX7_tries_199 : decode cX7_tries 199 = .ok (.aload_n 0, 1) := by decide +kernel
theorem dX7_tries_200 : decode cX7_tries 200 = .ok (.iload_n 1, 1) := by decide +kernel
theorem dX7_tries_201 : decode cX7_tries 201 = .ok (.invokevirtual 228, 3) := by decide +kernel
theorem dX7_tries_204 : decode cX7_tries 204 = .ok (.goto 15, 3) := by decide +kernel
theorem dX7_tries_207 : decode cX7_tries 207 = .ok (.aload_n 0, 1) := by decide +kernel
theorem dX7_tries_208 : decode cX7_tries 208 = .ok (.getfield 17, 3) := by decide +kernel
theorem dX7_tries_211 : decode cX7_tries 211 = .ok (.iload_n 1, 1) := by decide +kernel
theorem dX7_tries_212 : decode cX7_tries 212 = .ok (.dup2, 1) := by decide +kernel
theorem dX7_tries_213 : decode cX7_tries 213 = .ok (.laload, 1) := by decide +kernel
theorem dX7_tries_214 : decode cX7_tries 214 = .ok (.ldc2_w 244, 3) := by decide +kernel
theorem dX7_tries_217 : decode cX7_tries 217 = .ok (.ladd, 1) := by decide +kernel
theorem dX7_tries_218 : decode cX7_tries 218 = .ok (.lastore, 1) := by decide +kernel
theorem dX7_tries_219 : decode cX7_tries 219 = .ok (.return_, 1) := by decide +kernel
theorem dX7_paysAll_0 : decode cX7_paysAll 0 = .ok (.aload_n 0, 1) := by decide +kernel
theorem dX7_paysAll_1 : decode cX7_paysAll 1 = .ok (.invokevirtual 246, 3) := by decide +kernel
theorem dX7_paysAll_4 : decode cX7_paysAll 4 = .ok (.istore_n 1, 1) := by decide +kernel
theorem dX7_paysAll_5 : decode cX7_paysAll 5 = .ok (.iload_n 1, 1) := by decide +kernel
theorem dX7_paysAll_6 : decode cX7_paysAll 6 = .ok (.bipush (-6), 2) := by decide +kernel
theorem dX7_paysAll_8 : decode cX7_paysAll 8 = .ok (.if_icmp .eq 16, 3) := by decide +kernel
theorem dX7_paysAll_11 : decode cX7_paysAll 11 = .ok (.aload_n 0, 1) := by decide +kernel
theorem dX7_paysAll_12 : decode cX7_paysAll 12 = .ok (.iload_n 1, 1) := by decide +kernel
theorem dX7_paysAll_13 : decode cX7_paysAll 13 = .ok (.invokevirtual 249, 3) := by decide +kernel
theorem dX7_paysAll_16 : decode cX7_paysAll 16 = .ok (.aload_n 0, 1) := by decide +kernel
theorem dX7_paysAll_17 : decode cX7_paysAll 17 = .ok (.invokevirtual 246, 3) := by decide +kernel
theorem dX7_paysAll_20 : decode cX7_paysAll 20 = .ok (.istore_n 1, 1) := by decide +kernel
theorem dX7_paysAll_21 : decode cX7_paysAll 21 = .ok (.goto (-16), 3) := by decide +kernel
theorem dX7_paysAll_24 : decode cX7_paysAll 24 = .ok (.iconst 0, 1) := by decide +kernel
theorem dX7_paysAll_25 : decode cX7_paysAll 25 = .ok (.istore_n 2, 1) := by decide +kernel
theorem dX7_paysAll_26 : decode cX7_paysAll 26 = .ok (.iload_n 2, 1) := by decide +kernel
theorem dX7_paysAll_27 : decode cX7_paysAll 27 = .ok (.i2l, 1) := by decide +kernel
theorem dX7_paysAll_28 : decode cX7_paysAll 28 = .ok (.aload_n 0, 1) := by decide +kernel
theorem dX7_paysAll_29 : decode cX7_paysAll 29 = .ok (.getfield 7, 3) := by decide +kernel
theorem dX7_paysAll_32 : decode cX7_paysAll 32 = .ok (.iconst 4, 1) := by decide +kernel
theorem dX7_paysAll_33 : decode cX7_paysAll 33 = .ok (.laload, 1) := by decide +kernel
theorem dX7_paysAll_34 : decode cX7_paysAll 34 = .ok (.lcmp, 1) := by decide +kernel
theorem dX7_paysAll_35 : decode cX7_paysAll 35 = .ok (.ifCond .ge 21, 3) := by decide +kernel
theorem dX7_paysAll_38 : decode cX7_paysAll 38 = .ok (.aload_n 0, 1) := by decide +kernel
theorem dX7_paysAll_39 : decode cX7_paysAll 39 = .ok (.getfield 17, 3) := by decide +kernel
theorem dX7_paysAll_42 : decode cX7_paysAll 42 = .ok (.iload_n 2, 1) := by decide +kernel
theorem dX7_paysAll_43 : decode cX7_paysAll 43 = .ok (.dup2, 1) := by decide +kernel
theorem dX7_paysAll_44 : decode cX7_paysAll 44 = .ok (.laload, 1) := by decide +kernel
theorem dX7_paysAll_45 : decode cX7_paysAll 45 = .ok (.ldc2_w 208, 3) := by decide +kernel
theorem dX7_paysAll_48 : decode cX7_paysAll 48 = .ok (.lrem, 1) := by decide +kernel
theorem dX7_paysAll_49 : decode cX7_paysAll 49 = .ok (.lastore, 1) := by decide +kernel
theorem dX7_paysAll_50 : decode cX7_paysAll 50 = .ok (.iinc 2 1, 3) := by decide +kernel
theorem dX7_paysAll_53 : decode cX7_paysAll 53 = .ok (.goto (-27), 3) := by decide +kernel
theorem dX7_paysAll_56 : decode cX7_paysAll 56 = .ok (.return_, 1) := by decide +kernel
theorem dX7_owes_0 : decode cX7_owes 0 = .ok (.aload_n 0, 1) := by decide +kernel
theorem dX7_owes_1 : decode cX7_owes 1 = .ok (.iload_n 1, 1) := by decide +kernel
theorem dX7_owes_2 : decode cX7_owes 2 = .ok (.iconst 0, 1) := by decide +kernel
theorem dX7_owes_3 : decode cX7_owes 3 = .ok (.invokevirtual 141, 3) := by decide +kernel
theorem dX7_owes_6 : decode cX7_owes 6 = .ok (.lstore_n 2, 1) := by decide +kernel
theorem dX7_owes_7 : decode cX7_owes 7 = .ok (.aload_n 0, 1) := by decide +kernel
theorem dX7_owes_8 : decode cX7_owes 8 = .ok (.getfield 7, 3) := by decide +kernel
theorem dX7_owes_11 : decode cX7_owes 11 = .ok (.bipush 11, 2) := by decide +kernel
theorem dX7_owes_13 : decode cX7_owes 13 = .ok (.laload, 1) := by decide +kernel
theorem dX7_owes_14 : decode cX7_owes 14 = .ok (.l2f, 1) := by decide +kernel
theorem dX7_owes_15 : decode cX7_owes 15 = .ok (.ldc 252, 2) := by decide +kernel
theorem dX7_owes_17 : decode cX7_owes 17 = .ok (.fdiv, 1) := by decide +kernel
theorem dX7_owes_18 : decode cX7_owes 18 = .ok (.fstore 4, 2) := by decide +kernel
theorem dX7_owes_20 : decode cX7_owes 20 = .ok (.lload_n 2, 1) := by decide +kernel
theorem dX7_owes_21 : decode cX7_owes 21 = .ok (.lconst 0, 1) := by decide +kernel
theorem dX7_owes_22 : decode cX7_owes 22 = .ok (.lcmp, 1) := by decide +kernel
theorem dX7_owes_23 : decode cX7_owes 23 = .ok (.ifCond .ge 23, 3) := by decide +kernel
theorem dX7_owes_26 : decode cX7_owes 26 = .ok (.aload_n 0, 1) := by decide +kernel
theorem dX7_owes_27 : decode cX7_owes 27 = .ok (.getfield 13, 3) := by decide +kernel
theorem dX7_owes_30 : decode cX7_owes 30 = .ok (.iload_n 1, 1) := by decide +kernel
theorem dX7_owes_31 : decode cX7_owes 31 = .ok (.dup2, 1) := by decide +kernel
theorem dX7_owes_32 : decode cX7_owes 32 = .ok (.daload, 1) := by decide +kernel
theorem dX7_owes_33 : decode cX7_owes 33 = .ok (.lload_n 2, 1) := by decide +kernel
theorem dX7_owes_34 : decode cX7_owes 34 = .ok (.lneg, 1) := by decide +kernel
theorem dX7_owes_35 : decode cX7_owes 35 = .ok (.l2d, 1) := by decide +kernel
theorem dX7_owes_36 : decode cX7_owes 36 = .ok (.fload 4, 2) := by decide +kernel
theorem dX7_owes_38 : decode cX7_owes 38 = .ok (.f2d, 1) := by decide +kernel
theorem dX7_owes_39 : decode cX7_owes 39 = .ok (.dmul, 1) := by decide +kernel
theorem dX7_owes_40 : decode cX7_owes 40 = .ok (.ldc2_w 253, 3) := by decide +kernel
theorem dX7_owes_43 : decode cX7_owes 43 = .ok (.ddiv, 1) := by decide +kernel
theorem dX7_owes_44 : decode cX7_owes 44 = .ok (.dadd, 1) := by decide +kernel
theorem dX7_owes_45 : decode cX7_owes 45 = .ok (.dastore, 1) := by decide +kernel
theorem dX7_owes_46 : decode cX7_owes 46 = .ok (.aload_n 0, 1) := by decide +kernel
theorem dX7_owes_47 : decode cX7_owes 47 = .ok (.invokevirtual 66, 3) := by decide +kernel
theorem dX7_owes_50 : decode cX7_owes 50 = .ok (.invokestatic 94, 3) := by decide +kernel
theorem dX7_owes_53 : decode cX7_owes 53 = .ok (.istore 5, 2) := by decide +kernel
theorem dX7_owes_55 : decode cX7_owes 55 = .ok (.aload_n 0, 1) := by decide +kernel
theorem dX7_owes_56 : decode cX7_owes 56 = .ok (.invokevirtual 66, 3) := by decide +kernel
theorem dX7_owes_59 : decode cX7_owes 59 = .ok (.iload 5, 2) := by decide +kernel
theorem dX7_owes_61 : decode cX7_owes 61 = .ok (.invokestatic 78, 3) := by decide +kernel
theorem dX7_owes_64 : decode cX7_owes 64 = .ok (.iload 5, 2) := by decide +kernel
theorem dX7_owes_66 : decode cX7_owes 66 = .ok (.invokestatic 75, 3) := by decide +kernel
theorem dX7_owes_69 : decode cX7_owes 69 = .ok (.iadd, 1) := by decide +kernel
theorem dX7_owes_70 : decode cX7_owes 70 = .ok (.iconst 1, 1) := by decide +kernel
theorem dX7_owes_71 : decode cX7_owes 71 = .ok (.isub, 1) := by decide +kernel
theorem dX7_owes_72 : decode cX7_owes 72 = .ok (.if_icmp .ne 42, 3) := by decide +kernel
theorem dX7_owes_75 : decode cX7_owes 75 = .ok (.aload_n 0, 1) := by decide +kernel
theorem dX7_owes_76 : decode cX7_owes 76 = .ok (.getfield 13, 3) := by decide +kernel
theorem dX7_owes_79 : decode cX7_owes 79 = .ok (.iload_n 1, 1) := by decide +kernel
theorem dX7_owes_80 : decode cX7_owes 80 = .ok (.daload, 1) := by decide +kernel
theorem dX7_owes_81 : decode cX7_owes 81 = .ok (.d2l, 1) := by decide +kernel
theorem dX7_owes_82 : decode cX7_owes 82 = .ok (.lstore 6, 2) := by decide +kernel
theorem dX7_owes_84 : decode cX7_owes 84 = .ok (.aload_n 0, 1) := by decide +kernel
theorem dX7_owes_85 : decode cX7_owes 85 = .ok (.iload_n 1, 1) := by decide +kernel
theorem dX7_owes_86 : decode cX7_owes 86 = .ok (.iconst 0, 1) := by decide +kernel
theorem dX7_owes_87 : decode cX7_owes 87 = .ok (.lload 6, 2) := by decide +kernel
theorem dX7_owes_89 : decode cX7_owes 89 = .ok (.lneg, 1) := by decide +kernel
theorem dX7_owes_90 : decode cX7_owes 90 = .ok (.invokevirtual 137, 3) := by decide +kernel
theorem dX7_owes_93 : decode cX7_owes 93 = .ok (.aload_n 0, 1) := by decide +kernel
theorem dX7_owes_94 : decode cX7_owes 94 = .ok (.iload_n 1, 1) := by decide +kernel
theorem dX7_owes_95 : decode cX7_owes 95 = .ok (.bipush 7, 2) := by decide +kernel
theorem dX7_owes_97 : decode cX7_owes 97 = .ok (.lload 6, 2) := by decide +kernel
theorem dX7_owes_99 : decode cX7_owes 99 = .ok (.invokevirtual 137, 3) := by decide +kernel
theorem dX7_owes_102 : decode cX7_owes 102 = .ok (.aload_n 0, 1) := by decide +kernel
theorem dX7_owes_103 : decode cX7_owes 103 = .ok (.getfield 13, 3) := by decide +kernel
theorem dX7_owes_106 : decode cX7_owes 106 = .ok (.iload_n 1, 1) := by decide +kernel
theorem dX7_owes_107 : decode cX7_owes 107 = .ok (.dup2, 1) := by decide +kernel
theorem dX7_owes_108 : decode cX7_owes 108 = .ok (.daload, 1) := by decide +kernel
theorem dX7_owes_109 : decode cX7_owes 109 = .ok (.lload 6, 2) := by decide +kernel
theorem dX7_owes_111 : decode cX7_owes 111 = .ok (.l2d, 1) := by decide +kernel
theorem dX7_owes_112 : decode cX7_owes 112 = .ok (.dsub, 1) := by decide +kernel
theorem dX7_owes_113 : decode cX7_owes 113 = .ok (.dastore, 1) := by decide +kernel
theorem dX7_owes_114 : decode cX7_owes 114 = .ok (.return_, 1) := by decide +kernel
theorem dX7_passesDay_0 : decode cX7_passesDay 0 = .ok (.aload_n 0, 1) := by decide +kernel
theorem dX7_passesDay_1 : decode cX7_passesDay 1 = .ok (.iconst 0, 1) := by decide +kernel
theorem dX7_passesDay_2 : decode cX7_passesDay 2 = .ok (.putfield 241, 3) := by decide +kernel
theorem dX7_passesDay_5 : decode cX7_passesDay 5 = .ok (.iconst 0, 1) := by decide +kernel
theorem dX7_passesDay_6 : decode cX7_passesDay 6 = .ok (.istore_n 1, 1) := by decide +kernel
theorem dX7_passesDay_7 : decode cX7_passesDay 7 = .ok (.iload_n 1, 1) := by decide +kernel
theorem dX7_passesDay_8 : decode cX7_passesDay 8 = .ok (.i2l, 1) := by decide +kernel
theorem dX7_passesDay_9 : decode cX7_passesDay 9 = .ok (.aload_n 0, 1) := by decide +kernel
theorem dX7_passesDay_10 : decode cX7_passesDay 10 = .ok (.getfield 7, 3) := by decide +kernel
theorem dX7_passesDay_13 : decode cX7_passesDay 13 = .ok (.iconst 2, 1) := by decide +kernel
theorem dX7_passesDay_14 : decode cX7_passesDay 14 = .ok (.laload, 1) := by decide +kernel
theorem dX7_passesDay_15 : decode cX7_passesDay 15 = .ok (.lcmp, 1) := by decide +kernel
theorem dX7_passesDay_16 : decode cX7_passesDay 16 = .ok (.ifCond .ge 24, 3) := by decide +kernel
theorem dX7_passesDay_19 : decode cX7_passesDay 19 = .ok (.aload_n 0, 1) := by decide +kernel
theorem dX7_passesDay_20 : decode cX7_passesDay 20 = .ok (.iload_n 1, 1) := by decide +kernel
theorem dX7_passesDay_21 : decode cX7_passesDay 21 = .ok (.bipush 10, 2) := by decide +kernel
theorem dX7_passesDay_23 : decode cX7_passesDay 23 = .ok (.invokevirtual 151, 3) := by decide +kernel
theorem dX7_passesDay_26 : decode cX7_passesDay 26 = .ok (.ifCond .ne 8, 3) := by decide +kernel
theorem dX7_passesDay_29 : decode cX7_passesDay 29 = .ok (.aload_n 0, 1) := by decide +kernel
theorem dX7_passesDay_30 : decode cX7_passesDay 30 = .ok (.iload_n 1, 1) := by decide +kernel
theorem dX7_passesDay_31 : decode cX7_passesDay 31 = .ok (.invokevirtual 255, 3) := by decide +kernel
theorem dX7_passesDay_34 : decode cX7_passesDay 34 = .ok (.iinc 1 1, 3) := by decide +kernel
theorem dX7_passesDay_37 : decode cX7_passesDay 37 = .ok (.goto (-30), 3) := by decide +kernel
theorem dX7_passesDay_40 : decode cX7_passesDay 40 = .ok (.iconst 0, 1) := by decide +kernel
theorem dX7_passesDay_41 : decode cX7_passesDay 41 = .ok (.istore_n 1, 1) := by decide +kernel
theorem dX7_passesDay_42 : decode cX7_passesDay 42 = .ok (.iload_n 1, 1) := by decide +kernel
theorem dX7_passesDay_43 : decode cX7_passesDay 43 = .ok (.i2l, 1) := by decide +kernel
theorem dX7_passesDay_44 : decode cX7_passesDay 44 = .ok (.aload_n 0, 1) := by decide +kernel
theorem dX7_passesDay_45 : decode cX7_passesDay 45 = .ok (.getfield 7, 3) := by decide +kernel
theorem dX7_passesDay_48 : decode cX7_passesDay 48 = .ok (.iconst 1, 1) := by decide +kernel
theorem dX7_passesDay_49 : decode cX7_passesDay 49 = .ok (.laload, 1) := by decide +kernel
theorem dX7_passesDay_50 : decode cX7_passesDay 50 = .ok (.lcmp, 1) := by decide +kernel
theorem dX7_passesDay_51 : decode cX7_passesDay 51 = .ok (.ifCond .ge 14, 3) := by decide +kernel
theorem dX7_passesDay_54 : decode cX7_passesDay 54 = .ok (.aload_n 0, 1) := by decide +kernel
theorem dX7_passesDay_55 : decode cX7_passesDay 55 = .ok (.iload_n 1, 1) := by decide +kernel
theorem dX7_passesDay_56 : decode cX7_passesDay 56 = .ok (.invokevirtual 258, 3) := by decide +kernel
theorem dX7_passesDay_59 : decode cX7_passesDay 59 = .ok (.iinc 1 1, 3) := by decide +kernel
theorem dX7_passesDay_62 : decode cX7_passesDay 62 = .ok (.goto (-20), 3) := by decide +kernel
theorem dX7_passesDay_65 : decode cX7_passesDay 65 = .ok (.aload_n 0, 1) := by decide +kernel
theorem dX7_passesDay_66 : decode cX7_passesDay 66 = .ok (.aload_n 0, 1) := by decide +kernel
theorem dX7_passesDay_67 : decode cX7_passesDay 67 = .ok (.invokevirtual 66, 3) := by decide +kernel
theorem dX7_passesDay_70 : decode cX7_passesDay 70 = .ok (.invokevirtual 88, 3) := by decide +kernel
theorem dX7_passesDay_73 : decode cX7_passesDay 73 = .ok (.ifCond .eq 7, 3) := by decide +kernel
theorem dX7_passesDay_76 : decode cX7_passesDay 76 = .ok (.aload_n 0, 1) := by decide +kernel
theorem dX7_passesDay_77 : decode cX7_passesDay 77 = .ok (.invokevirtual 261, 3) := by decide +kernel
theorem dX7_passesDay_80 : decode cX7_passesDay 80 = .ok (.iconst 0, 1) := by decide +kernel
theorem dX7_passesDay_81 : decode cX7_passesDay 81 = .ok (.istore_n 1, 1) := by decide +kernel
theorem dX7_passesDay_82 : decode cX7_passesDay 82 = .ok (.iload_n 1, 1) := by decide +kernel
theorem dX7_passesDay_83 : decode cX7_passesDay 83 = .ok (.i2l, 1) := by decide +kernel
theorem dX7_passesDay_84 : decode cX7_passesDay 84 = .ok (.aload_n 0, 1) := by decide +kernel
theorem dX7_passesDay_85 : decode cX7_passesDay 85 = .ok (.getfield 7, 3) := by decide +kernel
theorem dX7_passesDay_88 : decode cX7_passesDay 88 = .ok (.iconst 1, 1) := by decide +kernel
theorem dX7_passesDay_89 : decode cX7_passesDay 89 = .ok (.laload, 1) := by decide +kernel
theorem dX7_passesDay_90 : decode cX7_passesDay 90 = .ok (.lcmp, 1) := by decide +kernel
theorem dX7_passesDay_91 : decode cX7_passesDay 91 = .ok (.ifCond .ge 14, 3) := by decide +kernel
theorem dX7_passesDay_94 : decode cX7_passesDay 94 = .ok (.aload_n 0, 1) := by decide +kernel
theorem dX7_passesDay_95 : decode cX7_passesDay 95 = .ok (.iload_n 1, 1) := by decide +kernel
theorem dX7_passesDay_96 : decode cX7_passesDay 96 = .ok (.invokevirtual 264, 3) := by decide +kernel
theorem dX7_passesDay_99 : decode cX7_passesDay 99 = .ok (.iinc 1 1, 3) := by decide +kernel
theorem dX7_passesDay_102 : decode cX7_passesDay 102 = .ok (.goto (-20), 3) := by decide +kernel
theorem dX7_passesDay_105 : decode cX7_passesDay 105 = .ok (.aload_n 0, 1) := by decide +kernel
theorem dX7_passesDay_106 : decode cX7_passesDay 106 = .ok (.getfield 7, 3) := by decide +kernel
theorem dX7_passesDay_109 : decode cX7_passesDay 109 = .ok (.iconst 0, 1) := by decide +kernel
theorem dX7_passesDay_110 : decode cX7_passesDay 110 = .ok (.dup2, 1) := by decide +kernel
theorem dX7_passesDay_111 : decode cX7_passesDay 111 = .ok (.laload, 1) := by decide +kernel
theorem dX7_passesDay_112 : decode cX7_passesDay 112 = .ok (.lconst 1, 1) := by decide +kernel
theorem dX7_passesDay_113 : decode cX7_passesDay 113 = .ok (.ladd, 1) := by decide +kernel
theorem dX7_passesDay_114 : decode cX7_passesDay 114 = .ok (.lastore, 1) := by decide +kernel
theorem dX7_passesDay_115 : decode cX7_passesDay 115 = .ok (.return_, 1) := by decide +kernel
theorem dX7_checksDays_0 : decode cX7_checksDays 0 = .ok (.iload_n 1, 1) := by decide +kernel
theorem dX7_checksDays_1 : decode cX7_checksDays 1 = .ok (.i2l, 1) := by decide +kernel
theorem dX7_checksDays_2 : decode cX7_checksDays 2 = .ok (.lconst 1, 1) := by decide +kernel
theorem dX7_checksDays_3 : decode cX7_checksDays 3 = .ok (.ldc2_w 267, 3) := by decide +kernel
theorem dX7_checksDays_6 : decode cX7_checksDays 6 = .ok (.invokestatic 47, 3) := by decide +kernel
theorem dX7_checksDays_9 : decode cX7_checksDays 9 = .ok (.ifCond .ne 6, 3) := by decide +kernel
theorem dX7_checksDays_12 : decode cX7_checksDays 12 = .ok (.bipush (-2), 2) := by decide +kernel
theorem dX7_checksDays_14 : decode cX7_checksDays 14 = .ok (.ireturn, 1) := by decide +kernel
theorem dX7_checksDays_15 : decode cX7_checksDays 15 = .ok (.aload_n 0, 1) := by decide +kernel
theorem dX7_checksDays_16 : decode cX7_checksDays 16 = .ok (.invokevirtual 66, 3) := by decide +kernel
theorem dX7_checksDays_19 : decode cX7_checksDays 19 = .ok (.iload_n 1, 1) := by decide +kernel
theorem dX7_checksDays_20 : decode cX7_checksDays 20 = .ok (.iadd, 1) := by decide +kernel
theorem dX7_checksDays_21 : decode cX7_checksDays 21 = .ok (.sipush 1094, 3) := by decide +kernel
theorem dX7_checksDays_24 : decode cX7_checksDays 24 = .ok (.if_icmp .le 8, 3) := by decide +kernel
theorem dX7_checksDays_27 : decode cX7_checksDays 27 = .ok (.bipush (-5), 2) := by decide +kernel
theorem dX7_checksDays_29 : decode cX7_checksDays 29 = .ok (.goto 4, 3) := by decide +kernel
theorem dX7_checksDays_32 : decode cX7_checksDays 32 = .ok (.iconst 0, 1) := by decide +kernel
theorem dX7_checksDays_33 : decode cX7_checksDays 33 = .ok (.ireturn, 1) := by decide +kernel
theorem dX7_passesDays_0 : decode cX7_passesDays 0 = .ok (.iconst 0, 1) := by decide +kernel
theorem dX7_passesDays_1 : decode cX7_passesDays 1 = .ok (.istore_n 2, 1) := by decide +kernel
theorem dX7_passesDays_2 : decode cX7_passesDays 2 = .ok (.iload_n 2, 1) := by decide +kernel
theorem dX7_passesDays_3 : decode cX7_passesDays 3 = .ok (.iload_n 1, 1) := by decide +kernel
theorem dX7_passesDays_4 : decode cX7_passesDays 4 = .ok (.if_icmp .ge 23, 3) := by decide +kernel
theorem dX7_passesDays_7 : decode cX7_passesDays 7 = .ok (.aload_n 0, 1) := by decide +kernel
theorem dX7_passesDays_8 : decode cX7_passesDays 8 = .ok (.invokevirtual 66, 3) := by decide +kernel
theorem dX7_passesDays_11 : decode cX7_passesDays 11 = .ok (.sipush 1094, 3) := by decide +kernel
theorem dX7_passesDays_14 : decode cX7_passesDays 14 = .ok (.if_icmp .ge 13, 3) := by decide +kernel
theorem dX7_passesDays_17 : decode cX7_passesDays 17 = .ok (.aload_n 0, 1) := by decide +kernel
theorem dX7_passesDays_18 : decode cX7_passesDays 18 = .ok (.invokevirtual 269, 3) := by decide +kernel
theorem dX7_passesDays_21 : decode cX7_passesDays 21 = .ok (.iinc 2 1, 3) := by decide +kernel
theorem dX7_passesDays_24 : decode cX7_passesDays 24 = .ok (.goto (-22), 3) := by decide +kernel
theorem dX7_passesDays_27 : decode cX7_passesDays 27 = .ok (.aload_n 0, 1) := by decide +kernel
theorem dX7_passesDays_28 : decode cX7_passesDays 28 = .ok (.invokevirtual 66, 3) := by decide +kernel
theorem dX7_passesDays_31 : decode cX7_passesDays 31 = .ok (.ireturn, 1) := by decide +kernel
theorem dX7_days_0 : decode cX7_days 0 = .ok (.aload_n 0, 1) := by decide +kernel
theorem dX7_days_1 : decode cX7_days 1 = .ok (.iload_n 1, 1) := by decide +kernel
theorem dX7_days_2 : decode cX7_days 2 = .ok (.invokevirtual 272, 3) := by decide +kernel
theorem dX7_days_5 : decode cX7_days 5 = .ok (.istore_n 2, 1) := by decide +kernel
theorem dX7_days_6 : decode cX7_days 6 = .ok (.iload_n 2, 1) := by decide +kernel
theorem dX7_days_7 : decode cX7_days 7 = .ok (.ifCond .eq 5, 3) := by decide +kernel
theorem dX7_days_10 : decode cX7_days 10 = .ok (.iload_n 2, 1) := by decide +kernel
theorem dX7_days_11 : decode cX7_days 11 = .ok (.ireturn, 1) := by decide +kernel
theorem dX7_days_12 : decode cX7_days 12 = .ok (.aload_n 0, 1) := by decide +kernel
theorem dX7_days_13 : decode cX7_days 13 = .ok (.invokevirtual 70, 3) := by decide +kernel
theorem dX7_days_16 : decode cX7_days 16 = .ok (.aload_n 0, 1) := by decide +kernel
theorem dX7_days_17 : decode cX7_days 17 = .ok (.iload_n 1, 1) := by decide +kernel
theorem dX7_days_18 : decode cX7_days 18 = .ok (.invokevirtual 275, 3) := by decide +kernel
theorem dX7_days_21 : decode cX7_days 21 = .ok (.ireturn, 1) := by decide +kernel
theorem dX7_money_0 : decode cX7_money 0 = .ok (.aload_n 0, 1) := by decide +kernel
theorem dX7_money_1 : decode cX7_money 1 = .ok (.iload_n 1, 1) := by decide +kernel
theorem dX7_money_2 : decode cX7_money 2 = .ok (.invokevirtual 129, 3) := by decide +kernel
theorem dX7_money_5 : decode cX7_money 5 = .ok (.ifCond .ne 7, 3) := by decide +kernel
theorem dX7_money_8 : decode cX7_money 8 = .ok (.ldc2_w 278, 3) := by decide +kernel
theorem dX7_money_11 : decode cX7_money 11 = .ok (.lreturn, 1) := by decide +kernel
theorem dX7_money_12 : decode cX7_money 12 = .ok (.iload_n 2, 1) := by decide +kernel
theorem dX7_money_13 : decode cX7_money 13 = .ok (.i2l, 1) := by decide +kernel
theorem dX7_money_14 : decode cX7_money 14 = .ok (.lconst 0, 1) := by decide +kernel
theorem dX7_money_15 : decode cX7_money 15 = .ok (.ldc2_w 125, 3) := by decide +kernel
theorem dX7_money_18 : decode cX7_money 18 = .ok (.invokestatic 47, 3) := by decide +kernel
theorem dX7_money_21 : decode cX7_money 21 = .ok (.ifCond .ne 7, 3) := by decide +kernel
theorem dX7_money_24 : decode cX7_money 24 = .ok (.ldc2_w 280, 3) := by decide +kernel
theorem dX7_money_27 : decode cX7_money 27 = .ok (.lreturn, 1) := by decide +kernel
theorem dX7_money_28 : decode cX7_money 28 = .ok (.iload_n 2, 1) := by decide +kernel
theorem dX7_money_29 : decode cX7_money 29 = .ok (.bipush 8, 2) := by decide +kernel
theorem dX7_money_31 : decode cX7_money 31 = .ok (.if_icmp .ne 11, 3) := by decide +kernel
theorem dX7_money_34 : decode cX7_money 34 = .ok (.aload_n 0, 1) := by decide +kernel
theorem dX7_money_35 : decode cX7_money 35 = .ok (.iload_n 1, 1) := by decide +kernel
theorem dX7_money_36 : decode cX7_money 36 = .ok (.invokevirtual 234, 3) := by decide +kernel
theorem dX7_money_39 : decode cX7_money 39 = .ok (.goto 9, 3) := by decide +kernel
theorem dX7_money_42 : decode cX7_money 42 = .ok (.aload_n 0, 1) := by decide +kernel
theorem dX7_money_43 : decode cX7_money 43 = .ok (.iload_n 1, 1) := by decide +kernel
theorem dX7_money_44 : decode cX7_money 44 = .ok (.iload_n 2, 1) := by decide +kernel
theorem dX7_money_45 : decode cX7_money 45 = .ok (.invokevirtual 141, 3) := by decide +kernel
theorem dX7_money_48 : decode cX7_money 48 = .ok (.lreturn, 1) := by decide +kernel
theorem dX7_bitsOf_0 : decode cX7_bitsOf 0 = .ok (.dload_n 0, 1) := by decide +kernel
theorem dX7_bitsOf_1 : decode cX7_bitsOf 1 = .ok (.dconst 0, 1) := by decide +kernel
theorem dX7_bitsOf_2 : decode cX7_bitsOf 2 = .ok (.dcmp .l, 1) := by decide +kernel
theorem dX7_bitsOf_3 : decode cX7_bitsOf 3 = .ok (.ifCond .ne 5, 3) := by decide +kernel
theorem dX7_bitsOf_6 : decode cX7_bitsOf 6 = .ok (.lconst 0, 1) := by decide +kernel
theorem dX7_bitsOf_7 : decode cX7_bitsOf 7 = .ok (.lreturn, 1) := by decide +kernel
theorem dX7_bitsOf_8 : decode cX7_bitsOf 8 = .ok (.ldc2_w 282, 3) := by decide +kernel
theorem dX7_bitsOf_11 : decode cX7_bitsOf 11 = .ok (.lstore_n 2, 1) := by decide +kernel
theorem dX7_bitsOf_12 : decode cX7_bitsOf 12 = .ok (.dload_n 0, 1) := by decide +kernel
theorem dX7_bitsOf_13 : decode cX7_bitsOf 13 = .ok (.dstore 4, 2) := by decide +kernel
theorem dX7_bitsOf_15 : decode cX7_bitsOf 15 = .ok (.dload 4, 2) := by decide +kernel
theorem dX7_bitsOf_17 : decode cX7_bitsOf 17 = .ok (.ldc2_w 284, 3) := by decide +kernel
theorem dX7_bitsOf_20 : decode cX7_bitsOf 20 = .ok (.dcmp .l, 1) := by decide +kernel
theorem dX7_bitsOf_21 : decode cX7_bitsOf 21 = .ok (.ifCond .lt 18, 3) := by decide +kernel
theorem dX7_bitsOf_24 : decode cX7_bitsOf 24 = .ok (.dload 4, 2) := by decide +kernel
theorem dX7_bitsOf_26 : decode cX7_bitsOf 26 = .ok (.ldc2_w 284, 3) := by decide +kernel
theorem dX7_bitsOf_29 : decode cX7_bitsOf 29 = .ok (.ddiv, 1) := by decide +kernel
theorem dX7_bitsOf_30 : decode cX7_bitsOf 30 = .ok (.dstore 4, 2) := by decide +kernel
theorem dX7_bitsOf_32 : decode cX7_bitsOf 32 = .ok (.lload_n 2, 1) := by decide +kernel
theorem dX7_bitsOf_33 : decode cX7_bitsOf 33 = .ok (.lconst 1, 1) := by decide +kernel
theorem dX7_bitsOf_34 : decode cX7_bitsOf 34 = .ok (.ladd, 1) := by decide +kernel
theorem dX7_bitsOf_35 : decode cX7_bitsOf 35 = .ok (.lstore_n 2, 1) := by decide +kernel
theorem dX7_bitsOf_36 : decode cX7_bitsOf 36 = .ok (.goto (-21), 3) := by decide +kernel
theorem dX7_bitsOf_39 : decode cX7_bitsOf 39 = .ok (.dload 4, 2) := by decide +kernel
theorem dX7_bitsOf_41 : decode cX7_bitsOf 41 = .ok (.dconst 1, 1) := by decide +kernel
theorem dX7_bitsOf_42 : decode cX7_bitsOf 42 = .ok (.dcmp .g, 1) := by decide +kernel
theorem dX7_bitsOf_43 : decode cX7_bitsOf 43 = .ok (.ifCond .ge 18, 3) := by decide +kernel
theorem dX7_bitsOf_46 : decode cX7_bitsOf 46 = .ok (.dload 4, 2) := by decide +kernel
theorem dX7_bitsOf_48 : decode cX7_bitsOf 48 = .ok (.ldc2_w 284, 3) := by decide +kernel
theorem dX7_bitsOf_51 : decode cX7_bitsOf 51 = .ok (.dmul, 1) := by decide +kernel
theorem dX7_bitsOf_52 : decode cX7_bitsOf 52 = .ok (.dstore 4, 2) := by decide +kernel
theorem dX7_bitsOf_54 : decode cX7_bitsOf 54 = .ok (.lload_n 2, 1) := by decide +kernel
theorem dX7_bitsOf_55 : decode cX7_bitsOf 55 = .ok (.lconst 1, 1) := by decide +kernel
theorem dX7_bitsOf_56 : decode cX7_bitsOf 56 = .ok (.lsub, 1) := by decide +kernel
theorem dX7_bitsOf_57 : decode cX7_bitsOf 57 = .ok (.lstore_n 2, 1) := by decide +kernel
theorem dX7_bitsOf_58 : decode cX7_bitsOf 58 = .ok (.goto (-19), 3) := by decide +kernel
theorem dX7_bitsOf_61 : decode cX7_bitsOf 61 = .ok (.lload_n 2, 1) := by decide +kernel
theorem dX7_bitsOf_62 : decode cX7_bitsOf 62 = .ok (.bipush 52, 2) := by decide +kernel
theorem dX7_bitsOf_64 : decode cX7_bitsOf 64 = .ok (.lshl, 1) := by decide +kernel
theorem dX7_bitsOf_65 : decode cX7_bitsOf 65 = .ok (.dload 4, 2) := by decide +kernel
theorem dX7_bitsOf_67 : decode cX7_bitsOf 67 = .ok (.dconst 1, 1) := by decide +kernel
theorem dX7_bitsOf_68 : decode cX7_bitsOf 68 = .ok (.dsub, 1) := by decide +kernel
theorem dX7_bitsOf_69 : decode cX7_bitsOf 69 = .ok (.ldc2_w 286, 3) := by decide +kernel
theorem dX7_bitsOf_72 : decode cX7_bitsOf 72 = .ok (.dmul, 1) := by decide +kernel
theorem dX7_bitsOf_73 : decode cX7_bitsOf 73 = .ok (.d2l, 1) := by decide +kernel
theorem dX7_bitsOf_74 : decode cX7_bitsOf 74 = .ok (.ladd, 1) := by decide +kernel
theorem dX7_bitsOf_75 : decode cX7_bitsOf 75 = .ok (.lreturn, 1) := by decide +kernel
theorem dX7_owedBits_0 : decode cX7_owedBits 0 = .ok (.aload_n 0, 1) := by decide +kernel
theorem dX7_owedBits_1 : decode cX7_owedBits 1 = .ok (.iload_n 1, 1) := by decide +kernel
theorem dX7_owedBits_2 : decode cX7_owedBits 2 = .ok (.invokevirtual 129, 3) := by decide +kernel
theorem dX7_owedBits_5 : decode cX7_owedBits 5 = .ok (.ifCond .eq 15, 3) := by decide +kernel
theorem dX7_owedBits_8 : decode cX7_owedBits 8 = .ok (.aload_n 0, 1) := by decide +kernel
theorem dX7_owedBits_9 : decode cX7_owedBits 9 = .ok (.getfield 13, 3) := by decide +kernel
theorem dX7_owedBits_12 : decode cX7_owedBits 12 = .ok (.iload_n 1, 1) := by decide +kernel
theorem dX7_owedBits_13 : decode cX7_owedBits 13 = .ok (.daload, 1) := by decide +kernel
theorem dX7_owedBits_14 : decode cX7_owedBits 14 = .ok (.invokestatic 288, 3) := by decide +kernel
theorem dX7_owedBits_17 : decode cX7_owedBits 17 = .ok (.goto 6, 3) := by decide +kernel
theorem dX7_owedBits_20 : decode cX7_owedBits 20 = .ok (.ldc2_w 278, 3) := by decide +kernel
theorem dX7_owedBits_23 : decode cX7_owedBits 23 = .ok (.lreturn, 1) := by decide +kernel
theorem dX7_ofOrder_0 : decode cX7_ofOrder 0 = .ok (.aload_n 0, 1) := by decide +kernel
theorem dX7_ofOrder_1 : decode cX7_ofOrder 1 = .ok (.iload_n 1, 1) := by decide +kernel
theorem dX7_ofOrder_2 : decode cX7_ofOrder 2 = .ok (.invokevirtual 173, 3) := by decide +kernel
theorem dX7_ofOrder_5 : decode cX7_ofOrder 5 = .ok (.ifCond .ne 5, 3) := by decide +kernel
theorem dX7_ofOrder_8 : decode cX7_ofOrder 8 = .ok (.iconst (-1), 1) := by decide +kernel
theorem dX7_ofOrder_9 : decode cX7_ofOrder 9 = .ok (.ireturn, 1) := by decide +kernel
theorem dX7_ofOrder_10 : decode cX7_ofOrder 10 = .ok (.iload_n 2, 1) := by decide +kernel
theorem dX7_ofOrder_11 : decode cX7_ofOrder 11 = .ok (.i2l, 1) := by decide +kernel
theorem dX7_ofOrder_12 : decode cX7_ofOrder 12 = .ok (.lconst 0, 1) := by decide +kernel
theorem dX7_ofOrder_13 : decode cX7_ofOrder 13 = .ok (.ldc2_w 292, 3) := by decide +kernel
theorem dX7_ofOrder_16 : decode cX7_ofOrder 16 = .ok (.invokestatic 47, 3) := by decide +kernel
theorem dX7_ofOrder_19 : decode cX7_ofOrder 19 = .ok (.ifCond .ne 6, 3) := by decide +kernel
theorem dX7_ofOrder_22 : decode cX7_ofOrder 22 = .ok (.bipush (-2), 2) := by decide +kernel
theorem dX7_ofOrder_24 : decode cX7_ofOrder 24 = .ok (.ireturn, 1) := by decide +kernel
theorem dX7_ofOrder_25 : decode cX7_ofOrder 25 = .ok (.iload_n 2, 1) := by decide +kernel
theorem dX7_ofOrder_26 : decode cX7_ofOrder 26 = .ok (.iconst 1, 1) := by decide +kernel
theorem dX7_ofOrder_27 : decode cX7_ofOrder 27 = .ok (.if_icmp .ne 26, 3) := by decide +kernel
theorem dX7_ofOrder_30 : decode cX7_ofOrder 30 = .ok (.aload_n 0, 1) := by decide +kernel
theorem dX7_ofOrder_31 : decode cX7_ofOrder 31 = .ok (.iload_n 1, 1) := by decide +kernel
theorem dX7_ofOrder_32 : decode cX7_ofOrder 32 = .ok (.iconst 1, 1) := by decide +kernel
theorem dX7_ofOrder_33 : decode cX7_ofOrder 33 = .ok (.invokevirtual 151, 3) := by decide +kernel
theorem dX7_ofOrder_36 : decode cX7_ofOrder 36 = .ok (.bipush 8, 2) := by decide +kernel
theorem dX7_ofOrder_38 : decode cX7_ofOrder 38 = .ok (.if_icmp .ne 8, 3) := by decide +kernel
theorem dX7_ofOrder_41 : decode cX7_ofOrder 41 = .ok (.bipush (-6), 2) := by decide +kernel
theorem dX7_ofOrder_43 : decode cX7_ofOrder 43 = .ok (.goto 9, 3) := by decide +kernel
theorem dX7_ofOrder_46 : decode cX7_ofOrder 46 = .ok (.aload_n 0, 1) := by decide +kernel
theorem dX7_ofOrder_47 : decode cX7_ofOrder 47 = .ok (.iload_n 1, 1) := by decide +kernel
theorem dX7_ofOrder_48 : decode cX7_ofOrder 48 = .ok (.iconst 1, 1) := by decide +kernel
theorem dX7_ofOrder_49 : decode cX7_ofOrder 49 = .ok (.invokevirtual 151, 3) := by decide +kernel
theorem dX7_ofOrder_52 : decode cX7_ofOrder 52 = .ok (.ireturn, 1) := by decide +kernel
theorem dX7_ofOrder_53 : decode cX7_ofOrder 53 = .ok (.iload_n 2, 1) := by decide +kernel
theorem dX7_ofOrder_54 : decode cX7_ofOrder 54 = .ok (.bipush 14, 2) := by decide +kernel
theorem dX7_ofOrder_56 : decode cX7_ofOrder 56 = .ok (.if_icmp .ne 9, 3) := by decide +kernel
theorem dX7_ofOrder_59 : decode cX7_ofOrder 59 = .ok (.aload_n 0, 1) := by decide +kernel
theorem dX7_ofOrder_60 : decode cX7_ofOrder 60 = .ok (.iload_n 1, 1) := by decide +kernel
theorem dX7_ofOrder_61 : decode cX7_ofOrder 61 = .ok (.invokevirtual 213, 3) := by decide +kernel
theorem dX7_ofOrder_64 : decode cX7_ofOrder 64 = .ok (.ireturn, 1) := by decide +kernel
theorem dX7_ofOrder_65 : decode cX7_ofOrder 65 = .ok (.iload_n 2, 1) := by decide +kernel
theorem dX7_ofOrder_66 : decode cX7_ofOrder 66 = .ok (.bipush 15, 2) := by decide +kernel
theorem dX7_ofOrder_68 : decode cX7_ofOrder 68 = .ok (.if_icmp .ge 10, 3) := by decide +kernel
theorem dX7_ofOrder_71 : decode cX7_ofOrder 71 = .ok (.aload_n 0, 1) := by decide +kernel
theorem dX7_ofOrder_72 : decode cX7_ofOrder 72 = .ok (.iload_n 1, 1) := by decide +kernel
theorem dX7_ofOrder_73 : decode cX7_ofOrder 73 = .ok (.iload_n 2, 1) := by decide +kernel
theorem dX7_ofOrder_74 : decode cX7_ofOrder 74 = .ok (.invokevirtual 151, 3) := by decide +kernel
theorem dX7_ofOrder_77 : decode cX7_ofOrder 77 = .ok (.ireturn, 1) := by decide +kernel
theorem dX7_ofOrder_78 : decode cX7_ofOrder 78 = .ok (.aload_n 0, 1) := by decide +kernel
theorem dX7_ofOrder_79 : decode cX7_ofOrder 79 = .ok (.iload_n 1, 1) := by decide +kernel
theorem dX7_ofOrder_80 : decode cX7_ofOrder 80 = .ok (.bipush 10, 2) := by decide +kernel
theorem dX7_ofOrder_82 : decode cX7_ofOrder 82 = .ok (.invokevirtual 151, 3) := by decide +kernel
theorem dX7_ofOrder_85 : decode cX7_ofOrder 85 = .ok (.iconst 2, 1) := by decide +kernel
theorem dX7_ofOrder_86 : decode cX7_ofOrder 86 = .ok (.if_icmp .ne 8, 3) := by decide +kernel
theorem dX7_ofOrder_89 : decode cX7_ofOrder 89 = .ok (.bipush (-6), 2) := by decide +kernel
theorem dX7_ofOrder_91 : decode cX7_ofOrder 91 = .ok (.goto 15, 3) := by decide +kernel
theorem dX7_ofOrder_94 : decode cX7_ofOrder 94 = .ok (.aload_n 0, 1) := by decide +kernel
theorem dX7_ofOrder_95 : decode cX7_ofOrder 95 = .ok (.iload_n 1, 1) := by decide +kernel
theorem dX7_ofOrder_96 : decode cX7_ofOrder 96 = .ok (.aload_n 0, 1) := by decide +kernel
theorem dX7_ofOrder_97 : decode cX7_ofOrder 97 = .ok (.iload_n 1, 1) := by decide +kernel
theorem dX7_ofOrder_98 : decode cX7_ofOrder 98 = .ok (.bipush 14, 2) := by decide +kernel
theorem dX7_ofOrder_100 : decode cX7_ofOrder 100 = .ok (.invokevirtual 151, 3) := by decide +kernel
theorem dX7_ofOrder_103 : decode cX7_ofOrder 103 = .ok (.invokevirtual 163, 3) := by decide +kernel
theorem dX7_ofOrder_106 : decode cX7_ofOrder 106 = .ok (.istore_n 3, 1) := by decide +kernel
theorem dX7_ofOrder_107 : decode cX7_ofOrder 107 = .ok (.iload_n 3, 1) := by decide +kernel
theorem dX7_ofOrder_108 : decode cX7_ofOrder 108 = .ok (.bipush (-6), 2) := by decide +kernel
theorem dX7_ofOrder_110 : decode cX7_ofOrder 110 = .ok (.if_icmp .ne 8, 3) := by decide +kernel
theorem dX7_ofOrder_113 : decode cX7_ofOrder 113 = .ok (.bipush (-6), 2) := by decide +kernel
theorem dX7_ofOrder_115 : decode cX7_ofOrder 115 = .ok (.goto 9, 3) := by decide +kernel
theorem dX7_ofOrder_118 : decode cX7_ofOrder 118 = .ok (.aload_n 0, 1) := by decide +kernel
theorem dX7_ofOrder_119 : decode cX7_ofOrder 119 = .ok (.iload_n 1, 1) := by decide +kernel
theorem dX7_ofOrder_120 : decode cX7_ofOrder 120 = .ok (.iload_n 3, 1) := by decide +kernel
theorem dX7_ofOrder_121 : decode cX7_ofOrder 121 = .ok (.invokevirtual 160, 3) := by decide +kernel
theorem dX7_ofOrder_124 : decode cX7_ofOrder 124 = .ok (.ireturn, 1) := by decide +kernel
theorem dX7_ofPayment_0 : decode cX7_ofPayment 0 = .ok (.iload_n 1, 1) := by decide +kernel
theorem dX7_ofPayment_1 : decode cX7_ofPayment 1 = .ok (.i2l, 1) := by decide +kernel
theorem dX7_ofPayment_2 : decode cX7_ofPayment 2 = .ok (.lconst 0, 1) := by decide +kernel
theorem dX7_ofPayment_3 : decode cX7_ofPayment 3 = .ok (.aload_n 0, 1) := by decide +kernel
theorem dX7_ofPayment_4 : decode cX7_ofPayment 4 = .ok (.getfield 7, 3) := by decide +kernel
theorem dX7_ofPayment_7 : decode cX7_ofPayment 7 = .ok (.iconst 4, 1) := by decide +kernel
theorem dX7_ofPayment_8 : decode cX7_ofPayment 8 = .ok (.laload, 1) := by decide +kernel
theorem dX7_ofPayment_9 : decode cX7_ofPayment 9 = .ok (.lconst 1, 1) := by decide +kernel
theorem dX7_ofPayment_10 : decode cX7_ofPayment 10 = .ok (.lsub, 1) := by decide +kernel
theorem dX7_ofPayment_11 : decode cX7_ofPayment 11 = .ok (.invokestatic 47, 3) := by decide +kernel
theorem dX7_ofPayment_14 : decode cX7_ofPayment 14 = .ok (.ifCond .ne 5, 3) := by decide +kernel
theorem dX7_ofPayment_17 : decode cX7_ofPayment 17 = .ok (.iconst (-1), 1) := by decide +kernel
theorem dX7_ofPayment_18 : decode cX7_ofPayment 18 = .ok (.ireturn, 1) := by decide +kernel
theorem dX7_ofPayment_19 : decode cX7_ofPayment 19 = .ok (.iload_n 2, 1) := by decide +kernel
theorem dX7_ofPayment_20 : decode cX7_ofPayment 20 = .ok (.i2l, 1) := by decide +kernel
theorem dX7_ofPayment_21 : decode cX7_ofPayment 21 = .ok (.lconst 0, 1) := by decide +kernel
theorem dX7_ofPayment_22 : decode cX7_ofPayment 22 = .ok (.ldc2_w 103, 3) := by decide +kernel
theorem dX7_ofPayment_25 : decode cX7_ofPayment 25 = .ok (.invokestatic 47, 3) := by decide +kernel
theorem dX7_ofPayment_28 : decode cX7_ofPayment 28 = .ok (.ifCond .eq 12, 3) := by decide +kernel
theorem dX7_ofPayment_31 : decode cX7_ofPayment 31 = .ok (.aload_n 0, 1) := by decide +kernel
theorem dX7_ofPayment_32 : decode cX7_ofPayment 32 = .ok (.iload_n 1, 1) := by decide +kernel
theorem dX7_ofPayment_33 : decode cX7_ofPayment 33 = .ok (.iload_n 2, 1) := by decide +kernel
theorem dX7_ofPayment_34 : decode cX7_ofPayment 34 = .ok (.invokevirtual 210, 3) := by decide +kernel
theorem dX7_ofPayment_37 : decode cX7_ofPayment 37 = .ok (.goto 5, 3) := by decide +kernel
theorem dX7_ofPayment_40 : decode cX7_ofPayment 40 = .ok (.bipush (-2), 2) := by decide +kernel
theorem dX7_ofPayment_42 : decode cX7_ofPayment 42 = .ok (.ireturn, 1) := by decide +kernel
theorem dX7_count_0 : decode cX7_count 0 = .ok (.iload_n 1, 1) := by decide +kernel
theorem dX7_count_1 : decode cX7_count 1 = .ok (.i2l, 1) := by decide +kernel
theorem dX7_count_2 : decode cX7_count 2 = .ok (.lconst 0, 1) := by decide +kernel
theorem dX7_count_3 : decode cX7_count 3 = .ok (.ldc2_w 125, 3) := by decide +kernel
theorem dX7_count_6 : decode cX7_count 6 = .ok (.invokestatic 47, 3) := by decide +kernel
theorem dX7_count_9 : decode cX7_count 9 = .ok (.ifCond .eq 9, 3) := by decide +kernel
theorem dX7_count_12 : decode cX7_count 12 = .ok (.aload_n 0, 1) := by decide +kernel
theorem dX7_count_13 : decode cX7_count 13 = .ok (.iload_n 1, 1) := by decide +kernel
theorem dX7_count_14 : decode cX7_count 14 = .ok (.invokevirtual 43, 3) := by decide +kernel
theorem dX7_count_17 : decode cX7_count 17 = .ok (.ireturn, 1) := by decide +kernel
theorem dX7_count_18 : decode cX7_count 18 = .ok (.iload_n 1, 1) := by decide +kernel
theorem dX7_count_19 : decode cX7_count 19 = .ok (.i2l, 1) := by decide +kernel
theorem dX7_count_20 : decode cX7_count 20 = .ok (.ldc2_w 294, 3) := by decide +kernel
theorem dX7_count_23 : decode cX7_count 23 = .ok (.ldc2_w 296, 3) := by decide +kernel
theorem dX7_count_26 : decode cX7_count 26 = .ok (.invokestatic 47, 3) := by decide +kernel
theorem dX7_count_29 : decode cX7_count 29 = .ok (.ifCond .eq 15, 3) := by decide +kernel
theorem dX7_count_32 : decode cX7_count 32 = .ok (.aload_n 0, 1) := by decide +kernel
theorem dX7_count_33 : decode cX7_count 33 = .ok (.bipush 9, 2) := by decide +kernel
theorem dX7_count_35 : decode cX7_count 35 = .ok (.iload_n 1, 1) := by decide +kernel
theorem dX7_count_36 : decode cX7_count 36 = .ok (.iadd, 1) := by decide +kernel
theorem dX7_count_37 : decode cX7_count 37 = .ok (.bipush 11, 2) := by decide +kernel
theorem dX7_count_39 : decode cX7_count 39 = .ok (.isub, 1) := by decide +kernel
theorem dX7_count_40 : decode cX7_count 40 = .ok (.invokevirtual 43, 3) := by decide +kernel
theorem dX7_count_43 : decode cX7_count 43 = .ok (.ireturn, 1) := by decide +kernel
theorem dX7_count_44 : decode cX7_count 44 = .ok (.iload_n 1, 1) := by decide +kernel
theorem dX7_count_45 : decode cX7_count 45 = .ok (.bipush 9, 2) := by decide +kernel
theorem dX7_count_47 : decode cX7_count 47 = .ok (.if_icmp .ne 8, 3) := by decide +kernel
theorem dX7_count_50 : decode cX7_count 50 = .ok (.aload_n 0, 1) := by decide +kernel
theorem dX7_count_51 : decode cX7_count 51 = .ok (.getfield 298, 3) := by decide +kernel
theorem dX7_count_54 : decode cX7_count 54 = .ok (.ireturn, 1) := by decide +kernel
theorem dX7_count_55 : decode cX7_count 55 = .ok (.iload_n 1, 1) := by decide +kernel
theorem dX7_count_56 : decode cX7_count 56 = .ok (.bipush 10, 2) := by decide +kernel
theorem dX7_count_58 : decode cX7_count 58 = .ok (.if_icmp .ne 10, 3) := by decide +kernel
theorem dX7_count_61 : decode cX7_count 61 = .ok (.aload_n 0, 1) := by decide +kernel
theorem dX7_count_62 : decode cX7_count 62 = .ok (.getfield 52, 3) := by decide +kernel
theorem dX7_count_65 : decode cX7_count 65 = .ok (.goto 5, 3) := by decide +kernel
theorem dX7_count_68 : decode cX7_count 68 = .ok (.bipush (-2), 2) := by decide +kernel
theorem dX7_count_70 : decode cX7_count 70 = .ok (.ireturn, 1) := by decide +kernel
theorem dX7_balanceIn_0 : decode cX7_balanceIn 0 = .ok (.aload_n 0, 1) := by decide +kernel
theorem dX7_balanceIn_1 : decode cX7_balanceIn 1 = .ok (.iload_n 1, 1) := by decide +kernel
theorem dX7_balanceIn_2 : decode cX7_balanceIn 2 = .ok (.invokevirtual 129, 3) := by decide +kernel
theorem dX7_balanceIn_5 : decode cX7_balanceIn 5 = .ok (.ifCond .ne 7, 3) := by decide +kernel
theorem dX7_balanceIn_8 : decode cX7_balanceIn 8 = .ok (.ldc2_w 278, 3) := by decide +kernel
theorem dX7_balanceIn_11 : decode cX7_balanceIn 11 = .ok (.lreturn, 1) := by decide +kernel
theorem dX7_balanceIn_12 : decode cX7_balanceIn 12 = .ok (.iload_n 2, 1) := by decide +kernel
theorem dX7_balanceIn_13 : decode cX7_balanceIn 13 = .ok (.i2l, 1) := by decide +kernel
theorem dX7_balanceIn_14 : decode cX7_balanceIn 14 = .ok (.lconst 1, 1) := by decide +kernel
theorem dX7_balanceIn_15 : decode cX7_balanceIn 15 = .ok (.ldc2_w 267, 3) := by decide +kernel
theorem dX7_balanceIn_18 : decode cX7_balanceIn 18 = .ok (.invokestatic 47, 3) := by decide +kernel
theorem dX7_balanceIn_21 : decode cX7_balanceIn 21 = .ok (.ifCond .ne 7, 3) := by decide +kernel
theorem dX7_balanceIn_24 : decode cX7_balanceIn 24 = .ok (.ldc2_w 280, 3) := by decide +kernel
theorem dX7_balanceIn_27 : decode cX7_balanceIn 27 = .ok (.lreturn, 1) := by decide +kernel
theorem dX7_balanceIn_28 : decode cX7_balanceIn 28 = .ok (.aload_n 0, 1) := by decide +kernel
theorem dX7_balanceIn_29 : decode cX7_balanceIn 29 = .ok (.bipush 8, 2) := by decide +kernel
theorem dX7_balanceIn_31 : decode cX7_balanceIn 31 = .ok (.invokevirtual 59, 3) := by decide +kernel
theorem dX7_balanceIn_34 : decode cX7_balanceIn 34 = .ok (.aload_n 0, 1) := by decide +kernel
theorem dX7_balanceIn_35 : decode cX7_balanceIn 35 = .ok (.iload_n 2, 1) := by decide +kernel
theorem dX7_balanceIn_36 : decode cX7_balanceIn 36 = .ok (.invokevirtual 275, 3) := by decide +kernel
theorem dX7_balanceIn_39 : decode cX7_balanceIn 39 = .ok (.pop, 1) := by decide +kernel
theorem dX7_balanceIn_40 : decode cX7_balanceIn 40 = .ok (.aload_n 0, 1) := by decide +kernel
theorem dX7_balanceIn_41 : decode cX7_balanceIn 41 = .ok (.iload_n 1, 1) := by decide +kernel
theorem dX7_balanceIn_42 : decode cX7_balanceIn 42 = .ok (.iconst 0, 1) := by decide +kernel
theorem dX7_balanceIn_43 : decode cX7_balanceIn 43 = .ok (.invokevirtual 141, 3) := by decide +kernel
theorem dX7_balanceIn_46 : decode cX7_balanceIn 46 = .ok (.lstore_n 3, 1) := by decide +kernel
theorem dX7_balanceIn_47 : decode cX7_balanceIn 47 = .ok (.aload_n 0, 1) := by decide +kernel
theorem dX7_balanceIn_48 : decode cX7_balanceIn 48 = .ok (.bipush 8, 2) := by decide +kernel
theorem dX7_balanceIn_50 : decode cX7_balanceIn 50 = .ok (.invokevirtual 63, 3) := by decide +kernel
theorem dX7_balanceIn_53 : decode cX7_balanceIn 53 = .ok (.lload_n 3, 1) := by decide +kernel
theorem dX7_balanceIn_54 : decode cX7_balanceIn 54 = .ok (.lreturn, 1) := by decide +kernel
theorem dX7_failsIn_0 : decode cX7_failsIn 0 = .ok (.iconst 0, 1) := by decide +kernel
theorem dX7_failsIn_1 : decode cX7_failsIn 1 = .ok (.istore_n 3, 1) := by decide +kernel
theorem dX7_failsIn_2 : decode cX7_failsIn 2 = .ok (.iload_n 3, 1) := by decide +kernel
theorem dX7_failsIn_3 : decode cX7_failsIn 3 = .ok (.iload_n 2, 1) := by decide +kernel
theorem dX7_failsIn_4 : decode cX7_failsIn 4 = .ok (.if_icmp .ge 41, 3) := by decide +kernel
theorem dX7_failsIn_7 : decode cX7_failsIn 7 = .ok (.aload_n 0, 1) := by decide +kernel
theorem dX7_failsIn_8 : decode cX7_failsIn 8 = .ok (.invokevirtual 66, 3) := by decide +kernel
theorem dX7_failsIn_11 : decode cX7_failsIn 11 = .ok (.sipush 1094, 3) := by decide +kernel
theorem dX7_failsIn_14 : decode cX7_failsIn 14 = .ok (.if_icmp .ge 31, 3) := by decide +kernel
theorem dX7_failsIn_17 : decode cX7_failsIn 17 = .ok (.aload_n 0, 1) := by decide +kernel
theorem dX7_failsIn_18 : decode cX7_failsIn 18 = .ok (.invokevirtual 66, 3) := by decide +kernel
theorem dX7_failsIn_21 : decode cX7_failsIn 21 = .ok (.istore 4, 2) := by decide +kernel
theorem dX7_failsIn_23 : decode cX7_failsIn 23 = .ok (.aload_n 0, 1) := by decide +kernel
theorem dX7_failsIn_24 : decode cX7_failsIn 24 = .ok (.invokevirtual 269, 3) := by decide +kernel
theorem dX7_failsIn_27 : decode cX7_failsIn 27 = .ok (.aload_n 0, 1) := by decide +kernel
theorem dX7_failsIn_28 : decode cX7_failsIn 28 = .ok (.getfield 241, 3) := by decide +kernel
theorem dX7_failsIn_31 : decode cX7_failsIn 31 = .ok (.iload_n 1, 1) := by decide +kernel
theorem dX7_failsIn_32 : decode cX7_failsIn 32 = .ok (.iand, 1) := by decide +kernel
theorem dX7_failsIn_33 : decode cX7_failsIn 33 = .ok (.ifCond .eq 6, 3) := by decide +kernel
theorem dX7_failsIn_36 : decode cX7_failsIn 36 = .ok (.iload 4, 2) := by decide +kernel
theorem dX7_failsIn_38 : decode cX7_failsIn 38 = .ok (.ireturn, 1) := by decide +kernel
theorem dX7_failsIn_39 : decode cX7_failsIn 39 = .ok (.iinc 3 1, 3) := by decide +kernel
theorem dX7_failsIn_42 : decode cX7_failsIn 42 = .ok (.goto (-40), 3) := by decide +kernel
theorem dX7_failsIn_45 : decode cX7_failsIn 45 = .ok (.bipush (-6), 2) := by decide +kernel
theorem dX7_failsIn_47 : decode cX7_failsIn 47 = .ok (.ireturn, 1) := by decide +kernel
theorem dX7_firstFailure_0 : decode cX7_firstFailure 0 = .ok (.iload_n 1, 1) := by decide +kernel
theorem dX7_firstFailure_1 : decode cX7_firstFailure 1 = .ok (.bipush (-6), 2) := by decide +kernel
theorem dX7_firstFailure_3 : decode cX7_firstFailure 3 = .ok (.if_icmp .eq 13, 3) := by decide +kernel
theorem dX7_firstFailure_6 : decode cX7_firstFailure 6 = .ok (.aload_n 0, 1) := by decide +kernel
theorem dX7_firstFailure_7 : decode cX7_firstFailure 7 = .ok (.iload_n 1, 1) := by decide +kernel
theorem dX7_firstFailure_8 : decode cX7_firstFailure 8 = .ok (.invokevirtual 129, 3) := by decide +kernel
theorem dX7_firstFailure_11 : decode cX7_firstFailure 11 = .ok (.ifCond .ne 5, 3) := by decide +kernel
theorem dX7_firstFailure_14 : decode cX7_firstFailure 14 = .ok (.iconst (-1), 1) := by decide +kernel
theorem dX7_firstFailure_15 : decode cX7_firstFailure 15 = .ok (.ireturn, 1) := by decide +kernel
theorem dX7_firstFailure_16 : decode cX7_firstFailure 16 = .ok (.aload_n 0, 1) := by decide +kernel
theorem dX7_firstFailure_17 : decode cX7_firstFailure 17 = .ok (.bipush 8, 2) := by decide +kernel
theorem dX7_firstFailure_19 : decode cX7_firstFailure 19 = .ok (.invokevirtual 59, 3) := by decide +kernel
theorem dX7_firstFailure_22 : decode cX7_firstFailure 22 = .ok (.aload_n 0, 1) := by decide +kernel
theorem dX7_firstFailure_23 : decode cX7_firstFailure 23 = .ok (.iload_n 1, 1) := by decide +kernel
theorem dX7_firstFailure_24 : decode cX7_firstFailure 24 = .ok (.bipush (-6), 2) := by decide +kernel
theorem dX7_firstFailure_26 : decode cX7_firstFailure 26 = .ok (.if_icmp .ne 9, 3) := by decide +kernel
theorem dX7_firstFailure_29 : decode cX7_firstFailure 29 = .ok (.sipush 255, 3) := by decide +kernel
theorem dX7_firstFailure_32 : decode cX7_firstFailure 32 = .ok (.goto 6, 3) := by decide +kernel
theorem dX7_firstFailure_35 : decode cX7_firstFailure 35 = .ok (.iconst 1, 1) := by decide +kernel
theorem dX7_firstFailure_36 : decode cX7_firstFailure 36 = .ok (.iload_n 1, 1) := by decide +kernel
theorem dX7_firstFailure_37 : decode cX7_firstFailure 37 = .ok (.ishl, 1) := by decide +kernel
theorem dX7_firstFailure_38 : decode cX7_firstFailure 38 = .ok (.sipush 400, 3) := by decide +kernel
theorem dX7_firstFailure_41 : decode cX7_firstFailure 41 = .ok (.invokevirtual 301, 3) := by decide +kernel
theorem dX7_firstFailure_44 : decode cX7_firstFailure 44 = .ok (.istore_n 2, 1) := by decide +kernel
theorem dX7_firstFailure_45 : decode cX7_firstFailure 45 = .ok (.aload_n 0, 1) := by decide +kernel
theorem dX7_firstFailure_46 : decode cX7_firstFailure 46 = .ok (.bipush 8, 2) := by decide +kernel
theorem dX7_firstFailure_48 : decode cX7_firstFailure 48 = .ok (.invokevirtual 63, 3) := by decide +kernel
theorem dX7_firstFailure_51 : decode cX7_firstFailure 51 = .ok (.iload_n 2, 1) := by decide +kernel
theorem dX7_firstFailure_52 : decode cX7_firstFailure 52 = .ok (.ireturn, 1) := by decide +kernel
theorem dX7_leastDeposit_0 : decode cX7_leastDeposit 0 = .ok (.aload_n 0, 1) := by decide +kernel
theorem dX7_leastDeposit_1 : decode cX7_leastDeposit 1 = .ok (.iload_n 1, 1) := by decide +kernel
theorem dX7_leastDeposit_2 : decode cX7_leastDeposit 2 = .ok (.invokevirtual 129, 3) := by decide +kernel
theorem dX7_leastDeposit_5 : decode cX7_leastDeposit 5 = .ok (.ifCond .ne 5, 3) := by decide +kernel
theorem dX7_leastDeposit_8 : decode cX7_leastDeposit 8 = .ok (.iconst (-1), 1) := by decide +kernel
theorem dX7_leastDeposit_9 : decode cX7_leastDeposit 9 = .ok (.ireturn, 1) := by decide +kernel
theorem dX7_leastDeposit_10 : decode cX7_leastDeposit 10 = .ok (.iload_n 2, 1) := by decide +kernel
theorem dX7_leastDeposit_11 : decode cX7_leastDeposit 11 = .ok (.i2l, 1) := by decide +kernel
theorem dX7_leastDeposit_12 : decode cX7_leastDeposit 12 = .ok (.lconst 1, 1) := by decide +kernel
theorem dX7_leastDeposit_13 : decode cX7_leastDeposit 13 = .ok (.ldc2_w 304, 3) := by decide +kernel
theorem dX7_leastDeposit_16 : decode cX7_leastDeposit 16 = .ok (.invokestatic 47, 3) := by decide +kernel
theorem dX7_leastDeposit_19 : decode cX7_leastDeposit 19 = .ok (.ifCond .ne 6, 3) := by decide +kernel
theorem dX7_leastDeposit_22 : decode cX7_leastDeposit 22 = .ok (.bipush (-2), 2) := by decide +kernel
theorem dX7_leastDeposit_24 : decode cX7_leastDeposit 24 = .ok (.ireturn, 1) := by decide +kernel
theorem dX7_leastDeposit_25 : decode cX7_leastDeposit 25 = .ok (.iconst 0, 1) := by decide +kernel
theorem dX7_leastDeposit_26 : decode cX7_leastDeposit 26 = .ok (.istore_n 3, 1) := by decide +kernel
theorem dX7_leastDeposit_27 : decode cX7_leastDeposit 27 = .ok (.iload_n 3, 1) := by decide +kernel
theorem dX7_leastDeposit_28 : decode cX7_leastDeposit 28 = .ok (.ldc_w 306, 3) := by decide +kernel
theorem dX7_leastDeposit_31 : decode cX7_leastDeposit 31 = .ok (.if_icmp .gt 51, 3) := by decide +kernel
theorem dX7_leastDeposit_34 : decode cX7_leastDeposit 34 = .ok (.aload_n 0, 1) := by decide +kernel
theorem dX7_leastDeposit_35 : decode cX7_leastDeposit 35 = .ok (.bipush 8, 2) := by decide +kernel
theorem dX7_leastDeposit_37 : decode cX7_leastDeposit 37 = .ok (.invokevirtual 59, 3) := by decide +kernel
theorem dX7_leastDeposit_40 : decode cX7_leastDeposit 40 = .ok (.aload_n 0, 1) := by decide +kernel
theorem dX7_leastDeposit_41 : decode cX7_leastDeposit 41 = .ok (.iload_n 1, 1) := by decide +kernel
theorem dX7_leastDeposit_42 : decode cX7_leastDeposit 42 = .ok (.iconst 0, 1) := by decide +kernel
theorem dX7_leastDeposit_43 : decode cX7_leastDeposit 43 = .ok (.iload_n 3, 1) := by decide +kernel
theorem dX7_leastDeposit_44 : decode cX7_leastDeposit 44 = .ok (.i2l, 1) := by decide +kernel
theorem dX7_leastDeposit_45 : decode cX7_leastDeposit 45 = .ok (.invokevirtual 137, 3) := by decide +kernel
theorem dX7_leastDeposit_48 : decode cX7_leastDeposit 48 = .ok (.aload_n 0, 1) := by decide +kernel
theorem dX7_leastDeposit_49 : decode cX7_leastDeposit 49 = .ok (.iconst 1, 1) := by decide +kernel
theorem dX7_leastDeposit_50 : decode cX7_leastDeposit 50 = .ok (.iload_n 1, 1) := by decide +kernel
theorem dX7_leastDeposit_51 : decode cX7_leastDeposit 51 = .ok (.ishl, 1) := by decide +kernel
theorem dX7_leastDeposit_52 : decode cX7_leastDeposit 52 = .ok (.iload_n 2, 1) := by decide +kernel
theorem dX7_leastDeposit_53 : decode cX7_leastDeposit 53 = .ok (.invokevirtual 301, 3) := by decide +kernel
theorem dX7_leastDeposit_56 : decode cX7_leastDeposit 56 = .ok (.istore 4, 2) := by decide +kernel
theorem dX7_leastDeposit_58 : decode cX7_leastDeposit 58 = .ok (.aload_n 0, 1) := by decide +kernel
theorem dX7_leastDeposit_59 : decode cX7_leastDeposit 59 = .ok (.bipush 8, 2) := by decide +kernel
theorem dX7_leastDeposit_61 : decode cX7_leastDeposit 61 = .ok (.invokevirtual 63, 3) := by decide +kernel
theorem dX7_leastDeposit_64 : decode cX7_leastDeposit 64 = .ok (.iload 4, 2) := by decide +kernel
theorem dX7_leastDeposit_66 : decode cX7_leastDeposit 66 = .ok (.bipush (-6), 2) := by decide +kernel
theorem dX7_leastDeposit_68 : decode cX7_leastDeposit 68 = .ok (.if_icmp .ne 5, 3) := by decide +kernel
theorem dX7_leastDeposit_71 : decode cX7_leastDeposit 71 = .ok (.iload_n 3, 1) := by decide +kernel
theorem dX7_leastDeposit_72 : decode cX7_leastDeposit 72 = .ok (.ireturn, 1) := by decide +kernel
theorem dX7_leastDeposit_73 : decode cX7_leastDeposit 73 = .ok (.iinc 3 5000, 6) := by decide +kernel
theorem dX7_leastDeposit_79 : decode cX7_leastDeposit 79 = .ok (.goto (-52), 3) := by decide +kernel
theorem dX7_leastDeposit_82 : decode cX7_leastDeposit 82 = .ok (.bipush (-6), 2) := by decide +kernel
theorem dX7_leastDeposit_84 : decode cX7_leastDeposit 84 = .ok (.ireturn, 1) := by decide +kernel
theorem dX7_ahead_0 : decode cX7_ahead 0 = .ok (.aload_n 0, 1) := by decide +kernel
theorem dX7_ahead_1 : decode cX7_ahead 1 = .ok (.iload_n 1, 1) := by decide +kernel
theorem dX7_ahead_2 : decode cX7_ahead 2 = .ok (.invokevirtual 173, 3) := by decide +kernel
theorem dX7_ahead_5 : decode cX7_ahead 5 = .ok (.ifCond .ne 5, 3) := by decide +kernel
theorem dX7_ahead_8 : decode cX7_ahead 8 = .ok (.iconst (-1), 1) := by decide +kernel
theorem dX7_ahead_9 : decode cX7_ahead 9 = .ok (.ireturn, 1) := by decide +kernel
theorem dX7_ahead_10 : decode cX7_ahead 10 = .ok (.iload_n 2, 1) := by decide +kernel
theorem dX7_ahead_11 : decode cX7_ahead 11 = .ok (.i2l, 1) := by decide +kernel
theorem dX7_ahead_12 : decode cX7_ahead 12 = .ok (.lconst 1, 1) := by decide +kernel
theorem dX7_ahead_13 : decode cX7_ahead 13 = .ok (.ldc2_w 267, 3) := by decide +kernel
theorem dX7_ahead_16 : decode cX7_ahead 16 = .ok (.invokestatic 47, 3) := by decide +kernel
theorem dX7_ahead_19 : decode cX7_ahead 19 = .ok (.ifCond .eq 15, 3) := by decide +kernel
theorem dX7_ahead_22 : decode cX7_ahead 22 = .ok (.iload_n 3, 1) := by decide +kernel
theorem dX7_ahead_23 : decode cX7_ahead 23 = .ok (.i2l, 1) := by decide +kernel
theorem dX7_ahead_24 : decode cX7_ahead 24 = .ok (.lconst 0, 1) := by decide +kernel
theorem dX7_ahead_25 : decode cX7_ahead 25 = .ok (.ldc2_w 37, 3) := by decide +kernel
theorem dX7_ahead_28 : decode cX7_ahead 28 = .ok (.invokestatic 47, 3) := by decide +kernel
theorem dX7_ahead_31 : decode cX7_ahead 31 = .ok (.ifCond .ne 6, 3) := by decide +kernel
theorem dX7_ahead_34 : decode cX7_ahead 34 = .ok (.bipush (-2), 2) := by decide +kernel
theorem dX7_ahead_36 : decode cX7_ahead 36 = .ok (.ireturn, 1) := by decide +kernel
theorem dX7_ahead_37 : decode cX7_ahead 37 = .ok (.aload_n 0, 1) := by decide +kernel
theorem dX7_ahead_38 : decode cX7_ahead 38 = .ok (.bipush 8, 2) := by decide +kernel
theorem dX7_ahead_40 : decode cX7_ahead 40 = .ok (.invokevirtual 59, 3) := by decide +kernel
theorem dX7_ahead_43 : decode cX7_ahead 43 = .ok (.iload_n 3, 1) := by decide +kernel
theorem dX7_ahead_44 : decode cX7_ahead 44 = .ok (.iconst 3, 1) := by decide +kernel
theorem dX7_ahead_45 : decode cX7_ahead 45 = .ok (.if_icmp .ne 7, 3) := by decide +kernel
theorem dX7_ahead_48 : decode cX7_ahead 48 = .ok (.iconst 0, 1) := by decide +kernel
theorem dX7_ahead_49 : decode cX7_ahead 49 = .ok (.goto 12, 3) := by decide +kernel
theorem dX7_ahead_52 : decode cX7_ahead 52 = .ok (.aload_n 0, 1) := by decide +kernel
theorem dX7_ahead_53 : decode cX7_ahead 53 = .ok (.iload_n 1, 1) := by decide +kernel
theorem dX7_ahead_54 : decode cX7_ahead 54 = .ok (.bipush 11, 2) := by decide +kernel
theorem dX7_ahead_56 : decode cX7_ahead 56 = .ok (.iload_n 3, 1) := by decide +kernel
theorem dX7_ahead_57 : decode cX7_ahead 57 = .ok (.iadd, 1) := by decide +kernel
theorem dX7_ahead_58 : decode cX7_ahead 58 = .ok (.invokevirtual 151, 3) := by decide +kernel
theorem dX7_ahead_61 : decode cX7_ahead 61 = .ok (.istore 4, 2) := by decide +kernel
theorem dX7_ahead_63 : decode cX7_ahead 63 = .ok (.aload_n 0, 1) := by decide +kernel
theorem dX7_ahead_64 : decode cX7_ahead 64 = .ok (.iload_n 2, 1) := by decide +kernel
theorem dX7_ahead_65 : decode cX7_ahead 65 = .ok (.invokevirtual 275, 3) := by decide +kernel
theorem dX7_ahead_68 : decode cX7_ahead 68 = .ok (.pop, 1) := by decide +kernel
theorem dX7_ahead_69 : decode cX7_ahead 69 = .ok (.iload_n 3, 1) := by decide +kernel
theorem dX7_ahead_70 : decode cX7_ahead 70 = .ok (.iconst 3, 1) := by decide +kernel
theorem dX7_ahead_71 : decode cX7_ahead 71 = .ok (.if_icmp .ne 11, 3) := by decide +kernel
theorem dX7_ahead_74 : decode cX7_ahead 74 = .ok (.aload_n 0, 1) := by decide +kernel
theorem dX7_ahead_75 : decode cX7_ahead 75 = .ok (.iload_n 1, 1) := by decide +kernel
theorem dX7_ahead_76 : decode cX7_ahead 76 = .ok (.invokevirtual 213, 3) := by decide +kernel
theorem dX7_ahead_79 : decode cX7_ahead 79 = .ok (.goto 12, 3) := by decide +kernel
theorem dX7_ahead_82 : decode cX7_ahead 82 = .ok (.aload_n 0, 1) := by decide +kernel
theorem dX7_ahead_83 : decode cX7_ahead 83 = .ok (.iload_n 1, 1) := by decide +kernel
theorem dX7_ahead_84 : decode cX7_ahead 84 = .ok (.bipush 11, 2) := by decide +kernel
theorem dX7_ahead_86 : decode cX7_ahead 86 = .ok (.iload_n 3, 1) := by decide +kernel
theorem dX7_ahead_87 : decode cX7_ahead 87 = .ok (.iadd, 1) := by decide +kernel
theorem dX7_ahead_88 : decode cX7_ahead 88 = .ok (.invokevirtual 151, 3) := by decide +kernel
theorem dX7_ahead_91 : decode cX7_ahead 91 = .ok (.istore 5, 2) := by decide +kernel
theorem dX7_ahead_93 : decode cX7_ahead 93 = .ok (.aload_n 0, 1) := by decide +kernel
theorem dX7_ahead_94 : decode cX7_ahead 94 = .ok (.bipush 8, 2) := by decide +kernel
theorem dX7_ahead_96 : decode cX7_ahead 96 = .ok (.invokevirtual 63, 3) := by decide +kernel
theorem dX7_ahead_99 : decode cX7_ahead 99 = .ok (.iload 5, 2) := by decide +kernel
theorem dX7_ahead_101 : decode cX7_ahead 101 = .ok (.iload 4, 2) := by decide +kernel
theorem dX7_ahead_103 : decode cX7_ahead 103 = .ok (.isub, 1) := by decide +kernel
theorem dX7_ahead_104 : decode cX7_ahead 104 = .ok (.ireturn, 1) := by decide +kernel
theorem dX7_put_0 : decode cX7_put 0 = .ok (.iconst 0, 1) := by decide +kernel
theorem dX7_put_1 : decode cX7_put 1 = .ok (.istore_n 3, 1) := by decide +kernel
theorem dX7_put_2 : decode cX7_put 2 = .ok (.iload_n 3, 1) := by decide +kernel
theorem dX7_put_3 : decode cX7_put 3 = .ok (.bipush 8, 2) := by decide +kernel
theorem dX7_put_5 : decode cX7_put 5 = .ok (.if_icmp .ge 55, 3) := by decide +kernel
theorem dX7_put_8 : decode cX7_put 8 = .ok (.lload_n 1, 1) := by decide +kernel
theorem dX7_put_9 : decode cX7_put 9 = .ok (.bipush 8, 2) := by decide +kernel
theorem dX7_put_11 : decode cX7_put 11 = .ok (.iload_n 3, 1) := by decide +kernel
theorem dX7_put_12 : decode cX7_put 12 = .ok (.imul, 1) := by decide +kernel
theorem dX7_put_13 : decode cX7_put 13 = .ok (.lshr, 1) := by decide +kernel
theorem dX7_put_14 : decode cX7_put 14 = .ok (.ldc2_w 307, 3) := by decide +kernel
theorem dX7_put_17 : decode cX7_put 17 = .ok (.land, 1) := by decide +kernel
theorem dX7_put_18 : decode cX7_put 18 = .ok (.lconst 0, 1) := by decide +kernel
theorem dX7_put_19 : decode cX7_put 19 = .ok (.lcmp, 1) := by decide +kernel
theorem dX7_put_20 : decode cX7_put 20 = .ok (.ifCond .eq 40, 3) := by decide +kernel
theorem dX7_put_23 : decode cX7_put 23 = .ok (.lload_n 1, 1) := by decide +kernel
theorem dX7_put_24 : decode cX7_put 24 = .ok (.bipush 8, 2) := by decide +kernel
theorem dX7_put_26 : decode cX7_put 26 = .ok (.iload_n 3, 1) := by decide +kernel
theorem dX7_put_27 : decode cX7_put 27 = .ok (.imul, 1) := by decide +kernel
theorem dX7_put_28 : decode cX7_put 28 = .ok (.lshr, 1) := by decide +kernel
theorem dX7_put_29 : decode cX7_put 29 = .ok (.ldc2_w 307, 3) := by decide +kernel
theorem dX7_put_32 : decode cX7_put 32 = .ok (.land, 1) := by decide +kernel
theorem dX7_put_33 : decode cX7_put 33 = .ok (.l2i, 1) := by decide +kernel
theorem dX7_put_34 : decode cX7_put 34 = .ok (.istore 4, 2) := by decide +kernel
theorem dX7_put_36 : decode cX7_put 36 = .ok (.iload 4, 2) := by decide +kernel
theorem dX7_put_38 : decode cX7_put 38 = .ok (.i2l, 1) := by decide +kernel
theorem dX7_put_39 : decode cX7_put 39 = .ok (.ldc2_w 309, 3) := by decide +kernel
theorem dX7_put_42 : decode cX7_put 42 = .ok (.ldc2_w 311, 3) := by decide +kernel
theorem dX7_put_45 : decode cX7_put 45 = .ok (.invokestatic 47, 3) := by decide +kernel
theorem dX7_put_48 : decode cX7_put 48 = .ok (.ifCond .ne 6, 3) := by decide +kernel
theorem dX7_put_51 : decode cX7_put 51 = .ok (.bipush (-2), 2) := by decide +kernel
theorem dX7_put_53 : decode cX7_put 53 = .ok (.ireturn, 1) := by decide +kernel
theorem dX7_put_54 : decode cX7_put 54 = .ok (.iinc 3 1, 3) := by decide +kernel
theorem dX7_put_57 : decode cX7_put 57 = .ok (.goto (-55), 3) := by decide +kernel
theorem dX7_put_60 : decode cX7_put 60 = .ok (.iload_n 3, 1) := by decide +kernel
theorem dX7_put_61 : decode cX7_put 61 = .ok (.ifCond .eq 20, 3) := by decide +kernel
theorem dX7_put_64 : decode cX7_put 64 = .ok (.iload_n 3, 1) := by decide +kernel
theorem dX7_put_65 : decode cX7_put 65 = .ok (.bipush 8, 2) := by decide +kernel
theorem dX7_put_67 : decode cX7_put 67 = .ok (.if_icmp .ge 17, 3) := by decide +kernel
theorem dX7_put_70 : decode cX7_put 70 = .ok (.lload_n 1, 1) := by decide +kernel
theorem dX7_put_71 : decode cX7_put 71 = .ok (.bipush 8, 2) := by decide +kernel
theorem dX7_put_73 : decode cX7_put 73 = .ok (.iload_n 3, 1) := by decide +kernel
theorem dX7_put_74 : decode cX7_put 74 = .ok (.imul, 1) := by decide +kernel
theorem dX7_put_75 : decode cX7_put 75 = .ok (.lshr, 1) := by decide +kernel
theorem dX7_put_76 : decode cX7_put 76 = .ok (.lconst 0, 1) := by decide +kernel
theorem dX7_put_77 : decode cX7_put 77 = .ok (.lcmp, 1) := by decide +kernel
theorem dX7_put_78 : decode cX7_put 78 = .ok (.ifCond .eq 6, 3) := by decide +kernel
theorem dX7_put_81 : decode cX7_put 81 = .ok (.bipush (-2), 2) := by decide +kernel
theorem dX7_put_83 : decode cX7_put 83 = .ok (.ireturn, 1) := by decide +kernel
theorem dX7_put_84 : decode cX7_put 84 = .ok (.aload_n 0, 1) := by decide +kernel
theorem dX7_put_85 : decode cX7_put 85 = .ok (.getfield 298, 3) := by decide +kernel
theorem dX7_put_88 : decode cX7_put 88 = .ok (.iload_n 3, 1) := by decide +kernel
theorem dX7_put_89 : decode cX7_put 89 = .ok (.iadd, 1) := by decide +kernel
theorem dX7_put_90 : decode cX7_put 90 = .ok (.bipush 80, 2) := by decide +kernel
theorem dX7_put_92 : decode cX7_put 92 = .ok (.if_icmp .le 6, 3) := by decide +kernel
theorem dX7_put_95 : decode cX7_put 95 = .ok (.bipush (-4), 2) := by decide +kernel
theorem dX7_put_97 : decode cX7_put 97 = .ok (.ireturn, 1) := by decide +kernel
theorem dX7_put_98 : decode cX7_put 98 = .ok (.iload_n 3, 1) := by decide +kernel
theorem dX7_put_99 : decode cX7_put 99 = .ok (.iconst 1, 1) := by decide +kernel
theorem dX7_put_100 : decode cX7_put 100 = .ok (.isub, 1) := by decide +kernel
theorem dX7_put_101 : decode cX7_put 101 = .ok (.istore 4, 2) := by decide +kernel
theorem dX7_put_103 : decode cX7_put 103 = .ok (.iload 4, 2) := by decide +kernel
theorem dX7_put_105 : decode cX7_put 105 = .ok (.ifCond .lt 40, 3) := by decide +kernel
theorem dX7_put_108 : decode cX7_put 108 = .ok (.aload_n 0, 1) := by decide +kernel
theorem dX7_put_109 : decode cX7_put 109 = .ok (.getfield 34, 3) := by decide +kernel
theorem dX7_put_112 : decode cX7_put 112 = .ok (.aload_n 0, 1) := by decide +kernel
theorem dX7_put_113 : decode cX7_put 113 = .ok (.getfield 298, 3) := by decide +kernel
theorem dX7_put_116 : decode cX7_put 116 = .ok (.lload_n 1, 1) := by decide +kernel
theorem dX7_put_117 : decode cX7_put 117 = .ok (.bipush 8, 2) := by decide +kernel
theorem dX7_put_119 : decode cX7_put 119 = .ok (.iload 4, 2) := by decide +kernel
theorem dX7_put_121 : decode cX7_put 121 = .ok (.imul, 1) := by decide +kernel
theorem dX7_put_122 : decode cX7_put 122 = .ok (.lshr, 1) := by decide +kernel
theorem dX7_put_123 : decode cX7_put 123 = .ok (.ldc2_w 307, 3) := by decide +kernel
theorem dX7_put_126 : decode cX7_put 126 = .ok (.land, 1) := by decide +kernel
theorem dX7_put_127 : decode cX7_put 127 = .ok (.l2i, 1) := by decide +kernel
theorem dX7_put_128 : decode cX7_put 128 = .ok (.iastore, 1) := by decide +kernel
theorem dX7_put_129 : decode cX7_put 129 = .ok (.aload_n 0, 1) := by decide +kernel
theorem dX7_put_130 : decode cX7_put 130 = .ok (.dup, 1) := by decide +kernel
theorem dX7_put_131 : decode cX7_put 131 = .ok (.getfield 298, 3) := by decide +kernel
theorem dX7_put_134 : decode cX7_put 134 = .ok (.iconst 1, 1) := by decide +kernel
theorem dX7_put_135 : decode cX7_put 135 = .ok (.iadd, 1) := by decide +kernel
theorem dX7_put_136 : decode cX7_put 136 = .ok (.putfield 298, 3) := by decide +kernel
theorem dX7_put_139 : decode cX7_put 139 = .ok (.iinc 4 (-1), 3) := by decide +kernel
theorem dX7_put_142 : decode cX7_put 142 = .ok (.goto (-39), 3) := by decide +kernel
theorem dX7_put_145 : decode cX7_put 145 = .ok (.aload_n 0, 1) := by decide +kernel
theorem dX7_put_146 : decode cX7_put 146 = .ok (.getfield 298, 3) := by decide +kernel
theorem dX7_put_149 : decode cX7_put 149 = .ok (.ireturn, 1) := by decide +kernel
theorem dX7_wipe_0 : decode cX7_wipe 0 = .ok (.aload_n 0, 1) := by decide +kernel
theorem dX7_wipe_1 : decode cX7_wipe 1 = .ok (.getfield 298, 3) := by decide +kernel
theorem dX7_wipe_4 : decode cX7_wipe 4 = .ok (.istore_n 1, 1) := by decide +kernel
theorem dX7_wipe_5 : decode cX7_wipe 5 = .ok (.aload_n 0, 1) := by decide +kernel
theorem dX7_wipe_6 : decode cX7_wipe 6 = .ok (.iconst 0, 1) := by decide +kernel
theorem dX7_wipe_7 : decode cX7_wipe 7 = .ok (.putfield 298, 3) := by decide +kernel
theorem dX7_wipe_10 : decode cX7_wipe 10 = .ok (.iload_n 1, 1) := by decide +kernel
theorem dX7_wipe_11 : decode cX7_wipe 11 = .ok (.ireturn, 1) := by decide +kernel
theorem dX7_passes_0 : decode cX7_passes 0 = .ok (.aload_n 0, 1) := by decide +kernel
theorem dX7_passes_1 : decode cX7_passes 1 = .ok (.getfield 313, 3) := by decide +kernel
theorem dX7_passes_4 : decode cX7_passes 4 = .ok (.aload_n 0, 1) := by decide +kernel
theorem dX7_passes_5 : decode cX7_passes 5 = .ok (.getfield 298, 3) := by decide +kernel
theorem dX7_passes_8 : decode cX7_passes 8 = .ok (.if_icmp .eq 23, 3) := by decide +kernel
theorem dX7_passes_11 : decode cX7_passes 11 = .ok (.aload_n 0, 1) := by decide +kernel
theorem dX7_passes_12 : decode cX7_passes 12 = .ok (.getfield 34, 3) := by decide +kernel
theorem dX7_passes_15 : decode cX7_passes 15 = .ok (.aload_n 0, 1) := by decide +kernel
theorem dX7_passes_16 : decode cX7_passes 16 = .ok (.getfield 313, 3) := by decide +kernel
theorem dX7_passes_19 : decode cX7_passes 19 = .ok (.iaload, 1) := by decide +kernel
theorem dX7_passes_20 : decode cX7_passes 20 = .ok (.i2l, 1) := by decide +kernel
theorem dX7_passes_21 : decode cX7_passes 21 = .ok (.iload_n 1, 1) := by decide +kernel
theorem dX7_passes_22 : decode cX7_passes 22 = .ok (.i2l, 1) := by decide +kernel
theorem dX7_passes_23 : decode cX7_passes 23 = .ok (.iload_n 2, 1) := by decide +kernel
theorem dX7_passes_24 : decode cX7_passes 24 = .ok (.i2l, 1) := by decide +kernel
theorem dX7_passes_25 : decode cX7_passes 25 = .ok (.invokestatic 47, 3) := by decide +kernel
theorem dX7_passes_28 : decode cX7_passes 28 = .ok (.ifCond .ne 5, 3) := by decide +kernel
theorem dX7_passes_31 : decode cX7_passes 31 = .ok (.iconst 0, 1) := by decide +kernel
theorem dX7_passes_32 : decode cX7_passes 32 = .ok (.ireturn, 1) := by decide +kernel
theorem dX7_passes_33 : decode cX7_passes 33 = .ok (.aload_n 0, 1) := by decide +kernel
theorem dX7_passes_34 : decode cX7_passes 34 = .ok (.aload_n 0, 1) := by decide +kernel
theorem dX7_passes_35 : decode cX7_passes 35 = .ok (.getfield 34, 3) := by decide +kernel
theorem dX7_passes_38 : decode cX7_passes 38 = .ok (.aload_n 0, 1) := by decide +kernel
theorem dX7_passes_39 : decode cX7_passes 39 = .ok (.getfield 313, 3) := by decide +kernel
theorem dX7_passes_42 : decode cX7_passes 42 = .ok (.iaload, 1) := by decide +kernel
theorem dX7_passes_43 : decode cX7_passes 43 = .ok (.bipush 48, 2) := by decide +kernel
theorem dX7_passes_45 : decode cX7_passes 45 = .ok (.isub, 1) := by decide +kernel
theorem dX7_passes_46 : decode cX7_passes 46 = .ok (.putfield 316, 3) := by decide +kernel
theorem dX7_passes_49 : decode cX7_passes 49 = .ok (.aload_n 0, 1) := by decide +kernel
theorem dX7_passes_50 : decode cX7_passes 50 = .ok (.dup, 1) := by decide +kernel
theorem dX7_passes_51 : decode cX7_passes 51 = .ok (.getfield 313, 3) := by decide +kernel
theorem dX7_passes_54 : decode cX7_passes 54 = .ok (.iconst 1, 1) := by decide +kernel
theorem dX7_passes_55 : decode cX7_passes 55 = .ok (.iadd, 1) := by decide +kernel
theorem dX7_passes_56 : decode cX7_passes 56 = .ok (.putfield 313, 3) := by decide +kernel
theorem dX7_passes_59 : decode cX7_passes 59 = .ok (.iconst 1, 1) := by decide +kernel
theorem dX7_passes_60 : decode cX7_passes 60 = .ok (.ireturn, 1) := by decide +kernel
theorem dX7_isDigitHere_0 : decode cX7_isDigitHere 0 = .ok (.aload_n 0, 1) := by decide +kernel
theorem dX7_isDigitHere_1 : decode cX7_isDigitHere 1 = .ok (.getfield 313, 3) := by decide +kernel
theorem dX7_isDigitHere_4 : decode cX7_isDigitHere 4 = .ok (.aload_n 0, 1) := by decide +kernel
theorem dX7_isDigitHere_5 : decode cX7_isDigitHere 5 = .ok (.getfield 298, 3) := by decide +kernel
theorem dX7_isDigitHere_8 : decode cX7_isDigitHere 8 = .ok (.if_icmp .ge 29, 3) := by decide +kernel
theorem dX7_isDigitHere_11 : decode cX7_isDigitHere 11 = .ok (.aload_n 0, 1) := by decide +kernel
theorem dX7_isDigitHere_12 : decode cX7_isDigitHere 12 = .ok (.getfield 34, 3) := by decide +kernel
theorem dX7_isDigitHere_15 : decode cX7_isDigitHere 15 = .ok (.aload_n 0, 1) := by decide +kernel
theorem dX7_isDigitHere_16 : decode cX7_isDigitHere 16 = .ok (.getfield 313, 3) := by decide +kernel
theorem dX7_isDigitHere_19 : decode cX7_isDigitHere 19 = .ok (.iaload, 1) := by decide +kernel
theorem dX7_isDigitHere_20 : decode cX7_isDigitHere 20 = .ok (.i2l, 1) := by decide +kernel
theorem dX7_isDigitHere_21 : decode cX7_isDigitHere 21 = .ok (.ldc2_w 319, 3) := by decide +kernel
theorem dX7_isDigitHere_24 : decode cX7_isDigitHere 24 = .ok (.ldc2_w 321, 3) := by decide +kernel
theorem dX7_isDigitHere_27 : decode cX7_isDigitHere 27 = .ok (.invokestatic 47, 3) := by decide +kernel
theorem dX7_isDigitHere_30 : decode cX7_isDigitHere 30 = .ok (.ifCond .eq 7, 3) := by decide +kernel
theorem dX7_isDigitHere_33 : decode cX7_isDigitHere 33 = .ok (.iconst 1, 1) := by decide +kernel
theorem dX7_isDigitHere_34 : decode cX7_isDigitHere 34 = .ok (.goto 4, 3) := by decide +kernel
theorem dX7_isDigitHere_37 : decode cX7_isDigitHere 37 = .ok (.iconst 0, 1) := by decide +kernel
theorem dX7_isDigitHere_38 : decode cX7_isDigitHere 38 = .ok (.ireturn, 1) := by decide +kernel
theorem dX7_passesNumber_0 : decode cX7_passesNumber 0 = .ok (.aload_n 0, 1) := by decide +kernel
theorem dX7_passesNumber_1 : decode cX7_passesNumber 1 = .ok (.bipush 48, 2) := by decide +kernel
theorem dX7_passesNumber_3 : decode cX7_passesNumber 3 = .ok (.bipush 57, 2) := by decide +kernel
theorem dX7_passesNumber_5 : decode cX7_passesNumber 5 = .ok (.invokevirtual 323, 3) := by decide +kernel
theorem dX7_passesNumber_8 : decode cX7_passesNumber 8 = .ok (.ifCond .ne 5, 3) := by decide +kernel
theorem dX7_passesNumber_11 : decode cX7_passesNumber 11 = .ok (.iconst 0, 1) := by decide +kernel
theorem dX7_passesNumber_12 : decode cX7_passesNumber 12 = .ok (.ireturn, 1) := by decide +kernel
theorem dX7_passesNumber_13 : decode cX7_passesNumber 13 = .ok (.aload_n 0, 1) := by decide +kernel
theorem dX7_passesNumber_14 : decode cX7_passesNumber 14 = .ok (.getfield 316, 3) := by decide +kernel
theorem dX7_passesNumber_17 : decode cX7_passesNumber 17 = .ok (.istore_n 1, 1) := by decide +kernel
theorem dX7_passesNumber_18 : decode cX7_passesNumber 18 = .ok (.iload_n 1, 1) := by decide +kernel
theorem dX7_passesNumber_19 : decode cX7_passesNumber 19 = .ok (.ifCond .le 52, 3) := by decide +kernel
theorem dX7_passesNumber_22 : decode cX7_passesNumber 22 = .ok (.aload_n 0, 1) := by decide +kernel
theorem dX7_passesNumber_23 : decode cX7_passesNumber 23 = .ok (.invokevirtual 326, 3) := by decide +kernel
theorem dX7_passesNumber_26 : decode cX7_passesNumber 26 = .ok (.ifCond .eq 45, 3) := by decide +kernel
theorem dX7_passesNumber_29 : decode cX7_passesNumber 29 = .ok (.bipush 10, 2) := by decide +kernel
theorem dX7_passesNumber_31 : decode cX7_passesNumber 31 = .ok (.iload_n 1, 1) := by decide +kernel
theorem dX7_passesNumber_32 : decode cX7_passesNumber 32 = .ok (.imul, 1) := by decide +kernel
theorem dX7_passesNumber_33 : decode cX7_passesNumber 33 = .ok (.aload_n 0, 1) := by decide +kernel
theorem dX7_passesNumber_34 : decode cX7_passesNumber 34 = .ok (.getfield 34, 3) := by decide +kernel
theorem dX7_passesNumber_37 : decode cX7_passesNumber 37 = .ok (.aload_n 0, 1) := by decide +kernel
theorem dX7_passesNumber_38 : decode cX7_passesNumber 38 = .ok (.getfield 313, 3) := by decide +kernel
theorem dX7_passesNumber_41 : decode cX7_passesNumber 41 = .ok (.iaload, 1) := by decide +kernel
theorem dX7_passesNumber_42 : decode cX7_passesNumber 42 = .ok (.iadd, 1) := by decide +kernel
theorem dX7_passesNumber_43 : decode cX7_passesNumber 43 = .ok (.bipush 48, 2) := by decide +kernel
theorem dX7_passesNumber_45 : decode cX7_passesNumber 45 = .ok (.isub, 1) := by decide +kernel
theorem dX7_passesNumber_46 : decode cX7_passesNumber 46 = .ok (.istore_n 2, 1) := by decide +kernel
theorem dX7_passesNumber_47 : decode cX7_passesNumber 47 = .ok (.iload_n 2, 1) := by decide +kernel
theorem dX7_passesNumber_48 : decode cX7_passesNumber 48 = .ok (.ldc_w 330, 3) := by decide +kernel
theorem dX7_passesNumber_51 : decode cX7_passesNumber 51 = .ok (.if_icmp .le 5, 3) := by decide +kernel
theorem dX7_passesNumber_54 : decode cX7_passesNumber 54 = .ok (.iconst 0, 1) := by decide +kernel
theorem dX7_passesNumber_55 : decode cX7_passesNumber 55 = .ok (.ireturn, 1) := by decide +kernel
theorem dX7_passesNumber_56 : decode cX7_passesNumber 56 = .ok (.iload_n 2, 1) := by decide +kernel
theorem dX7_passesNumber_57 : decode cX7_passesNumber 57 = .ok (.istore_n 1, 1) := by decide +kernel
theorem dX7_passesNumber_58 : decode cX7_passesNumber 58 = .ok (.aload_n 0, 1) := by decide +kernel
theorem dX7_passesNumber_59 : decode cX7_passesNumber 59 = .ok (.dup, 1) := by decide +kernel
theorem dX7_passesNumber_60 : decode cX7_passesNumber 60 = .ok (.getfield 313, 3) := by decide +kernel
theorem dX7_passesNumber_63 : decode cX7_passesNumber 63 = .ok (.iconst 1, 1) := by decide +kernel
theorem dX7_passesNumber_64 : decode cX7_passesNumber 64 = .ok (.iadd, 1) := by decide +kernel
theorem dX7_passesNumber_65 : decode cX7_passesNumber 65 = .ok (.putfield 313, 3) := by decide +kernel
theorem dX7_passesNumber_68 : decode cX7_passesNumber 68 = .ok (.goto (-50), 3) := by decide +kernel
theorem dX7_passesNumber_71 : decode cX7_passesNumber 71 = .ok (.aload_n 0, 1) := by decide +kernel
theorem dX7_passesNumber_72 : decode cX7_passesNumber 72 = .ok (.iload_n 1, 1) := by decide +kernel
theorem dX7_passesNumber_73 : decode cX7_passesNumber 73 = .ok (.putfield 316, 3) := by decide +kernel
theorem dX7_passesNumber_76 : decode cX7_passesNumber 76 = .ok (.iconst 1, 1) := by decide +kernel
theorem dX7_passesNumber_77 : decode cX7_passesNumber 77 = .ok (.ireturn, 1) := by decide +kernel
theorem dX7_passesOne_0 : decode cX7_passesOne 0 = .ok (.aload_n 0, 1) := by decide +kernel
theorem dX7_passesOne_1 : decode cX7_passesOne 1 = .ok (.iload_n 1, 1) := by decide +kernel
theorem dX7_passesOne_2 : decode cX7_passesOne 2 = .ok (.iload_n 1, 1) := by decide +kernel
theorem dX7_passesOne_3 : decode cX7_passesOne 3 = .ok (.invokevirtual 323, 3) := by decide +kernel
theorem dX7_passesOne_6 : decode cX7_passesOne 6 = .ok (.ifCond .eq 5, 3) := by decide +kernel
theorem dX7_passesOne_9 : decode cX7_passesOne 9 = .ok (.iconst 0, 1) := by decide +kernel
theorem dX7_passesOne_10 : decode cX7_passesOne 10 = .ok (.ireturn, 1) := by decide +kernel
theorem dX7_passesOne_11 : decode cX7_passesOne 11 = .ok (.aload_n 0, 1) := by decide +kernel
theorem dX7_passesOne_12 : decode cX7_passesOne 12 = .ok (.iload_n 2, 1) := by decide +kernel
theorem dX7_passesOne_13 : decode cX7_passesOne 13 = .ok (.iload_n 2, 1) := by decide +kernel
theorem dX7_passesOne_14 : decode cX7_passesOne 14 = .ok (.invokevirtual 323, 3) := by decide +kernel
theorem dX7_passesOne_17 : decode cX7_passesOne 17 = .ok (.ifCond .eq 5, 3) := by decide +kernel
theorem dX7_passesOne_20 : decode cX7_passesOne 20 = .ok (.iconst 1, 1) := by decide +kernel
theorem dX7_passesOne_21 : decode cX7_passesOne 21 = .ok (.ireturn, 1) := by decide +kernel
theorem dX7_passesOne_22 : decode cX7_passesOne 22 = .ok (.aload_n 0, 1) := by decide +kernel
theorem dX7_passesOne_23 : decode cX7_passesOne 23 = .ok (.iload_n 3, 1) := by decide +kernel
theorem dX7_passesOne_24 : decode cX7_passesOne 24 = .ok (.iload_n 3, 1) := by decide +kernel
theorem dX7_passesOne_25 : decode cX7_passesOne 25 = .ok (.invokevirtual 323, 3) := by decide +kernel
theorem dX7_passesOne_28 : decode cX7_passesOne 28 = .ok (.ifCond .eq 5, 3) := by decide +kernel
theorem dX7_passesOne_31 : decode cX7_passesOne 31 = .ok (.iconst 2, 1) := by decide +kernel
theorem dX7_passesOne_32 : decode cX7_passesOne 32 = .ok (.ireturn, 1) := by decide +kernel
theorem dX7_passesOne_33 : decode cX7_passesOne 33 = .ok (.aload_n 0, 1) := by decide +kernel
theorem dX7_passesOne_34 : decode cX7_passesOne 34 = .ok (.iload 4, 2) := by decide +kernel
theorem dX7_passesOne_36 : decode cX7_passesOne 36 = .ok (.iload 4, 2) := by decide +kernel
theorem dX7_passesOne_38 : decode cX7_passesOne 38 = .ok (.invokevirtual 323, 3) := by decide +kernel
theorem dX7_passesOne_41 : decode cX7_passesOne 41 = .ok (.ifCond .eq 7, 3) := by decide +kernel
theorem dX7_passesOne_44 : decode cX7_passesOne 44 = .ok (.iconst 3, 1) := by decide +kernel
theorem dX7_passesOne_45 : decode cX7_passesOne 45 = .ok (.goto 5, 3) := by decide +kernel
theorem dX7_passesOne_48 : decode cX7_passesOne 48 = .ok (.bipush (-6), 2) := by decide +kernel
theorem dX7_passesOne_50 : decode cX7_passesOne 50 = .ok (.ireturn, 1) := by decide +kernel
theorem dX7_passesParties_0 : decode cX7_passesParties 0 = .ok (.aload_n 0, 1) := by decide +kernel
theorem dX7_passesParties_1 : decode cX7_passesParties 1 = .ok (.bipush 48, 2) := by decide +kernel
theorem dX7_passesParties_3 : decode cX7_passesParties 3 = .ok (.bipush 55, 2) := by decide +kernel
theorem dX7_passesParties_5 : decode cX7_passesParties 5 = .ok (.invokevirtual 323, 3) := by decide +kernel
theorem dX7_passesParties_8 : decode cX7_passesParties 8 = .ok (.ifCond .ne 5, 3) := by decide +kernel
theorem dX7_passesParties_11 : decode cX7_passesParties 11 = .ok (.iconst 0, 1) := by decide +kernel
theorem dX7_passesParties_12 : decode cX7_passesParties 12 = .ok (.ireturn, 1) := by decide +kernel
theorem dX7_passesParties_13 : decode cX7_passesParties 13 = .ok (.aload_n 0, 1) := by decide +kernel
theorem dX7_passesParties_14 : decode cX7_passesParties 14 = .ok (.aload_n 0, 1) := by decide +kernel
theorem dX7_passesParties_15 : decode cX7_passesParties 15 = .ok (.getfield 316, 3) := by decide +kernel
theorem dX7_passesParties_18 : decode cX7_passesParties 18 = .ok (.putfield 331, 3) := by decide +kernel
theorem dX7_passesParties_21 : decode cX7_passesParties 21 = .ok (.aload_n 0, 1) := by decide +kernel
theorem dX7_passesParties_22 : decode cX7_passesParties 22 = .ok (.bipush 62, 2) := by decide +kernel
theorem dX7_passesParties_24 : decode cX7_passesParties 24 = .ok (.bipush 62, 2) := by decide +kernel
theorem dX7_passesParties_26 : decode cX7_passesParties 26 = .ok (.invokevirtual 323, 3) := by decide +kernel
theorem dX7_passesParties_29 : decode cX7_passesParties 29 = .ok (.ifCond .ne 5, 3) := by decide +kernel
theorem dX7_passesParties_32 : decode cX7_passesParties 32 = .ok (.iconst 0, 1) := by decide +kernel
theorem dX7_passesParties_33 : decode cX7_passesParties 33 = .ok (.ireturn, 1) := by decide +kernel
theorem dX7_passesParties_34 : decode cX7_passesParties 34 = .ok (.aload_n 0, 1) := by decide +kernel
theorem dX7_passesParties_35 : decode cX7_passesParties 35 = .ok (.bipush 8, 2) := by decide +kernel
theorem dX7_passesParties_37 : decode cX7_passesParties 37 = .ok (.putfield 334, 3) := by decide +kernel
theorem dX7_passesParties_40 : decode cX7_passesParties 40 = .ok (.aload_n 0, 1) := by decide +kernel
theorem dX7_passesParties_41 : decode cX7_passesParties 41 = .ok (.bipush 45, 2) := by decide +kernel
theorem dX7_passesParties_43 : decode cX7_passesParties 43 = .ok (.bipush 45, 2) := by decide +kernel
theorem dX7_passesParties_45 : decode cX7_passesParties 45 = .ok (.invokevirtual 323, 3) := by decide +kernel
theorem dX7_passesParties_48 : decode cX7_passesParties 48 = .ok (.ifCond .ne 24, 3) := by decide +kernel
theorem dX7_passesParties_51 : decode cX7_passesParties 51 = .ok (.aload_n 0, 1) := by decide +kernel
theorem dX7_passesParties_52 : decode cX7_passesParties 52 = .ok (.bipush 48, 2) := by decide +kernel
theorem dX7_passesParties_54 : decode cX7_passesParties 54 = .ok (.bipush 55, 2) := by decide +kernel
theorem dX7_passesParties_56 : decode cX7_passesParties 56 = .ok (.invokevirtual 323, 3) := by decide +kernel
theorem dX7_passesParties_59 : decode cX7_passesParties 59 = .ok (.ifCond .ne 5, 3) := by decide +kernel
theorem dX7_passesParties_62 : decode cX7_passesParties 62 = .ok (.iconst 0, 1) := by decide +kernel
theorem dX7_passesParties_63 : decode cX7_passesParties 63 = .ok (.ireturn, 1) := by decide +kernel
theorem dX7_passesParties_64 : decode cX7_passesParties 64 = .ok (.aload_n 0, 1) := by decide +kernel
theorem dX7_passesParties_65 : decode cX7_passesParties 65 = .ok (.aload_n 0, 1) := by decide +kernel
theorem dX7_passesParties_66 : decode cX7_passesParties 66 = .ok (.getfield 316, 3) := by decide +kernel
theorem dX7_passesParties_69 : decode cX7_passesParties 69 = .ok (.putfield 334, 3) := by decide +kernel
theorem dX7_passesParties_72 : decode cX7_passesParties 72 = .ok (.aload_n 0, 1) := by decide +kernel
theorem dX7_passesParties_73 : decode cX7_passesParties 73 = .ok (.bipush 42, 2) := by decide +kernel
theorem dX7_passesParties_75 : decode cX7_passesParties 75 = .ok (.bipush 42, 2) := by decide +kernel
theorem dX7_passesParties_77 : decode cX7_passesParties 77 = .ok (.invokevirtual 323, 3) := by decide +kernel
theorem dX7_passesParties_80 : decode cX7_passesParties 80 = .ok (.ireturn, 1) := by decide +kernel
theorem dX7_passesRule_0 : decode cX7_passesRule 0 = .ok (.aload_n 0, 1) := by decide +kernel
theorem dX7_passesRule_1 : decode cX7_passesRule 1 = .ok (.aload_n 0, 1) := by decide +kernel
theorem dX7_passesRule_2 : decode cX7_passesRule 2 = .ok (.bipush 46, 2) := by decide +kernel
theorem dX7_passesRule_4 : decode cX7_passesRule 4 = .ok (.bipush 102, 2) := by decide +kernel
theorem dX7_passesRule_6 : decode cX7_passesRule 6 = .ok (.bipush 98, 2) := by decide +kernel
theorem dX7_passesRule_8 : decode cX7_passesRule 8 = .ok (.bipush 120, 2) := by decide +kernel
theorem dX7_passesRule_10 : decode cX7_passesRule 10 = .ok (.invokevirtual 337, 3) := by decide +kernel
theorem dX7_passesRule_13 : decode cX7_passesRule 13 = .ok (.putfield 341, 3) := by decide +kernel
theorem dX7_passesRule_16 : decode cX7_passesRule 16 = .ok (.aload_n 0, 1) := by decide +kernel
theorem dX7_passesRule_17 : decode cX7_passesRule 17 = .ok (.getfield 341, 3) := by decide +kernel
theorem dX7_passesRule_20 : decode cX7_passesRule 20 = .ok (.bipush (-6), 2) := by decide +kernel
theorem dX7_passesRule_22 : decode cX7_passesRule 22 = .ok (.if_icmp .ne 19, 3) := by decide +kernel
theorem dX7_passesRule_25 : decode cX7_passesRule 25 = .ok (.aload_n 0, 1) := by decide +kernel
theorem dX7_passesRule_26 : decode cX7_passesRule 26 = .ok (.bipush 33, 2) := by decide +kernel
theorem dX7_passesRule_28 : decode cX7_passesRule 28 = .ok (.bipush 33, 2) := by decide +kernel
theorem dX7_passesRule_30 : decode cX7_passesRule 30 = .ok (.invokevirtual 323, 3) := by decide +kernel
theorem dX7_passesRule_33 : decode cX7_passesRule 33 = .ok (.ifCond .eq 8, 3) := by decide +kernel
theorem dX7_passesRule_36 : decode cX7_passesRule 36 = .ok (.aload_n 0, 1) := by decide +kernel
theorem dX7_passesRule_37 : decode cX7_passesRule 37 = .ok (.iconst 4, 1) := by decide +kernel
theorem dX7_passesRule_38 : decode cX7_passesRule 38 = .ok (.putfield 341, 3) := by decide +kernel
theorem dX7_passesRule_41 : decode cX7_passesRule 41 = .ok (.aload_n 0, 1) := by decide +kernel
theorem dX7_passesRule_42 : decode cX7_passesRule 42 = .ok (.getfield 341, 3) := by decide +kernel
theorem dX7_passesRule_45 : decode cX7_passesRule 45 = .ok (.bipush (-6), 2) := by decide +kernel
theorem dX7_passesRule_47 : decode cX7_passesRule 47 = .ok (.if_icmp .eq 7, 3) := by decide +kernel
theorem dX7_passesRule_50 : decode cX7_passesRule 50 = .ok (.iconst 1, 1) := by decide +kernel
theorem dX7_passesRule_51 : decode cX7_passesRule 51 = .ok (.goto 4, 3) := by decide +kernel
theorem dX7_passesRule_54 : decode cX7_passesRule 54 = .ok (.iconst 0, 1) := by decide +kernel
theorem dX7_passesRule_55 : decode cX7_passesRule 55 = .ok (.ireturn, 1) := by decide +kernel
theorem dX7_passesNewOrder_0 : decode cX7_passesNewOrder 0 = .ok (.aload_n 0, 1) := by decide +kernel
theorem dX7_passesNewOrder_1 : decode cX7_passesNewOrder 1 = .ok (.invokevirtual 344, 3) := by decide +kernel
theorem dX7_passesNewOrder_4 : decode cX7_passesNewOrder 4 = .ok (.ifCond .eq 10, 3) := by decide +kernel
theorem dX7_passesNewOrder_7 : decode cX7_passesNewOrder 7 = .ok (.aload_n 0, 1) := by decide +kernel
theorem dX7_passesNewOrder_8 : decode cX7_passesNewOrder 8 = .ok (.invokevirtual 347, 3) := by decide +kernel
theorem dX7_passesNewOrder_11 : decode cX7_passesNewOrder 11 = .ok (.ifCond .ne 5, 3) := by decide +kernel
theorem dX7_passesNewOrder_14 : decode cX7_passesNewOrder 14 = .ok (.iconst 0, 1) := by decide +kernel
theorem dX7_passesNewOrder_15 : decode cX7_passesNewOrder 15 = .ok (.ireturn, 1) := by decide +kernel
theorem dX7_passesNewOrder_16 : decode cX7_passesNewOrder 16 = .ok (.aload_n 0, 1) := by decide +kernel
theorem dX7_passesNewOrder_17 : decode cX7_passesNewOrder 17 = .ok (.aload_n 0, 1) := by decide +kernel
theorem dX7_passesNewOrder_18 : decode cX7_passesNewOrder 18 = .ok (.getfield 316, 3) := by decide +kernel
theorem dX7_passesNewOrder_21 : decode cX7_passesNewOrder 21 = .ok (.putfield 350, 3) := by decide +kernel
theorem dX7_passesNewOrder_24 : decode cX7_passesNewOrder 24 = .ok (.aload_n 0, 1) := by decide +kernel
theorem dX7_passesNewOrder_25 : decode cX7_passesNewOrder 25 = .ok (.aload_n 0, 1) := by decide +kernel
theorem dX7_passesNewOrder_26 : decode cX7_passesNewOrder 26 = .ok (.bipush 100, 2) := by decide +kernel
theorem dX7_passesNewOrder_28 : decode cX7_passesNewOrder 28 = .ok (.bipush 119, 2) := by decide +kernel
theorem dX7_passesNewOrder_30 : decode cX7_passesNewOrder 30 = .ok (.bipush 109, 2) := by decide +kernel
theorem dX7_passesNewOrder_32 : decode cX7_passesNewOrder 32 = .ok (.bipush 101, 2) := by decide +kernel
theorem dX7_passesNewOrder_34 : decode cX7_passesNewOrder 34 = .ok (.invokevirtual 337, 3) := by decide +kernel
theorem dX7_passesNewOrder_37 : decode cX7_passesNewOrder 37 = .ok (.putfield 353, 3) := by decide +kernel
theorem dX7_passesNewOrder_40 : decode cX7_passesNewOrder 40 = .ok (.aload_n 0, 1) := by decide +kernel
theorem dX7_passesNewOrder_41 : decode cX7_passesNewOrder 41 = .ok (.getfield 353, 3) := by decide +kernel
theorem dX7_passesNewOrder_44 : decode cX7_passesNewOrder 44 = .ok (.bipush (-6), 2) := by decide +kernel
theorem dX7_passesNewOrder_46 : decode cX7_passesNewOrder 46 = .ok (.if_icmp .eq 10, 3) := by decide +kernel
theorem dX7_passesNewOrder_49 : decode cX7_passesNewOrder 49 = .ok (.aload_n 0, 1) := by decide +kernel
theorem dX7_passesNewOrder_50 : decode cX7_passesNewOrder 50 = .ok (.invokevirtual 347, 3) := by decide +kernel
theorem dX7_passesNewOrder_53 : decode cX7_passesNewOrder 53 = .ok (.ifCond .ne 5, 3) := by decide +kernel
theorem dX7_passesNewOrder_56 : decode cX7_passesNewOrder 56 = .ok (.iconst 0, 1) := by decide +kernel
theorem dX7_passesNewOrder_57 : decode cX7_passesNewOrder 57 = .ok (.ireturn, 1) := by decide +kernel
theorem dX7_passesNewOrder_58 : decode cX7_passesNewOrder 58 = .ok (.aload_n 0, 1) := by decide +kernel
theorem dX7_passesNewOrder_59 : decode cX7_passesNewOrder 59 = .ok (.aload_n 0, 1) := by decide +kernel
theorem dX7_passesNewOrder_60 : decode cX7_passesNewOrder 60 = .ok (.getfield 316, 3) := by decide +kernel
theorem dX7_passesNewOrder_63 : decode cX7_passesNewOrder 63 = .ok (.putfield 356, 3) := by decide +kernel
theorem dX7_passesNewOrder_66 : decode cX7_passesNewOrder 66 = .ok (.aload_n 0, 1) := by decide +kernel
theorem dX7_passesNewOrder_67 : decode cX7_passesNewOrder 67 = .ok (.iconst 1, 1) := by decide +kernel
theorem dX7_passesNewOrder_68 : decode cX7_passesNewOrder 68 = .ok (.putfield 359, 3) := by decide +kernel
theorem dX7_passesNewOrder_71 : decode cX7_passesNewOrder 71 = .ok (.aload_n 0, 1) := by decide +kernel
theorem dX7_passesNewOrder_72 : decode cX7_passesNewOrder 72 = .ok (.bipush 47, 2) := by decide +kernel
theorem dX7_passesNewOrder_74 : decode cX7_passesNewOrder 74 = .ok (.bipush 47, 2) := by decide +kernel
theorem dX7_passesNewOrder_76 : decode cX7_passesNewOrder 76 = .ok (.invokevirtual 323, 3) := by decide +kernel
theorem dX7_passesNewOrder_79 : decode cX7_passesNewOrder 79 = .ok (.ifCond .eq 20, 3) := by decide +kernel
theorem dX7_passesNewOrder_82 : decode cX7_passesNewOrder 82 = .ok (.aload_n 0, 1) := by decide +kernel
theorem dX7_passesNewOrder_83 : decode cX7_passesNewOrder 83 = .ok (.invokevirtual 347, 3) := by decide +kernel
theorem dX7_passesNewOrder_86 : decode cX7_passesNewOrder 86 = .ok (.ifCond .ne 5, 3) := by decide +kernel
theorem dX7_passesNewOrder_89 : decode cX7_passesNewOrder 89 = .ok (.iconst 0, 1) := by decide +kernel
theorem dX7_passesNewOrder_90 : decode cX7_passesNewOrder 90 = .ok (.ireturn, 1) := by decide +kernel
theorem dX7_passesNewOrder_91 : decode cX7_passesNewOrder 91 = .ok (.aload_n 0, 1) := by decide +kernel
theorem dX7_passesNewOrder_92 : decode cX7_passesNewOrder 92 = .ok (.aload_n 0, 1) := by decide +kernel
theorem dX7_passesNewOrder_93 : decode cX7_passesNewOrder 93 = .ok (.getfield 316, 3) := by decide +kernel
theorem dX7_passesNewOrder_96 : decode cX7_passesNewOrder 96 = .ok (.putfield 359, 3) := by decide +kernel
theorem dX7_passesNewOrder_99 : decode cX7_passesNewOrder 99 = .ok (.aload_n 0, 1) := by decide +kernel
theorem dX7_passesNewOrder_100 : decode cX7_passesNewOrder 100 = .ok (.invokevirtual 362, 3) := by decide +kernel
theorem dX7_passesNewOrder_103 : decode cX7_passesNewOrder 103 = .ok (.ireturn, 1) := by decide +kernel
theorem dX7_passesDeposit_0 : decode cX7_passesDeposit 0 = .ok (.aload_n 0, 1) := by decide +kernel
theorem dX7_passesDeposit_1 : decode cX7_passesDeposit 1 = .ok (.bipush 48, 2) := by decide +kernel
theorem dX7_passesDeposit_3 : decode cX7_passesDeposit 3 = .ok (.bipush 55, 2) := by decide +kernel
theorem dX7_passesDeposit_5 : decode cX7_passesDeposit 5 = .ok (.invokevirtual 323, 3) := by decide +kernel
theorem dX7_passesDeposit_8 : decode cX7_passesDeposit 8 = .ok (.ifCond .ne 5, 3) := by decide +kernel
theorem dX7_passesDeposit_11 : decode cX7_passesDeposit 11 = .ok (.iconst 0, 1) := by decide +kernel
theorem dX7_passesDeposit_12 : decode cX7_passesDeposit 12 = .ok (.ireturn, 1) := by decide +kernel
theorem dX7_passesDeposit_13 : decode cX7_passesDeposit 13 = .ok (.aload_n 0, 1) := by decide +kernel
theorem dX7_passesDeposit_14 : decode cX7_passesDeposit 14 = .ok (.aload_n 0, 1) := by decide +kernel
theorem dX7_passesDeposit_15 : decode cX7_passesDeposit 15 = .ok (.getfield 316, 3) := by decide +kernel
theorem dX7_passesDeposit_18 : decode cX7_passesDeposit 18 = .ok (.putfield 331, 3) := by decide +kernel
theorem dX7_passesDeposit_21 : decode cX7_passesDeposit 21 = .ok (.aload_n 0, 1) := by decide +kernel
theorem dX7_passesDeposit_22 : decode cX7_passesDeposit 22 = .ok (.bipush 43, 2) := by decide +kernel
theorem dX7_passesDeposit_24 : decode cX7_passesDeposit 24 = .ok (.bipush 43, 2) := by decide +kernel
theorem dX7_passesDeposit_26 : decode cX7_passesDeposit 26 = .ok (.invokevirtual 323, 3) := by decide +kernel
theorem dX7_passesDeposit_29 : decode cX7_passesDeposit 29 = .ok (.ifCond .eq 10, 3) := by decide +kernel
theorem dX7_passesDeposit_32 : decode cX7_passesDeposit 32 = .ok (.aload_n 0, 1) := by decide +kernel
theorem dX7_passesDeposit_33 : decode cX7_passesDeposit 33 = .ok (.invokevirtual 347, 3) := by decide +kernel
theorem dX7_passesDeposit_36 : decode cX7_passesDeposit 36 = .ok (.ifCond .ne 5, 3) := by decide +kernel
theorem dX7_passesDeposit_39 : decode cX7_passesDeposit 39 = .ok (.iconst 0, 1) := by decide +kernel
theorem dX7_passesDeposit_40 : decode cX7_passesDeposit 40 = .ok (.ireturn, 1) := by decide +kernel
theorem dX7_passesDeposit_41 : decode cX7_passesDeposit 41 = .ok (.aload_n 0, 1) := by decide +kernel
theorem dX7_passesDeposit_42 : decode cX7_passesDeposit 42 = .ok (.aload_n 0, 1) := by decide +kernel
theorem dX7_passesDeposit_43 : decode cX7_passesDeposit 43 = .ok (.getfield 316, 3) := by decide +kernel
theorem dX7_passesDeposit_46 : decode cX7_passesDeposit 46 = .ok (.putfield 350, 3) := by decide +kernel
theorem dX7_passesDeposit_49 : decode cX7_passesDeposit 49 = .ok (.iconst 1, 1) := by decide +kernel
theorem dX7_passesDeposit_50 : decode cX7_passesDeposit 50 = .ok (.ireturn, 1) := by decide +kernel
theorem dX7_passesAct_0 : decode cX7_passesAct 0 = .ok (.aload_n 0, 1) := by decide +kernel
theorem dX7_passesAct_1 : decode cX7_passesAct 1 = .ok (.bipush 112, 2) := by decide +kernel
theorem dX7_passesAct_3 : decode cX7_passesAct 3 = .ok (.bipush 112, 2) := by decide +kernel
theorem dX7_passesAct_5 : decode cX7_passesAct 5 = .ok (.invokevirtual 323, 3) := by decide +kernel
theorem dX7_passesAct_8 : decode cX7_passesAct 8 = .ok (.ifCond .eq 13, 3) := by decide +kernel
theorem dX7_passesAct_11 : decode cX7_passesAct 11 = .ok (.aload_n 0, 1) := by decide +kernel
theorem dX7_passesAct_12 : decode cX7_passesAct 12 = .ok (.iconst 0, 1) := by decide +kernel
theorem dX7_passesAct_13 : decode cX7_passesAct 13 = .ok (.putfield 365, 3) := by decide +kernel
theorem dX7_passesAct_16 : decode cX7_passesAct 16 = .ok (.aload_n 0, 1) := by decide +kernel
theorem dX7_passesAct_17 : decode cX7_passesAct 17 = .ok (.invokevirtual 368, 3) := by decide +kernel
theorem dX7_passesAct_20 : decode cX7_passesAct 20 = .ok (.ireturn, 1) := by decide +kernel
theorem dX7_passesAct_21 : decode cX7_passesAct 21 = .ok (.aload_n 0, 1) := by decide +kernel
theorem dX7_passesAct_22 : decode cX7_passesAct 22 = .ok (.bipush 100, 2) := by decide +kernel
theorem dX7_passesAct_24 : decode cX7_passesAct 24 = .ok (.bipush 100, 2) := by decide +kernel
theorem dX7_passesAct_26 : decode cX7_passesAct 26 = .ok (.invokevirtual 323, 3) := by decide +kernel
theorem dX7_passesAct_29 : decode cX7_passesAct 29 = .ok (.ifCond .eq 13, 3) := by decide +kernel
theorem dX7_passesAct_32 : decode cX7_passesAct 32 = .ok (.aload_n 0, 1) := by decide +kernel
theorem dX7_passesAct_33 : decode cX7_passesAct 33 = .ok (.iconst 1, 1) := by decide +kernel
theorem dX7_passesAct_34 : decode cX7_passesAct 34 = .ok (.putfield 365, 3) := by decide +kernel
theorem dX7_passesAct_37 : decode cX7_passesAct 37 = .ok (.aload_n 0, 1) := by decide +kernel
theorem dX7_passesAct_38 : decode cX7_passesAct 38 = .ok (.invokevirtual 371, 3) := by decide +kernel
theorem dX7_passesAct_41 : decode cX7_passesAct 41 = .ok (.ireturn, 1) := by decide +kernel
theorem dX7_passesAct_42 : decode cX7_passesAct 42 = .ok (.aload_n 0, 1) := by decide +kernel
theorem dX7_passesAct_43 : decode cX7_passesAct 43 = .ok (.bipush 115, 2) := by decide +kernel
theorem dX7_passesAct_45 : decode cX7_passesAct 45 = .ok (.bipush 103, 2) := by decide +kernel
theorem dX7_passesAct_47 : decode cX7_passesAct 47 = .ok (.bipush 110, 2) := by decide +kernel
theorem dX7_passesAct_49 : decode cX7_passesAct 49 = .ok (.bipush 110, 2) := by decide +kernel
theorem dX7_passesAct_51 : decode cX7_passesAct 51 = .ok (.invokevirtual 337, 3) := by decide +kernel
theorem dX7_passesAct_54 : decode cX7_passesAct 54 = .ok (.istore_n 1, 1) := by decide +kernel
theorem dX7_passesAct_55 : decode cX7_passesAct 55 = .ok (.iload_n 1, 1) := by decide +kernel
theorem dX7_passesAct_56 : decode cX7_passesAct 56 = .ok (.bipush (-6), 2) := by decide +kernel
theorem dX7_passesAct_58 : decode cX7_passesAct 58 = .ok (.if_icmp .eq 10, 3) := by decide +kernel
theorem dX7_passesAct_61 : decode cX7_passesAct 61 = .ok (.aload_n 0, 1) := by decide +kernel
theorem dX7_passesAct_62 : decode cX7_passesAct 62 = .ok (.invokevirtual 347, 3) := by decide +kernel
theorem dX7_passesAct_65 : decode cX7_passesAct 65 = .ok (.ifCond .ne 5, 3) := by decide +kernel
theorem dX7_passesAct_68 : decode cX7_passesAct 68 = .ok (.iconst 0, 1) := by decide +kernel
theorem dX7_passesAct_69 : decode cX7_passesAct 69 = .ok (.ireturn, 1) := by decide +kernel
theorem dX7_passesAct_70 : decode cX7_passesAct 70 = .ok (.aload_n 0, 1) := by decide +kernel
theorem dX7_passesAct_71 : decode cX7_passesAct 71 = .ok (.iconst 2, 1) := by decide +kernel
theorem dX7_passesAct_72 : decode cX7_passesAct 72 = .ok (.iload_n 1, 1) := by decide +kernel
theorem dX7_passesAct_73 : decode cX7_passesAct 73 = .ok (.iadd, 1) := by decide +kernel
theorem dX7_passesAct_74 : decode cX7_passesAct 74 = .ok (.putfield 365, 3) := by decide +kernel
theorem dX7_passesAct_77 : decode cX7_passesAct 77 = .ok (.aload_n 0, 1) := by decide +kernel
theorem dX7_passesAct_78 : decode cX7_passesAct 78 = .ok (.aload_n 0, 1) := by decide +kernel
theorem dX7_passesAct_79 : decode cX7_passesAct 79 = .ok (.getfield 316, 3) := by decide +kernel
theorem dX7_passesAct_82 : decode cX7_passesAct 82 = .ok (.putfield 350, 3) := by decide +kernel
theorem dX7_passesAct_85 : decode cX7_passesAct 85 = .ok (.iconst 1, 1) := by decide +kernel
theorem dX7_passesAct_86 : decode cX7_passesAct 86 = .ok (.ireturn, 1) := by decide +kernel
theorem dX7_fault_0 : decode cX7_fault 0 = .ok (.aload_n 0, 1) := by decide +kernel
theorem dX7_fault_1 : decode cX7_fault 1 = .ok (.iconst 0, 1) := by decide +kernel
theorem dX7_fault_2 : decode cX7_fault 2 = .ok (.putfield 313, 3) := by decide +kernel
theorem dX7_fault_5 : decode cX7_fault 5 = .ok (.aload_n 0, 1) := by decide +kernel
theorem dX7_fault_6 : decode cX7_fault 6 = .ok (.invokevirtual 374, 3) := by decide +kernel
theorem dX7_fault_9 : decode cX7_fault 9 = .ok (.ifCond .ne 8, 3) := by decide +kernel
theorem dX7_fault_12 : decode cX7_fault 12 = .ok (.aload_n 0, 1) := by decide +kernel
theorem dX7_fault_13 : decode cX7_fault 13 = .ok (.getfield 313, 3) := by decide +kernel
theorem dX7_fault_16 : decode cX7_fault 16 = .ok (.ireturn, 1) := by decide +kernel
theorem dX7_fault_17 : decode cX7_fault 17 = .ok (.aload_n 0, 1) := by decide +kernel
theorem dX7_fault_18 : decode cX7_fault 18 = .ok (.getfield 313, 3) := by decide +kernel
theorem dX7_fault_21 : decode cX7_fault 21 = .ok (.aload_n 0, 1) := by decide +kernel
theorem dX7_fault_22 : decode cX7_fault 22 = .ok (.getfield 298, 3) := by decide +kernel
theorem dX7_fault_25 : decode cX7_fault 25 = .ok (.if_icmp .ge 26, 3) := by decide +kernel
theorem dX7_fault_28 : decode cX7_fault 28 = .ok (.aload_n 0, 1) := by decide +kernel
theorem dX7_fault_29 : decode cX7_fault 29 = .ok (.bipush 59, 2) := by decide +kernel
theorem dX7_fault_31 : decode cX7_fault 31 = .ok (.bipush 59, 2) := by decide +kernel
theorem dX7_fault_33 : decode cX7_fault 33 = .ok (.invokevirtual 323, 3) := by decide +kernel
theorem dX7_fault_36 : decode cX7_fault 36 = .ok (.ifCond .eq 10, 3) := by decide +kernel
theorem dX7_fault_39 : decode cX7_fault 39 = .ok (.aload_n 0, 1) := by decide +kernel
theorem dX7_fault_40 : decode cX7_fault 40 = .ok (.invokevirtual 374, 3) := by decide +kernel
theorem dX7_fault_43 : decode cX7_fault 43 = .ok (.ifCond .ne (-26), 3) := by decide +kernel
theorem dX7_fault_46 : decode cX7_fault 46 = .ok (.aload_n 0, 1) := by decide +kernel
theorem dX7_fault_47 : decode cX7_fault 47 = .ok (.getfield 313, 3) := by decide +kernel
theorem dX7_fault_50 : decode cX7_fault 50 = .ok (.ireturn, 1) := by decide +kernel
theorem dX7_fault_51 : decode cX7_fault 51 = .ok (.bipush (-6), 2) := by decide +kernel
theorem dX7_fault_53 : decode cX7_fault 53 = .ok (.ireturn, 1) := by decide +kernel
theorem dX7_doesNewOrder_0 : decode cX7_doesNewOrder 0 = .ok (.aload_n 0, 1) := by decide +kernel
theorem dX7_doesNewOrder_1 : decode cX7_doesNewOrder 1 = .ok (.getfield 356, 3) := by decide +kernel
theorem dX7_doesNewOrder_4 : decode cX7_doesNewOrder 4 = .ok (.bipush 99, 2) := by decide +kernel
theorem dX7_doesNewOrder_6 : decode cX7_doesNewOrder 6 = .ok (.if_icmp .gt 12, 3) := by decide +kernel
theorem dX7_doesNewOrder_9 : decode cX7_doesNewOrder 9 = .ok (.aload_n 0, 1) := by decide +kernel
theorem dX7_doesNewOrder_10 : decode cX7_doesNewOrder 10 = .ok (.getfield 359, 3) := by decide +kernel
theorem dX7_doesNewOrder_13 : decode cX7_doesNewOrder 13 = .ok (.bipush 99, 2) := by decide +kernel
theorem dX7_doesNewOrder_15 : decode cX7_doesNewOrder 15 = .ok (.if_icmp .le 13, 3) := by decide +kernel
theorem dX7_doesNewOrder_18 : decode cX7_doesNewOrder 18 = .ok (.aload_n 0, 1) := by decide +kernel
theorem dX7_doesNewOrder_19 : decode cX7_doesNewOrder 19 = .ok (.iconst 0, 1) := by decide +kernel
theorem dX7_doesNewOrder_20 : decode cX7_doesNewOrder 20 = .ok (.putfield 356, 3) := by decide +kernel
theorem dX7_doesNewOrder_23 : decode cX7_doesNewOrder 23 = .ok (.aload_n 0, 1) := by decide +kernel
theorem dX7_doesNewOrder_24 : decode cX7_doesNewOrder 24 = .ok (.iconst 0, 1) := by decide +kernel
theorem dX7_doesNewOrder_25 : decode cX7_doesNewOrder 25 = .ok (.putfield 359, 3) := by decide +kernel
theorem dX7_doesNewOrder_28 : decode cX7_doesNewOrder 28 = .ok (.bipush 9, 2) := by decide +kernel
theorem dX7_doesNewOrder_30 : decode cX7_doesNewOrder 30 = .ok (.aload_n 0, 1) := by decide +kernel
theorem dX7_doesNewOrder_31 : decode cX7_doesNewOrder 31 = .ok (.getfield 331, 3) := by decide +kernel
theorem dX7_doesNewOrder_34 : decode cX7_doesNewOrder 34 = .ok (.imul, 1) := by decide +kernel
theorem dX7_doesNewOrder_35 : decode cX7_doesNewOrder 35 = .ok (.aload_n 0, 1) := by decide +kernel
theorem dX7_doesNewOrder_36 : decode cX7_doesNewOrder 36 = .ok (.getfield 334, 3) := by decide +kernel
theorem dX7_doesNewOrder_39 : decode cX7_doesNewOrder 39 = .ok (.iadd, 1) := by decide +kernel
theorem dX7_doesNewOrder_40 : decode cX7_doesNewOrder 40 = .ok (.istore_n 1, 1) := by decide +kernel
theorem dX7_doesNewOrder_41 : decode cX7_doesNewOrder 41 = .ok (.sipush 10000, 3) := by decide +kernel
theorem dX7_doesNewOrder_44 : decode cX7_doesNewOrder 44 = .ok (.aload_n 0, 1) := by decide +kernel
theorem dX7_doesNewOrder_45 : decode cX7_doesNewOrder 45 = .ok (.getfield 353, 3) := by decide +kernel
theorem dX7_doesNewOrder_48 : decode cX7_doesNewOrder 48 = .ok (.imul, 1) := by decide +kernel
theorem dX7_doesNewOrder_49 : decode cX7_doesNewOrder 49 = .ok (.bipush 100, 2) := by decide +kernel
theorem dX7_doesNewOrder_51 : decode cX7_doesNewOrder 51 = .ok (.aload_n 0, 1) := by decide +kernel
theorem dX7_doesNewOrder_52 : decode cX7_doesNewOrder 52 = .ok (.getfield 356, 3) := by decide +kernel
theorem dX7_doesNewOrder_55 : decode cX7_doesNewOrder 55 = .ok (.imul, 1) := by decide +kernel
theorem dX7_doesNewOrder_56 : decode cX7_doesNewOrder 56 = .ok (.iadd, 1) := by decide +kernel
theorem dX7_doesNewOrder_57 : decode cX7_doesNewOrder 57 = .ok (.aload_n 0, 1) := by decide +kernel
theorem dX7_doesNewOrder_58 : decode cX7_doesNewOrder 58 = .ok (.getfield 359, 3) := by decide +kernel
theorem dX7_doesNewOrder_61 : decode cX7_doesNewOrder 61 = .ok (.iadd, 1) := by decide +kernel
theorem dX7_doesNewOrder_62 : decode cX7_doesNewOrder 62 = .ok (.istore_n 2, 1) := by decide +kernel
theorem dX7_doesNewOrder_63 : decode cX7_doesNewOrder 63 = .ok (.aload_n 0, 1) := by decide +kernel
theorem dX7_doesNewOrder_64 : decode cX7_doesNewOrder 64 = .ok (.iload_n 1, 1) := by decide +kernel
theorem dX7_doesNewOrder_65 : decode cX7_doesNewOrder 65 = .ok (.aload_n 0, 1) := by decide +kernel
theorem dX7_doesNewOrder_66 : decode cX7_doesNewOrder 66 = .ok (.getfield 350, 3) := by decide +kernel
theorem dX7_doesNewOrder_69 : decode cX7_doesNewOrder 69 = .ok (.iload_n 2, 1) := by decide +kernel
theorem dX7_doesNewOrder_70 : decode cX7_doesNewOrder 70 = .ok (.aload_n 0, 1) := by decide +kernel
theorem dX7_doesNewOrder_71 : decode cX7_doesNewOrder 71 = .ok (.invokevirtual 66, 3) := by decide +kernel
theorem dX7_doesNewOrder_74 : decode cX7_doesNewOrder 74 = .ok (.bipush 10, 2) := by decide +kernel
theorem dX7_doesNewOrder_76 : decode cX7_doesNewOrder 76 = .ok (.aload_n 0, 1) := by decide +kernel
theorem dX7_doesNewOrder_77 : decode cX7_doesNewOrder 77 = .ok (.getfield 341, 3) := by decide +kernel
theorem dX7_doesNewOrder_80 : decode cX7_doesNewOrder 80 = .ok (.imul, 1) := by decide +kernel
theorem dX7_doesNewOrder_81 : decode cX7_doesNewOrder 81 = .ok (.iconst 5, 1) := by decide +kernel
theorem dX7_doesNewOrder_82 : decode cX7_doesNewOrder 82 = .ok (.iadd, 1) := by decide +kernel
theorem dX7_doesNewOrder_83 : decode cX7_doesNewOrder 83 = .ok (.iconst 0, 1) := by decide +kernel
theorem dX7_doesNewOrder_84 : decode cX7_doesNewOrder 84 = .ok (.invokevirtual 191, 3) := by decide +kernel
theorem dX7_doesNewOrder_87 : decode cX7_doesNewOrder 87 = .ok (.istore_n 3, 1) := by decide +kernel
theorem dX7_doesNewOrder_88 : decode cX7_doesNewOrder 88 = .ok (.iload_n 3, 1) := by decide +kernel
theorem dX7_doesNewOrder_89 : decode cX7_doesNewOrder 89 = .ok (.ifCond .eq 7, 3) := by decide +kernel
theorem dX7_doesNewOrder_92 : decode cX7_doesNewOrder 92 = .ok (.iload_n 3, 1) := by decide +kernel
theorem dX7_doesNewOrder_93 : decode cX7_doesNewOrder 93 = .ok (.goto 27, 3) := by decide +kernel
theorem dX7_doesNewOrder_96 : decode cX7_doesNewOrder 96 = .ok (.aload_n 0, 1) := by decide +kernel
theorem dX7_doesNewOrder_97 : decode cX7_doesNewOrder 97 = .ok (.iload_n 1, 1) := by decide +kernel
theorem dX7_doesNewOrder_98 : decode cX7_doesNewOrder 98 = .ok (.aload_n 0, 1) := by decide +kernel
theorem dX7_doesNewOrder_99 : decode cX7_doesNewOrder 99 = .ok (.getfield 350, 3) := by decide +kernel
theorem dX7_doesNewOrder_102 : decode cX7_doesNewOrder 102 = .ok (.iload_n 2, 1) := by decide +kernel
theorem dX7_doesNewOrder_103 : decode cX7_doesNewOrder 103 = .ok (.aload_n 0, 1) := by decide +kernel
theorem dX7_doesNewOrder_104 : decode cX7_doesNewOrder 104 = .ok (.invokevirtual 66, 3) := by decide +kernel
theorem dX7_doesNewOrder_107 : decode cX7_doesNewOrder 107 = .ok (.bipush 10, 2) := by decide +kernel
theorem dX7_doesNewOrder_109 : decode cX7_doesNewOrder 109 = .ok (.aload_n 0, 1) := by decide +kernel
theorem dX7_doesNewOrder_110 : decode cX7_doesNewOrder 110 = .ok (.getfield 341, 3) := by decide +kernel
theorem dX7_doesNewOrder_113 : decode cX7_doesNewOrder 113 = .ok (.imul, 1) := by decide +kernel
theorem dX7_doesNewOrder_114 : decode cX7_doesNewOrder 114 = .ok (.iconst 5, 1) := by decide +kernel
theorem dX7_doesNewOrder_115 : decode cX7_doesNewOrder 115 = .ok (.iadd, 1) := by decide +kernel
theorem dX7_doesNewOrder_116 : decode cX7_doesNewOrder 116 = .ok (.iconst 0, 1) := by decide +kernel
theorem dX7_doesNewOrder_117 : decode cX7_doesNewOrder 117 = .ok (.invokevirtual 195, 3) := by decide +kernel
theorem dX7_doesNewOrder_120 : decode cX7_doesNewOrder 120 = .ok (.ireturn, 1) := by decide +kernel
theorem dX7_does_0 : decode cX7_does 0 = .ok (.aload_n 0, 1) := by decide +kernel
theorem dX7_does_1 : decode cX7_does 1 = .ok (.getfield 365, 3) := by decide +kernel
theorem dX7_does_4 : decode cX7_does 4 = .ok (.tableswitch 125 0 3 #[32, 37, 71, 98], 32) := by decide +kernel
theorem dX7_does_36 : decode cX7_does 36 = .ok (.aload_n 0, 1) := by decide +kernel
theorem dX7_does_37 : decode cX7_does 37 = .ok (.invokevirtual 377, 3) := by decide +kernel
theorem dX7_does_40 : decode cX7_does 40 = .ok (.ireturn, 1) := by decide +kernel
theorem dX7_does_41 : decode cX7_does 41 = .ok (.aload_n 0, 1) := by decide +kernel
theorem dX7_does_42 : decode cX7_does 42 = .ok (.aload_n 0, 1) := by decide +kernel
theorem dX7_does_43 : decode cX7_does 43 = .ok (.getfield 331, 3) := by decide +kernel
theorem dX7_does_46 : decode cX7_does 46 = .ok (.aload_n 0, 1) := by decide +kernel
theorem dX7_does_47 : decode cX7_does 47 = .ok (.getfield 350, 3) := by decide +kernel
theorem dX7_does_50 : decode cX7_does 50 = .ok (.invokevirtual 145, 3) := by decide +kernel
theorem dX7_does_53 : decode cX7_does 53 = .ok (.istore_n 1, 1) := by decide +kernel
theorem dX7_does_54 : decode cX7_does 54 = .ok (.iload_n 1, 1) := by decide +kernel
theorem dX7_does_55 : decode cX7_does 55 = .ok (.ifCond .eq 7, 3) := by decide +kernel
theorem dX7_does_58 : decode cX7_does 58 = .ok (.iload_n 1, 1) := by decide +kernel
theorem dX7_does_59 : decode cX7_does 59 = .ok (.goto 15, 3) := by decide +kernel
theorem dX7_does_62 : decode cX7_does 62 = .ok (.aload_n 0, 1) := by decide +kernel
theorem dX7_does_63 : decode cX7_does 63 = .ok (.aload_n 0, 1) := by decide +kernel
theorem dX7_does_64 : decode cX7_does 64 = .ok (.getfield 331, 3) := by decide +kernel
theorem dX7_does_67 : decode cX7_does 67 = .ok (.aload_n 0, 1) := by decide +kernel
theorem dX7_does_68 : decode cX7_does 68 = .ok (.getfield 350, 3) := by decide +kernel
theorem dX7_does_71 : decode cX7_does 71 = .ok (.invokevirtual 148, 3) := by decide +kernel
theorem dX7_does_74 : decode cX7_does 74 = .ok (.ireturn, 1) := by decide +kernel
theorem dX7_does_75 : decode cX7_does 75 = .ok (.aload_n 0, 1) := by decide +kernel
theorem dX7_does_76 : decode cX7_does 76 = .ok (.aload_n 0, 1) := by decide +kernel
theorem dX7_does_77 : decode cX7_does 77 = .ok (.getfield 350, 3) := by decide +kernel
theorem dX7_does_80 : decode cX7_does 80 = .ok (.iconst 0, 1) := by decide +kernel
theorem dX7_does_81 : decode cX7_does 81 = .ok (.invokevirtual 216, 3) := by decide +kernel
theorem dX7_does_84 : decode cX7_does 84 = .ok (.istore_n 1, 1) := by decide +kernel
theorem dX7_does_85 : decode cX7_does 85 = .ok (.iload_n 1, 1) := by decide +kernel
theorem dX7_does_86 : decode cX7_does 86 = .ok (.ifCond .eq 7, 3) := by decide +kernel
theorem dX7_does_89 : decode cX7_does 89 = .ok (.iload_n 1, 1) := by decide +kernel
theorem dX7_does_90 : decode cX7_does 90 = .ok (.goto 11, 3) := by decide +kernel
theorem dX7_does_93 : decode cX7_does 93 = .ok (.aload_n 0, 1) := by decide +kernel
theorem dX7_does_94 : decode cX7_does 94 = .ok (.aload_n 0, 1) := by decide +kernel
theorem dX7_does_95 : decode cX7_does 95 = .ok (.getfield 350, 3) := by decide +kernel
theorem dX7_does_98 : decode cX7_does 98 = .ok (.invokevirtual 219, 3) := by decide +kernel
theorem dX7_does_101 : decode cX7_does 101 = .ok (.ireturn, 1) := by decide +kernel
theorem dX7_does_102 : decode cX7_does 102 = .ok (.aload_n 0, 1) := by decide +kernel
theorem dX7_does_103 : decode cX7_does 103 = .ok (.aload_n 0, 1) := by decide +kernel
theorem dX7_does_104 : decode cX7_does 104 = .ok (.getfield 350, 3) := by decide +kernel
theorem dX7_does_107 : decode cX7_does 107 = .ok (.iconst 1, 1) := by decide +kernel
theorem dX7_does_108 : decode cX7_does 108 = .ok (.invokevirtual 216, 3) := by decide +kernel
theorem dX7_does_111 : decode cX7_does 111 = .ok (.istore_n 1, 1) := by decide +kernel
theorem dX7_does_112 : decode cX7_does 112 = .ok (.iload_n 1, 1) := by decide +kernel
theorem dX7_does_113 : decode cX7_does 113 = .ok (.ifCond .eq 7, 3) := by decide +kernel
theorem dX7_does_116 : decode cX7_does 116 = .ok (.iload_n 1, 1) := by decide +kernel
theorem dX7_does_117 : decode cX7_does 117 = .ok (.goto 11, 3) := by decide +kernel
theorem dX7_does_120 : decode cX7_does 120 = .ok (.aload_n 0, 1) := by decide +kernel
theorem dX7_does_121 : decode cX7_does 121 = .ok (.aload_n 0, 1) := by decide +kernel
theorem dX7_does_122 : decode cX7_does 122 = .ok (.getfield 350, 3) := by decide +kernel
theorem dX7_does_125 : decode cX7_does 125 = .ok (.invokevirtual 222, 3) := by decide +kernel
theorem dX7_does_128 : decode cX7_does 128 = .ok (.ireturn, 1) := by decide +kernel
theorem dX7_does_129 : decode cX7_does 129 = .ok (.aload_n 0, 1) := by decide +kernel
theorem dX7_does_130 : decode cX7_does 130 = .ok (.aload_n 0, 1) := by decide +kernel
theorem dX7_does_131 : decode cX7_does 131 = .ok (.getfield 350, 3) := by decide +kernel
theorem dX7_does_134 : decode cX7_does 134 = .ok (.invokevirtual 272, 3) := by decide +kernel
theorem dX7_does_137 : decode cX7_does 137 = .ok (.istore_n 1, 1) := by decide +kernel
theorem dX7_does_138 : decode cX7_does 138 = .ok (.iload_n 1, 1) := by decide +kernel
theorem dX7_does_139 : decode cX7_does 139 = .ok (.ifCond .eq 7, 3) := by decide +kernel
theorem dX7_does_142 : decode cX7_does 142 = .ok (.iload_n 1, 1) := by decide +kernel
theorem dX7_does_143 : decode cX7_does 143 = .ok (.goto 11, 3) := by decide +kernel
theorem dX7_does_146 : decode cX7_does 146 = .ok (.aload_n 0, 1) := by decide +kernel
theorem dX7_does_147 : decode cX7_does 147 = .ok (.aload_n 0, 1) := by decide +kernel
theorem dX7_does_148 : decode cX7_does 148 = .ok (.getfield 350, 3) := by decide +kernel
theorem dX7_does_151 : decode cX7_does 151 = .ok (.invokevirtual 275, 3) := by decide +kernel
theorem dX7_does_154 : decode cX7_does 154 = .ok (.ireturn, 1) := by decide +kernel
theorem dX7_carryOut_0 : decode cX7_carryOut 0 = .ok (.aload_n 0, 1) := by decide +kernel
theorem dX7_carryOut_1 : decode cX7_carryOut 1 = .ok (.invokevirtual 380, 3) := by decide +kernel
theorem dX7_carryOut_4 : decode cX7_carryOut 4 = .ok (.bipush (-6), 2) := by decide +kernel
theorem dX7_carryOut_6 : decode cX7_carryOut 6 = .ok (.if_icmp .eq 6, 3) := by decide +kernel
theorem dX7_carryOut_9 : decode cX7_carryOut 9 = .ok (.bipush (-3), 2) := by decide +kernel
theorem dX7_carryOut_11 : decode cX7_carryOut 11 = .ok (.ireturn, 1) := by decide +kernel
theorem dX7_carryOut_12 : decode cX7_carryOut 12 = .ok (.aload_n 0, 1) := by decide +kernel
theorem dX7_carryOut_13 : decode cX7_carryOut 13 = .ok (.invokevirtual 70, 3) := by decide +kernel
theorem dX7_carryOut_16 : decode cX7_carryOut 16 = .ok (.iconst 0, 1) := by decide +kernel
theorem dX7_carryOut_17 : decode cX7_carryOut 17 = .ok (.istore_n 1, 1) := by decide +kernel
theorem dX7_carryOut_18 : decode cX7_carryOut 18 = .ok (.iconst 1, 1) := by decide +kernel
theorem dX7_carryOut_19 : decode cX7_carryOut 19 = .ok (.istore_n 2, 1) := by decide +kernel
theorem dX7_carryOut_20 : decode cX7_carryOut 20 = .ok (.aload_n 0, 1) := by decide +kernel
theorem dX7_carryOut_21 : decode cX7_carryOut 21 = .ok (.iconst 0, 1) := by decide +kernel
theorem dX7_carryOut_22 : decode cX7_carryOut 22 = .ok (.putfield 313, 3) := by decide +kernel
theorem dX7_carryOut_25 : decode cX7_carryOut 25 = .ok (.iload_n 2, 1) := by decide +kernel
theorem dX7_carryOut_26 : decode cX7_carryOut 26 = .ok (.ifCond .eq 69, 3) := by decide +kernel
theorem dX7_carryOut_29 : decode cX7_carryOut 29 = .ok (.aload_n 0, 1) := by decide +kernel
theorem dX7_carryOut_30 : decode cX7_carryOut 30 = .ok (.invokevirtual 374, 3) := by decide +kernel
theorem dX7_carryOut_33 : decode cX7_carryOut 33 = .ok (.ifCond .eq 14, 3) := by decide +kernel
theorem dX7_carryOut_36 : decode cX7_carryOut 36 = .ok (.aload_n 0, 1) := by decide +kernel
theorem dX7_carryOut_37 : decode cX7_carryOut 37 = .ok (.invokevirtual 383, 3) := by decide +kernel
theorem dX7_carryOut_40 : decode cX7_carryOut 40 = .ok (.ifCond .lt 7, 3) := by decide +kernel
theorem dX7_carryOut_43 : decode cX7_carryOut 43 = .ok (.iconst 1, 1) := by decide +kernel
theorem dX7_carryOut_44 : decode cX7_carryOut 44 = .ok (.goto 4, 3) := by decide +kernel
theorem dX7_carryOut_47 : decode cX7_carryOut 47 = .ok (.iconst 0, 1) := by decide +kernel
theorem dX7_carryOut_48 : decode cX7_carryOut 48 = .ok (.istore_n 2, 1) := by decide +kernel
theorem dX7_carryOut_49 : decode cX7_carryOut 49 = .ok (.iload_n 1, 1) := by decide +kernel
theorem dX7_carryOut_50 : decode cX7_carryOut 50 = .ok (.iload_n 2, 1) := by decide +kernel
theorem dX7_carryOut_51 : decode cX7_carryOut 51 = .ok (.ifCond .eq 7, 3) := by decide +kernel
theorem dX7_carryOut_54 : decode cX7_carryOut 54 = .ok (.iconst 1, 1) := by decide +kernel
theorem dX7_carryOut_55 : decode cX7_carryOut 55 = .ok (.goto 4, 3) := by decide +kernel
theorem dX7_carryOut_58 : decode cX7_carryOut 58 = .ok (.iconst 0, 1) := by decide +kernel
theorem dX7_carryOut_59 : decode cX7_carryOut 59 = .ok (.iadd, 1) := by decide +kernel
theorem dX7_carryOut_60 : decode cX7_carryOut 60 = .ok (.istore_n 1, 1) := by decide +kernel
theorem dX7_carryOut_61 : decode cX7_carryOut 61 = .ok (.iload_n 2, 1) := by decide +kernel
theorem dX7_carryOut_62 : decode cX7_carryOut 62 = .ok (.ifCond .eq 18, 3) := by decide +kernel
theorem dX7_carryOut_65 : decode cX7_carryOut 65 = .ok (.aload_n 0, 1) := by decide +kernel
theorem dX7_carryOut_66 : decode cX7_carryOut 66 = .ok (.getfield 313, 3) := by decide +kernel
theorem dX7_carryOut_69 : decode cX7_carryOut 69 = .ok (.aload_n 0, 1) := by decide +kernel
theorem dX7_carryOut_70 : decode cX7_carryOut 70 = .ok (.getfield 298, 3) := by decide +kernel
theorem dX7_carryOut_73 : decode cX7_carryOut 73 = .ok (.if_icmp .ge 7, 3) := by decide +kernel
theorem dX7_carryOut_76 : decode cX7_carryOut 76 = .ok (.iconst 1, 1) := by decide +kernel
theorem dX7_carryOut_77 : decode cX7_carryOut 77 = .ok (.goto 4, 3) := by decide +kernel
theorem dX7_carryOut_80 : decode cX7_carryOut 80 = .ok (.iconst 0, 1) := by decide +kernel
theorem dX7_carryOut_81 : decode cX7_carryOut 81 = .ok (.istore_n 2, 1) := by decide +kernel
theorem dX7_carryOut_82 : decode cX7_carryOut 82 = .ok (.aload_n 0, 1) := by decide +kernel
theorem dX7_carryOut_83 : decode cX7_carryOut 83 = .ok (.dup, 1) := by decide +kernel
theorem dX7_carryOut_84 : decode cX7_carryOut 84 = .ok (.getfield 313, 3) := by decide +kernel
theorem dX7_carryOut_87 : decode cX7_carryOut 87 = .ok (.iconst 1, 1) := by decide +kernel
theorem dX7_carryOut_88 : decode cX7_carryOut 88 = .ok (.iadd, 1) := by decide +kernel
theorem dX7_carryOut_89 : decode cX7_carryOut 89 = .ok (.putfield 313, 3) := by decide +kernel
theorem dX7_carryOut_92 : decode cX7_carryOut 92 = .ok (.goto (-67), 3) := by decide +kernel
theorem dX7_carryOut_95 : decode cX7_carryOut 95 = .ok (.aload_n 0, 1) := by decide +kernel
theorem dX7_carryOut_96 : decode cX7_carryOut 96 = .ok (.iconst 0, 1) := by decide +kernel
theorem dX7_carryOut_97 : decode cX7_carryOut 97 = .ok (.putfield 298, 3) := by decide +kernel
theorem dX7_carryOut_100 : decode cX7_carryOut 100 = .ok (.iload_n 1, 1) := by decide +kernel
theorem dX7_carryOut_101 : decode cX7_carryOut 101 = .ok (.ireturn, 1) := by decide +kernel
theorem dL_law_0 : decode cL_law 0 = .ok (.new 7, 3) := by decide +kernel
theorem dL_law_3 : decode cL_law 3 = .ok (.dup, 1) := by decide +kernel
theorem dL_law_4 : decode cL_law 4 = .ok (.invokespecial 9, 3) := by decide +kernel
theorem dL_law_7 : decode cL_law 7 = .ok (.astore_n 1, 1) := by decide +kernel
theorem dL_law_8 : decode cL_law 8 = .ok (.new 10, 3) := by decide +kernel
theorem dL_law_11 : decode cL_law 11 = .ok (.dup, 1) := by decide +kernel
theorem dL_law_12 : decode cL_law 12 = .ok (.invokespecial 12, 3) := by decide +kernel
theorem dL_law_15 : decode cL_law 15 = .ok (.astore_n 2, 1) := by decide +kernel
theorem dL_law_16 : decode cL_law 16 = .ok (.iconst 0, 1) := by decide +kernel
theorem dL_law_17 : decode cL_law 17 = .ok (.istore_n 3, 1) := by decide +kernel
theorem dL_law_18 : decode cL_law 18 = .ok (.iload_n 3, 1) := by decide +kernel
theorem dL_law_19 : decode cL_law 19 = .ok (.aload_n 0, 1) := by decide +kernel
theorem dL_law_20 : decode cL_law 20 = .ok (.arraylength, 1) := by decide +kernel
theorem dL_law_21 : decode cL_law 21 = .ok (.bipush 7, 2) := by decide +kernel
theorem dL_law_23 : decode cL_law 23 = .ok (.isub, 1) := by decide +kernel
theorem dL_law_24 : decode cL_law 24 = .ok (.if_icmp .gt 1055, 3) := by decide +kernel
theorem dL_law_27 : decode cL_law 27 = .ok (.aload_n 0, 1) := by decide +kernel
theorem dL_law_28 : decode cL_law 28 = .ok (.iload_n 3, 1) := by decide +kernel
theorem dL_law_29 : decode cL_law 29 = .ok (.iaload, 1) := by decide +kernel
theorem dL_law_30 : decode cL_law 30 = .ok (.bipush 31, 2) := by decide +kernel
theorem dL_law_32 : decode cL_law 32 = .ok (.iand, 1) := by decide +kernel
theorem dL_law_33 : decode cL_law 33 = .ok (.tableswitch 1040 0 29 #[135, 168, 201, 234, 267, 300, 375, 418, 441, 464, 487, 510, 543, 577, 601, 634, 667, 690, 723, 756, 790, 813, 846, 889, 942, 955, 968, 981, 994, 1017], 135) := by decide +kernel
theorem dL_law_168 : decode cL_law 168 = .ok (.aload_n 1, 1) := by decide +kernel
theorem dL_law_169 : decode cL_law 169 = .ok (.aload_n 0, 1) := by decide +kernel
theorem dL_law_170 : decode cL_law 170 = .ok (.iload_n 3, 1) := by decide +kernel
theorem dL_law_171 : decode cL_law 171 = .ok (.iconst 1, 1) := by decide +kernel
theorem dL_law_172 : decode cL_law 172 = .ok (.iadd, 1) := by decide +kernel
theorem dL_law_173 : decode cL_law 173 = .ok (.iaload, 1) := by decide +kernel
theorem dL_law_174 : decode cL_law 174 = .ok (.aload_n 0, 1) := by decide +kernel
theorem dL_law_175 : decode cL_law 175 = .ok (.iload_n 3, 1) := by decide +kernel
theorem dL_law_176 : decode cL_law 176 = .ok (.iconst 2, 1) := by decide +kernel
theorem dL_law_177 : decode cL_law 177 = .ok (.iadd, 1) := by decide +kernel
theorem dL_law_178 : decode cL_law 178 = .ok (.iaload, 1) := by decide +kernel
theorem dL_law_179 : decode cL_law 179 = .ok (.invokevirtual 13, 3) := by decide +kernel
theorem dL_law_182 : decode cL_law 182 = .ok (.aload_n 2, 1) := by decide +kernel
theorem dL_law_183 : decode cL_law 183 = .ok (.aload_n 0, 1) := by decide +kernel
theorem dL_law_184 : decode cL_law 184 = .ok (.iload_n 3, 1) := by decide +kernel
theorem dL_law_185 : decode cL_law 185 = .ok (.iconst 1, 1) := by decide +kernel
theorem dL_law_186 : decode cL_law 186 = .ok (.iadd, 1) := by decide +kernel
theorem dL_law_187 : decode cL_law 187 = .ok (.iaload, 1) := by decide +kernel
theorem dL_law_188 : decode cL_law 188 = .ok (.aload_n 0, 1) := by decide +kernel
theorem dL_law_189 : decode cL_law 189 = .ok (.iload_n 3, 1) := by decide +kernel
theorem dL_law_190 : decode cL_law 190 = .ok (.iconst 2, 1) := by decide +kernel
theorem dL_law_191 : decode cL_law 191 = .ok (.iadd, 1) := by decide +kernel
theorem dL_law_192 : decode cL_law 192 = .ok (.iaload, 1) := by decide +kernel
theorem dL_law_193 : decode cL_law 193 = .ok (.invokevirtual 17, 3) := by decide +kernel
theorem dL_law_196 : decode cL_law 196 = .ok (.if_icmp .eq 877, 3) := by decide +kernel
theorem dL_law_199 : decode cL_law 199 = .ok (.iconst 0, 1) := by decide +kernel
theorem dL_law_200 : decode cL_law 200 = .ok (.ireturn, 1) := by decide +kernel
theorem dL_law_201 : decode cL_law 201 = .ok (.aload_n 1, 1) := by decide +kernel
theorem dL_law_202 : decode cL_law 202 = .ok (.aload_n 0, 1) := by decide +kernel
theorem dL_law_203 : decode cL_law 203 = .ok (.iload_n 3, 1) := by decide +kernel
theorem dL_law_204 : decode cL_law 204 = .ok (.iconst 1, 1) := by decide +kernel
theorem dL_law_205 : decode cL_law 205 = .ok (.iadd, 1) := by decide +kernel
theorem dL_law_206 : decode cL_law 206 = .ok (.iaload, 1) := by decide +kernel
theorem dL_law_207 : decode cL_law 207 = .ok (.aload_n 0, 1) := by decide +kernel
theorem dL_law_208 : decode cL_law 208 = .ok (.iload_n 3, 1) := by decide +kernel
theorem dL_law_209 : decode cL_law 209 = .ok (.iconst 2, 1) := by decide +kernel
theorem dL_law_210 : decode cL_law 210 = .ok (.iadd, 1) := by decide +kernel
theorem dL_law_211 : decode cL_law 211 = .ok (.iaload, 1) := by decide +kernel
theorem dL_law_212 : decode cL_law 212 = .ok (.invokevirtual 18, 3) := by decide +kernel
theorem dL_law_215 : decode cL_law 215 = .ok (.aload_n 2, 1) := by decide +kernel
theorem dL_law_216 : decode cL_law 216 = .ok (.aload_n 0, 1) := by decide +kernel
theorem dL_law_217 : decode cL_law 217 = .ok (.iload_n 3, 1) := by decide +kernel
theorem dL_law_218 : decode cL_law 218 = .ok (.iconst 1, 1) := by decide +kernel
theorem dL_law_219 : decode cL_law 219 = .ok (.iadd, 1) := by decide +kernel
theorem dL_law_220 : decode cL_law 220 = .ok (.iaload, 1) := by decide +kernel
theorem dL_law_221 : decode cL_law 221 = .ok (.aload_n 0, 1) := by decide +kernel
theorem dL_law_222 : decode cL_law 222 = .ok (.iload_n 3, 1) := by decide +kernel
theorem dL_law_223 : decode cL_law 223 = .ok (.iconst 2, 1) := by decide +kernel
theorem dL_law_224 : decode cL_law 224 = .ok (.iadd, 1) := by decide +kernel
theorem dL_law_225 : decode cL_law 225 = .ok (.iaload, 1) := by decide +kernel
theorem dL_law_226 : decode cL_law 226 = .ok (.invokevirtual 21, 3) := by decide +kernel
theorem dL_law_229 : decode cL_law 229 = .ok (.if_icmp .eq 844, 3) := by decide +kernel
theorem dL_law_232 : decode cL_law 232 = .ok (.iconst 0, 1) := by decide +kernel
theorem dL_law_233 : decode cL_law 233 = .ok (.ireturn, 1) := by decide +kernel
theorem dL_law_234 : decode cL_law 234 = .ok (.aload_n 1, 1) := by decide +kernel
theorem dL_law_235 : decode cL_law 235 = .ok (.aload_n 0, 1) := by decide +kernel
theorem dL_law_236 : decode cL_law 236 = .ok (.iload_n 3, 1) := by decide +kernel
theorem dL_law_237 : decode cL_law 237 = .ok (.iconst 1, 1) := by decide +kernel
theorem dL_law_238 : decode cL_law 238 = .ok (.iadd, 1) := by decide +kernel
theorem dL_law_239 : decode cL_law 239 = .ok (.iaload, 1) := by decide +kernel
theorem dL_law_240 : decode cL_law 240 = .ok (.aload_n 0, 1) := by decide +kernel
theorem dL_law_241 : decode cL_law 241 = .ok (.iload_n 3, 1) := by decide +kernel
theorem dL_law_242 : decode cL_law 242 = .ok (.iconst 2, 1) := by decide +kernel
theorem dL_law_243 : decode cL_law 243 = .ok (.iadd, 1) := by decide +kernel
theorem dL_law_244 : decode cL_law 244 = .ok (.iaload, 1) := by decide +kernel
theorem dL_law_245 : decode cL_law 245 = .ok (.invokevirtual 22, 3) := by decide +kernel
theorem dL_law_248 : decode cL_law 248 = .ok (.aload_n 2, 1) := by decide +kernel
theorem dL_law_249 : decode cL_law 249 = .ok (.aload_n 0, 1) := by decide +kernel
theorem dL_law_250 : decode cL_law 250 = .ok (.iload_n 3, 1) := by decide +kernel
theorem dL_law_251 : decode cL_law 251 = .ok (.iconst 1, 1) := by decide +kernel
theorem dL_law_252 : decode cL_law 252 = .ok (.iadd, 1) := by decide +kernel
theorem dL_law_253 : decode cL_law 253 = .ok (.iaload, 1) := by decide +kernel
theorem dL_law_254 : decode cL_law 254 = .ok (.aload_n 0, 1) := by decide +kernel
theorem dL_law_255 : decode cL_law 255 = .ok (.iload_n 3, 1) := by decide +kernel
theorem dL_law_256 : decode cL_law 256 = .ok (.iconst 2, 1) := by decide +kernel
theorem dL_law_257 : decode cL_law 257 = .ok (.iadd, 1) := by decide +kernel
theorem dL_law_258 : decode cL_law 258 = .ok (.iaload, 1) := by decide +kernel
theorem dL_law_259 : decode cL_law 259 = .ok (.invokevirtual 25, 3) := by decide +kernel
theorem dL_law_262 : decode cL_law 262 = .ok (.if_icmp .eq 811, 3) := by decide +kernel
theorem dL_law_265 : decode cL_law 265 = .ok (.iconst 0, 1) := by decide +kernel
theorem dL_law_266 : decode cL_law 266 = .ok (.ireturn, 1) := by decide +kernel
theorem dL_law_267 : decode cL_law 267 = .ok (.aload_n 1, 1) := by decide +kernel
theorem dL_law_268 : decode cL_law 268 = .ok (.aload_n 0, 1) := by decide +kernel
theorem dL_law_269 : decode cL_law 269 = .ok (.iload_n 3, 1) := by decide +kernel
theorem dL_law_270 : decode cL_law 270 = .ok (.iconst 1, 1) := by decide +kernel
theorem dL_law_271 : decode cL_law 271 = .ok (.iadd, 1) := by decide +kernel
theorem dL_law_272 : decode cL_law 272 = .ok (.iaload, 1) := by decide +kernel
theorem dL_law_273 : decode cL_law 273 = .ok (.aload_n 0, 1) := by decide +kernel
theorem dL_law_274 : decode cL_law 274 = .ok (.iload_n 3, 1) := by decide +kernel
theorem dL_law_275 : decode cL_law 275 = .ok (.iconst 2, 1) := by decide +kernel
theorem dL_law_276 : decode cL_law 276 = .ok (.iadd, 1) := by decide +kernel
theorem dL_law_277 : decode cL_law 277 = .ok (.iaload, 1) := by decide +kernel
theorem dL_law_278 : decode cL_law 278 = .ok (.invokevirtual 26, 3) := by decide +kernel
theorem dL_law_281 : decode cL_law 281 = .ok (.aload_n 2, 1) := by decide +kernel
theorem dL_law_282 : decode cL_law 282 = .ok (.aload_n 0, 1) := by decide +kernel
theorem dL_law_283 : decode cL_law 283 = .ok (.iload_n 3, 1) := by decide +kernel
theorem dL_law_284 : decode cL_law 284 = .ok (.iconst 1, 1) := by decide +kernel
theorem dL_law_285 : decode cL_law 285 = .ok (.iadd, 1) := by decide +kernel
theorem dL_law_286 : decode cL_law 286 = .ok (.iaload, 1) := by decide +kernel
theorem dL_law_287 : decode cL_law 287 = .ok (.aload_n 0, 1) := by decide +kernel
theorem dL_law_288 : decode cL_law 288 = .ok (.iload_n 3, 1) := by decide +kernel
theorem dL_law_289 : decode cL_law 289 = .ok (.iconst 2, 1) := by decide +kernel
theorem dL_law_290 : decode cL_law 290 = .ok (.iadd, 1) := by decide +kernel
theorem dL_law_291 : decode cL_law 291 = .ok (.iaload, 1) := by decide +kernel
theorem dL_law_292 : decode cL_law 292 = .ok (.invokevirtual 29, 3) := by decide +kernel
theorem dL_law_295 : decode cL_law 295 = .ok (.if_icmp .eq 778, 3) := by decide +kernel
theorem dL_law_298 : decode cL_law 298 = .ok (.iconst 0, 1) := by decide +kernel
theorem dL_law_299 : decode cL_law 299 = .ok (.ireturn, 1) := by decide +kernel
theorem dL_law_300 : decode cL_law 300 = .ok (.aload_n 1, 1) := by decide +kernel
theorem dL_law_301 : decode cL_law 301 = .ok (.aload_n 0, 1) := by decide +kernel
theorem dL_law_302 : decode cL_law 302 = .ok (.iload_n 3, 1) := by decide +kernel
theorem dL_law_303 : decode cL_law 303 = .ok (.iconst 1, 1) := by decide +kernel
theorem dL_law_304 : decode cL_law 304 = .ok (.iadd, 1) := by decide +kernel
theorem dL_law_305 : decode cL_law 305 = .ok (.iaload, 1) := by decide +kernel
theorem dL_law_306 : decode cL_law 306 = .ok (.aload_n 0, 1) := by decide +kernel
theorem dL_law_307 : decode cL_law 307 = .ok (.iload_n 3, 1) := by decide +kernel
theorem dL_law_308 : decode cL_law 308 = .ok (.iconst 2, 1) := by decide +kernel
theorem dL_law_309 : decode cL_law 309 = .ok (.iadd, 1) := by decide +kernel
theorem dL_law_310 : decode cL_law 310 = .ok (.iaload, 1) := by decide +kernel
theorem dL_law_311 : decode cL_law 311 = .ok (.invokevirtual 30, 3) := by decide +kernel
theorem dL_law_314 : decode cL_law 314 = .ok (.aload_n 2, 1) := by decide +kernel
theorem dL_law_315 : decode cL_law 315 = .ok (.aload_n 0, 1) := by decide +kernel
theorem dL_law_316 : decode cL_law 316 = .ok (.iload_n 3, 1) := by decide +kernel
theorem dL_law_317 : decode cL_law 317 = .ok (.iconst 1, 1) := by decide +kernel
theorem dL_law_318 : decode cL_law 318 = .ok (.iadd, 1) := by decide +kernel
theorem dL_law_319 : decode cL_law 319 = .ok (.iaload, 1) := by decide +kernel
theorem dL_law_320 : decode cL_law 320 = .ok (.aload_n 0, 1) := by decide +kernel
theorem dL_law_321 : decode cL_law 321 = .ok (.iload_n 3, 1) := by decide +kernel
theorem dL_law_322 : decode cL_law 322 = .ok (.iconst 2, 1) := by decide +kernel
theorem dL_law_323 : decode cL_law 323 = .ok (.iadd, 1) := by decide +kernel
theorem dL_law_324 : decode cL_law 324 = .ok (.iaload, 1) := by decide +kernel
theorem dL_law_325 : decode cL_law 325 = .ok (.invokevirtual 33, 3) := by decide +kernel
theorem dL_law_328 : decode cL_law 328 = .ok (.if_icmp .eq 745, 3) := by decide +kernel
theorem dL_law_331 : decode cL_law 331 = .ok (.iconst 0, 1) := by decide +kernel
theorem dL_law_332 : decode cL_law 332 = .ok (.ireturn, 1) := by decide +kernel
theorem dL_law_333 : decode cL_law 333 = .ok (.aload_n 1, 1) := by decide +kernel
theorem dL_law_334 : decode cL_law 334 = .ok (.aload_n 0, 1) := by decide +kernel
theorem dL_law_335 : decode cL_law 335 = .ok (.iload_n 3, 1) := by decide +kernel
theorem dL_law_336 : decode cL_law 336 = .ok (.iconst 1, 1) := by decide +kernel
theorem dL_law_337 : decode cL_law 337 = .ok (.iadd, 1) := by decide +kernel
theorem dL_law_338 : decode cL_law 338 = .ok (.iaload, 1) := by decide +kernel
theorem dL_law_339 : decode cL_law 339 = .ok (.aload_n 0, 1) := by decide +kernel
theorem dL_law_340 : decode cL_law 340 = .ok (.iload_n 3, 1) := by decide +kernel
theorem dL_law_341 : decode cL_law 341 = .ok (.iconst 2, 1) := by decide +kernel
theorem dL_law_342 : decode cL_law 342 = .ok (.iadd, 1) := by decide +kernel
theorem dL_law_343 : decode cL_law 343 = .ok (.iaload, 1) := by decide +kernel
theorem dL_law_344 : decode cL_law 344 = .ok (.aload_n 0, 1) := by decide +kernel
theorem dL_law_345 : decode cL_law 345 = .ok (.iload_n 3, 1) := by decide +kernel
theorem dL_law_346 : decode cL_law 346 = .ok (.iconst 3, 1) := by decide +kernel
theorem dL_law_347 : decode cL_law 347 = .ok (.iadd, 1) := by decide +kernel
theorem dL_law_348 : decode cL_law 348 = .ok (.iaload, 1) := by decide +kernel
theorem dL_law_349 : decode cL_law 349 = .ok (.aload_n 0, 1) := by decide +kernel
theorem dL_law_350 : decode cL_law 350 = .ok (.iload_n 3, 1) := by decide +kernel
theorem dL_law_351 : decode cL_law 351 = .ok (.iconst 4, 1) := by decide +kernel
theorem dL_law_352 : decode cL_law 352 = .ok (.iadd, 1) := by decide +kernel
theorem dL_law_353 : decode cL_law 353 = .ok (.iaload, 1) := by decide +kernel
theorem dL_law_354 : decode cL_law 354 = .ok (.aload_n 0, 1) := by decide +kernel
theorem dL_law_355 : decode cL_law 355 = .ok (.iload_n 3, 1) := by decide +kernel
theorem dL_law_356 : decode cL_law 356 = .ok (.iconst 5, 1) := by decide +kernel
theorem dL_law_357 : decode cL_law 357 = .ok (.iadd, 1) := by decide +kernel
theorem dL_law_358 : decode cL_law 358 = .ok (.iaload, 1) := by decide +kernel
theorem dL_law_359 : decode cL_law 359 = .ok (.aload_n 0, 1) := by decide +kernel
theorem dL_law_360 : decode cL_law 360 = .ok (.iload_n 3, 1) := by decide +kernel
theorem dL_law_361 : decode cL_law 361 = .ok (.bipush 6, 2) := by decide +kernel
theorem dL_law_363 : decode cL_law 363 = .ok (.iadd, 1) := by decide +kernel
theorem dL_law_364 : decode cL_law 364 = .ok (.iaload, 1) := by decide +kernel
theorem dL_law_365 : decode cL_law 365 = .ok (.invokevirtual 34, 3) := by decide +kernel
theorem dL_law_368 : decode cL_law 368 = .ok (.aload_n 2, 1) := by decide +kernel
theorem dL_law_369 : decode cL_law 369 = .ok (.aload_n 0, 1) := by decide +kernel
theorem dL_law_370 : decode cL_law 370 = .ok (.iload_n 3, 1) := by decide +kernel
theorem dL_law_371 : decode cL_law 371 = .ok (.iconst 1, 1) := by decide +kernel
theorem dL_law_372 : decode cL_law 372 = .ok (.iadd, 1) := by decide +kernel
theorem dL_law_373 : decode cL_law 373 = .ok (.iaload, 1) := by decide +kernel
theorem dL_law_374 : decode cL_law 374 = .ok (.aload_n 0, 1) := by decide +kernel
theorem dL_law_375 : decode cL_law 375 = .ok (.iload_n 3, 1) := by decide +kernel
theorem dL_law_376 : decode cL_law 376 = .ok (.iconst 2, 1) := by decide +kernel
theorem dL_law_377 : decode cL_law 377 = .ok (.iadd, 1) := by decide +kernel
theorem dL_law_378 : decode cL_law 378 = .ok (.iaload, 1) := by decide +kernel
theorem dL_law_379 : decode cL_law 379 = .ok (.aload_n 0, 1) := by decide +kernel
theorem dL_law_380 : decode cL_law 380 = .ok (.iload_n 3, 1) := by decide +kernel
theorem dL_law_381 : decode cL_law 381 = .ok (.iconst 3, 1) := by decide +kernel
theorem dL_law_382 : decode cL_law 382 = .ok (.iadd, 1) := by decide +kernel
theorem dL_law_383 : decode cL_law 383 = .ok (.iaload, 1) := by decide +kernel
theorem dL_law_384 : decode cL_law 384 = .ok (.aload_n 0, 1) := by decide +kernel
theorem dL_law_385 : decode cL_law 385 = .ok (.iload_n 3, 1) := by decide +kernel
theorem dL_law_386 : decode cL_law 386 = .ok (.iconst 4, 1) := by decide +kernel
theorem dL_law_387 : decode cL_law 387 = .ok (.iadd, 1) := by decide +kernel
theorem dL_law_388 : decode cL_law 388 = .ok (.iaload, 1) := by decide +kernel
theorem dL_law_389 : decode cL_law 389 = .ok (.aload_n 0, 1) := by decide +kernel
theorem dL_law_390 : decode cL_law 390 = .ok (.iload_n 3, 1) := by decide +kernel
theorem dL_law_391 : decode cL_law 391 = .ok (.iconst 5, 1) := by decide +kernel
theorem dL_law_392 : decode cL_law 392 = .ok (.iadd, 1) := by decide +kernel
theorem dL_law_393 : decode cL_law 393 = .ok (.iaload, 1) := by decide +kernel
theorem dL_law_394 : decode cL_law 394 = .ok (.aload_n 0, 1) := by decide +kernel
theorem dL_law_395 : decode cL_law 395 = .ok (.iload_n 3, 1) := by decide +kernel
theorem dL_law_396 : decode cL_law 396 = .ok (.bipush 6, 2) := by decide +kernel
theorem dL_law_398 : decode cL_law 398 = .ok (.iadd, 1) := by decide +kernel
theorem dL_law_399 : decode cL_law 399 = .ok (.iaload, 1) := by decide +kernel
theorem dL_law_400 : decode cL_law 400 = .ok (.invokevirtual 38, 3) := by decide +kernel
theorem dL_law_403 : decode cL_law 403 = .ok (.if_icmp .eq 670, 3) := by decide +kernel
theorem dL_law_406 : decode cL_law 406 = .ok (.iconst 0, 1) := by decide +kernel
theorem dL_law_407 : decode cL_law 407 = .ok (.ireturn, 1) := by decide +kernel
theorem dL_law_408 : decode cL_law 408 = .ok (.aload_n 1, 1) := by decide +kernel
theorem dL_law_409 : decode cL_law 409 = .ok (.aload_n 0, 1) := by decide +kernel
theorem dL_law_410 : decode cL_law 410 = .ok (.iload_n 3, 1) := by decide +kernel
theorem dL_law_411 : decode cL_law 411 = .ok (.iconst 1, 1) := by decide +kernel
theorem dL_law_412 : decode cL_law 412 = .ok (.iadd, 1) := by decide +kernel
theorem dL_law_413 : decode cL_law 413 = .ok (.iaload, 1) := by decide +kernel
theorem dL_law_414 : decode cL_law 414 = .ok (.aload_n 0, 1) := by decide +kernel
theorem dL_law_415 : decode cL_law 415 = .ok (.iload_n 3, 1) := by decide +kernel
theorem dL_law_416 : decode cL_law 416 = .ok (.iconst 2, 1) := by decide +kernel
theorem dL_law_417 : decode cL_law 417 = .ok (.iadd, 1) := by decide +kernel
theorem dL_law_418 : decode cL_law 418 = .ok (.iaload, 1) := by decide +kernel
theorem dL_law_419 : decode cL_law 419 = .ok (.aload_n 0, 1) := by decide +kernel
theorem dL_law_420 : decode cL_law 420 = .ok (.iload_n 3, 1) := by decide +kernel
theorem dL_law_421 : decode cL_law 421 = .ok (.iconst 3, 1) := by decide +kernel
theorem dL_law_422 : decode cL_law 422 = .ok (.iadd, 1) := by decide +kernel
theorem dL_law_423 : decode cL_law 423 = .ok (.iaload, 1) := by decide +kernel
theorem dL_law_424 : decode cL_law 424 = .ok (.invokevirtual 39, 3) := by decide +kernel
theorem dL_law_427 : decode cL_law 427 = .ok (.aload_n 2, 1) := by decide +kernel
theorem dL_law_428 : decode cL_law 428 = .ok (.aload_n 0, 1) := by decide +kernel
theorem dL_law_429 : decode cL_law 429 = .ok (.iload_n 3, 1) := by decide +kernel
theorem dL_law_430 : decode cL_law 430 = .ok (.iconst 1, 1) := by decide +kernel
theorem dL_law_431 : decode cL_law 431 = .ok (.iadd, 1) := by decide +kernel
theorem dL_law_432 : decode cL_law 432 = .ok (.iaload, 1) := by decide +kernel
theorem dL_law_433 : decode cL_law 433 = .ok (.aload_n 0, 1) := by decide +kernel
theorem dL_law_434 : decode cL_law 434 = .ok (.iload_n 3, 1) := by decide +kernel
theorem dL_law_435 : decode cL_law 435 = .ok (.iconst 2, 1) := by decide +kernel
theorem dL_law_436 : decode cL_law 436 = .ok (.iadd, 1) := by decide +kernel
theorem dL_law_437 : decode cL_law 437 = .ok (.iaload, 1) := by decide +kernel
theorem dL_law_438 : decode cL_law 438 = .ok (.aload_n 0, 1) := by decide +kernel
theorem dL_law_439 : decode cL_law 439 = .ok (.iload_n 3, 1) := by decide +kernel
theorem dL_law_440 : decode cL_law 440 = .ok (.iconst 3, 1) := by decide +kernel
theorem dL_law_441 : decode cL_law 441 = .ok (.iadd, 1) := by decide +kernel
theorem dL_law_442 : decode cL_law 442 = .ok (.iaload, 1) := by decide +kernel
theorem dL_law_443 : decode cL_law 443 = .ok (.invokevirtual 43, 3) := by decide +kernel
theorem dL_law_446 : decode cL_law 446 = .ok (.if_icmp .eq 627, 3) := by decide +kernel
theorem dL_law_449 : decode cL_law 449 = .ok (.iconst 0, 1) := by decide +kernel
theorem dL_law_450 : decode cL_law 450 = .ok (.ireturn, 1) := by decide +kernel
theorem dL_law_451 : decode cL_law 451 = .ok (.aload_n 1, 1) := by decide +kernel
theorem dL_law_452 : decode cL_law 452 = .ok (.aload_n 0, 1) := by decide +kernel
theorem dL_law_453 : decode cL_law 453 = .ok (.iload_n 3, 1) := by decide +kernel
theorem dL_law_454 : decode cL_law 454 = .ok (.iconst 1, 1) := by decide +kernel
theorem dL_law_455 : decode cL_law 455 = .ok (.iadd, 1) := by decide +kernel
theorem dL_law_456 : decode cL_law 456 = .ok (.iaload, 1) := by decide +kernel
theorem dL_law_457 : decode cL_law 457 = .ok (.invokevirtual 44, 3) := by decide +kernel
theorem dL_law_460 : decode cL_law 460 = .ok (.aload_n 2, 1) := by decide +kernel
theorem dL_law_461 : decode cL_law 461 = .ok (.aload_n 0, 1) := by decide +kernel
theorem dL_law_462 : decode cL_law 462 = .ok (.iload_n 3, 1) := by decide +kernel
theorem dL_law_463 : decode cL_law 463 = .ok (.iconst 1, 1) := by decide +kernel
theorem dL_law_464 : decode cL_law 464 = .ok (.iadd, 1) := by decide +kernel
theorem dL_law_465 : decode cL_law 465 = .ok (.iaload, 1) := by decide +kernel
theorem dL_law_466 : decode cL_law 466 = .ok (.invokevirtual 48, 3) := by decide +kernel
theorem dL_law_469 : decode cL_law 469 = .ok (.if_icmp .eq 604, 3) := by decide +kernel
theorem dL_law_472 : decode cL_law 472 = .ok (.iconst 0, 1) := by decide +kernel
theorem dL_law_473 : decode cL_law 473 = .ok (.ireturn, 1) := by decide +kernel
theorem dL_law_474 : decode cL_law 474 = .ok (.aload_n 1, 1) := by decide +kernel
theorem dL_law_475 : decode cL_law 475 = .ok (.aload_n 0, 1) := by decide +kernel
theorem dL_law_476 : decode cL_law 476 = .ok (.iload_n 3, 1) := by decide +kernel
theorem dL_law_477 : decode cL_law 477 = .ok (.iconst 1, 1) := by decide +kernel
theorem dL_law_478 : decode cL_law 478 = .ok (.iadd, 1) := by decide +kernel
theorem dL_law_479 : decode cL_law 479 = .ok (.iaload, 1) := by decide +kernel
theorem dL_law_480 : decode cL_law 480 = .ok (.invokevirtual 49, 3) := by decide +kernel
theorem dL_law_483 : decode cL_law 483 = .ok (.aload_n 2, 1) := by decide +kernel
theorem dL_law_484 : decode cL_law 484 = .ok (.aload_n 0, 1) := by decide +kernel
theorem dL_law_485 : decode cL_law 485 = .ok (.iload_n 3, 1) := by decide +kernel
theorem dL_law_486 : decode cL_law 486 = .ok (.iconst 1, 1) := by decide +kernel
theorem dL_law_487 : decode cL_law 487 = .ok (.iadd, 1) := by decide +kernel
theorem dL_law_488 : decode cL_law 488 = .ok (.iaload, 1) := by decide +kernel
theorem dL_law_489 : decode cL_law 489 = .ok (.invokevirtual 52, 3) := by decide +kernel
theorem dL_law_492 : decode cL_law 492 = .ok (.if_icmp .eq 581, 3) := by decide +kernel
theorem dL_law_495 : decode cL_law 495 = .ok (.iconst 0, 1) := by decide +kernel
theorem dL_law_496 : decode cL_law 496 = .ok (.ireturn, 1) := by decide +kernel
theorem dL_law_497 : decode cL_law 497 = .ok (.aload_n 1, 1) := by decide +kernel
theorem dL_law_498 : decode cL_law 498 = .ok (.aload_n 0, 1) := by decide +kernel
theorem dL_law_499 : decode cL_law 499 = .ok (.iload_n 3, 1) := by decide +kernel
theorem dL_law_500 : decode cL_law 500 = .ok (.iconst 1, 1) := by decide +kernel
theorem dL_law_501 : decode cL_law 501 = .ok (.iadd, 1) := by decide +kernel
theorem dL_law_502 : decode cL_law 502 = .ok (.iaload, 1) := by decide +kernel
theorem dL_law_503 : decode cL_law 503 = .ok (.invokevirtual 53, 3) := by decide +kernel
theorem dL_law_506 : decode cL_law 506 = .ok (.aload_n 2, 1) := by decide +kernel
theorem dL_law_507 : decode cL_law 507 = .ok (.aload_n 0, 1) := by decide +kernel
theorem dL_law_508 : decode cL_law 508 = .ok (.iload_n 3, 1) := by decide +kernel
theorem dL_law_509 : decode cL_law 509 = .ok (.iconst 1, 1) := by decide +kernel
theorem dL_law_510 : decode cL_law 510 = .ok (.iadd, 1) := by decide +kernel
theorem dL_law_511 : decode cL_law 511 = .ok (.iaload, 1) := by decide +kernel
theorem dL_law_512 : decode cL_law 512 = .ok (.invokevirtual 56, 3) := by decide +kernel
theorem dL_law_515 : decode cL_law 515 = .ok (.if_icmp .eq 558, 3) := by decide +kernel
theorem dL_law_518 : decode cL_law 518 = .ok (.iconst 0, 1) := by decide +kernel
theorem dL_law_519 : decode cL_law 519 = .ok (.ireturn, 1) := by decide +kernel
theorem dL_law_520 : decode cL_law 520 = .ok (.aload_n 1, 1) := by decide +kernel
theorem dL_law_521 : decode cL_law 521 = .ok (.aload_n 0, 1) := by decide +kernel
theorem dL_law_522 : decode cL_law 522 = .ok (.iload_n 3, 1) := by decide +kernel
theorem dL_law_523 : decode cL_law 523 = .ok (.iconst 1, 1) := by decide +kernel
theorem dL_law_524 : decode cL_law 524 = .ok (.iadd, 1) := by decide +kernel
theorem dL_law_525 : decode cL_law 525 = .ok (.iaload, 1) := by decide +kernel
theorem dL_law_526 : decode cL_law 526 = .ok (.invokevirtual 57, 3) := by decide +kernel
theorem dL_law_529 : decode cL_law 529 = .ok (.aload_n 2, 1) := by decide +kernel
theorem dL_law_530 : decode cL_law 530 = .ok (.aload_n 0, 1) := by decide +kernel
theorem dL_law_531 : decode cL_law 531 = .ok (.iload_n 3, 1) := by decide +kernel
theorem dL_law_532 : decode cL_law 532 = .ok (.iconst 1, 1) := by decide +kernel
theorem dL_law_533 : decode cL_law 533 = .ok (.iadd, 1) := by decide +kernel
theorem dL_law_534 : decode cL_law 534 = .ok (.iaload, 1) := by decide +kernel
theorem dL_law_535 : decode cL_law 535 = .ok (.invokevirtual 60, 3) := by decide +kernel
theorem dL_law_538 : decode cL_law 538 = .ok (.if_icmp .eq 535, 3) := by decide +kernel
theorem dL_law_541 : decode cL_law 541 = .ok (.iconst 0, 1) := by decide +kernel
theorem dL_law_542 : decode cL_law 542 = .ok (.ireturn, 1) := by decide +kernel
theorem dL_law_543 : decode cL_law 543 = .ok (.aload_n 1, 1) := by decide +kernel
theorem dL_law_544 : decode cL_law 544 = .ok (.aload_n 0, 1) := by decide +kernel
theorem dL_law_545 : decode cL_law 545 = .ok (.iload_n 3, 1) := by decide +kernel
theorem dL_law_546 : decode cL_law 546 = .ok (.iconst 1, 1) := by decide +kernel
theorem dL_law_547 : decode cL_law 547 = .ok (.iadd, 1) := by decide +kernel
theorem dL_law_548 : decode cL_law 548 = .ok (.iaload, 1) := by decide +kernel
theorem dL_law_549 : decode cL_law 549 = .ok (.aload_n 0, 1) := by decide +kernel
theorem dL_law_550 : decode cL_law 550 = .ok (.iload_n 3, 1) := by decide +kernel
theorem dL_law_551 : decode cL_law 551 = .ok (.iconst 2, 1) := by decide +kernel
theorem dL_law_552 : decode cL_law 552 = .ok (.iadd, 1) := by decide +kernel
theorem dL_law_553 : decode cL_law 553 = .ok (.iaload, 1) := by decide +kernel
theorem dL_law_554 : decode cL_law 554 = .ok (.invokevirtual 61, 3) := by decide +kernel
theorem dL_law_557 : decode cL_law 557 = .ok (.aload_n 2, 1) := by decide +kernel
theorem dL_law_558 : decode cL_law 558 = .ok (.aload_n 0, 1) := by decide +kernel
theorem dL_law_559 : decode cL_law 559 = .ok (.iload_n 3, 1) := by decide +kernel
theorem dL_law_560 : decode cL_law 560 = .ok (.iconst 1, 1) := by decide +kernel
theorem dL_law_561 : decode cL_law 561 = .ok (.iadd, 1) := by decide +kernel
theorem dL_law_562 : decode cL_law 562 = .ok (.iaload, 1) := by decide +kernel
theorem dL_law_563 : decode cL_law 563 = .ok (.aload_n 0, 1) := by decide +kernel
theorem dL_law_564 : decode cL_law 564 = .ok (.iload_n 3, 1) := by decide +kernel
theorem dL_law_565 : decode cL_law 565 = .ok (.iconst 2, 1) := by decide +kernel
theorem dL_law_566 : decode cL_law 566 = .ok (.iadd, 1) := by decide +kernel
theorem dL_law_567 : decode cL_law 567 = .ok (.iaload, 1) := by decide +kernel
theorem dL_law_568 : decode cL_law 568 = .ok (.invokevirtual 64, 3) := by decide +kernel
theorem dL_law_571 : decode cL_law 571 = .ok (.if_icmp .eq 502, 3) := by decide +kernel
theorem dL_law_574 : decode cL_law 574 = .ok (.iconst 0, 1) := by decide +kernel
theorem dL_law_575 : decode cL_law 575 = .ok (.ireturn, 1) := by decide +kernel
theorem dL_law_576 : decode cL_law 576 = .ok (.aload_n 1, 1) := by decide +kernel
theorem dL_law_577 : decode cL_law 577 = .ok (.aload_n 0, 1) := by decide +kernel
theorem dL_law_578 : decode cL_law 578 = .ok (.iload_n 3, 1) := by decide +kernel
theorem dL_law_579 : decode cL_law 579 = .ok (.iconst 1, 1) := by decide +kernel
theorem dL_law_580 : decode cL_law 580 = .ok (.iadd, 1) := by decide +kernel
theorem dL_law_581 : decode cL_law 581 = .ok (.iaload, 1) := by decide +kernel
theorem dL_law_582 : decode cL_law 582 = .ok (.aload_n 0, 1) := by decide +kernel
theorem dL_law_583 : decode cL_law 583 = .ok (.iload_n 3, 1) := by decide +kernel
theorem dL_law_584 : decode cL_law 584 = .ok (.iconst 2, 1) := by decide +kernel
theorem dL_law_585 : decode cL_law 585 = .ok (.iadd, 1) := by decide +kernel
theorem dL_law_586 : decode cL_law 586 = .ok (.iaload, 1) := by decide +kernel
theorem dL_law_587 : decode cL_law 587 = .ok (.invokevirtual 65, 3) := by decide +kernel
theorem dL_law_590 : decode cL_law 590 = .ok (.aload_n 2, 1) := by decide +kernel
theorem dL_law_591 : decode cL_law 591 = .ok (.aload_n 0, 1) := by decide +kernel
theorem dL_law_592 : decode cL_law 592 = .ok (.iload_n 3, 1) := by decide +kernel
theorem dL_law_593 : decode cL_law 593 = .ok (.iconst 1, 1) := by decide +kernel
theorem dL_law_594 : decode cL_law 594 = .ok (.iadd, 1) := by decide +kernel
theorem dL_law_595 : decode cL_law 595 = .ok (.iaload, 1) := by decide +kernel
theorem dL_law_596 : decode cL_law 596 = .ok (.aload_n 0, 1) := by decide +kernel
theorem dL_law_597 : decode cL_law 597 = .ok (.iload_n 3, 1) := by decide +kernel
theorem dL_law_598 : decode cL_law 598 = .ok (.iconst 2, 1) := by decide +kernel
theorem dL_law_599 : decode cL_law 599 = .ok (.iadd, 1) := by decide +kernel
theorem dL_law_600 : decode cL_law 600 = .ok (.iaload, 1) := by decide +kernel
theorem dL_law_601 : decode cL_law 601 = .ok (.invokevirtual 69, 3) := by decide +kernel
theorem dL_law_604 : decode cL_law 604 = .ok (.lcmp, 1) := by decide +kernel
theorem dL_law_605 : decode cL_law 605 = .ok (.ifCond .eq 468, 3) := by decide +kernel
theorem dL_law_608 : decode cL_law 608 = .ok (.iconst 0, 1) := by decide +kernel
theorem dL_law_609 : decode cL_law 609 = .ok (.ireturn, 1) := by decide +kernel
theorem dL_law_610 : decode cL_law 610 = .ok (.aload_n 1, 1) := by decide +kernel
theorem dL_law_611 : decode cL_law 611 = .ok (.aload_n 0, 1) := by decide +kernel
theorem dL_law_612 : decode cL_law 612 = .ok (.iload_n 3, 1) := by decide +kernel
theorem dL_law_613 : decode cL_law 613 = .ok (.iconst 1, 1) := by decide +kernel
theorem dL_law_614 : decode cL_law 614 = .ok (.iadd, 1) := by decide +kernel
theorem dL_law_615 : decode cL_law 615 = .ok (.iaload, 1) := by decide +kernel
theorem dL_law_616 : decode cL_law 616 = .ok (.invokevirtual 70, 3) := by decide +kernel
theorem dL_law_619 : decode cL_law 619 = .ok (.aload_n 2, 1) := by decide +kernel
theorem dL_law_620 : decode cL_law 620 = .ok (.aload_n 0, 1) := by decide +kernel
theorem dL_law_621 : decode cL_law 621 = .ok (.iload_n 3, 1) := by decide +kernel
theorem dL_law_622 : decode cL_law 622 = .ok (.iconst 1, 1) := by decide +kernel
theorem dL_law_623 : decode cL_law 623 = .ok (.iadd, 1) := by decide +kernel
theorem dL_law_624 : decode cL_law 624 = .ok (.iaload, 1) := by decide +kernel
theorem dL_law_625 : decode cL_law 625 = .ok (.invokevirtual 74, 3) := by decide +kernel
theorem dL_law_628 : decode cL_law 628 = .ok (.lcmp, 1) := by decide +kernel
theorem dL_law_629 : decode cL_law 629 = .ok (.ifCond .eq 444, 3) := by decide +kernel
theorem dL_law_632 : decode cL_law 632 = .ok (.iconst 0, 1) := by decide +kernel
theorem dL_law_633 : decode cL_law 633 = .ok (.ireturn, 1) := by decide +kernel
theorem dL_law_634 : decode cL_law 634 = .ok (.aload_n 1, 1) := by decide +kernel
theorem dL_law_635 : decode cL_law 635 = .ok (.aload_n 0, 1) := by decide +kernel
theorem dL_law_636 : decode cL_law 636 = .ok (.iload_n 3, 1) := by decide +kernel
theorem dL_law_637 : decode cL_law 637 = .ok (.iconst 1, 1) := by decide +kernel
theorem dL_law_638 : decode cL_law 638 = .ok (.iadd, 1) := by decide +kernel
theorem dL_law_639 : decode cL_law 639 = .ok (.iaload, 1) := by decide +kernel
theorem dL_law_640 : decode cL_law 640 = .ok (.aload_n 0, 1) := by decide +kernel
theorem dL_law_641 : decode cL_law 641 = .ok (.iload_n 3, 1) := by decide +kernel
theorem dL_law_642 : decode cL_law 642 = .ok (.iconst 2, 1) := by decide +kernel
theorem dL_law_643 : decode cL_law 643 = .ok (.iadd, 1) := by decide +kernel
theorem dL_law_644 : decode cL_law 644 = .ok (.iaload, 1) := by decide +kernel
theorem dL_law_645 : decode cL_law 645 = .ok (.invokevirtual 75, 3) := by decide +kernel
theorem dL_law_648 : decode cL_law 648 = .ok (.aload_n 2, 1) := by decide +kernel
theorem dL_law_649 : decode cL_law 649 = .ok (.aload_n 0, 1) := by decide +kernel
theorem dL_law_650 : decode cL_law 650 = .ok (.iload_n 3, 1) := by decide +kernel
theorem dL_law_651 : decode cL_law 651 = .ok (.iconst 1, 1) := by decide +kernel
theorem dL_law_652 : decode cL_law 652 = .ok (.iadd, 1) := by decide +kernel
theorem dL_law_653 : decode cL_law 653 = .ok (.iaload, 1) := by decide +kernel
theorem dL_law_654 : decode cL_law 654 = .ok (.aload_n 0, 1) := by decide +kernel
theorem dL_law_655 : decode cL_law 655 = .ok (.iload_n 3, 1) := by decide +kernel
theorem dL_law_656 : decode cL_law 656 = .ok (.iconst 2, 1) := by decide +kernel
theorem dL_law_657 : decode cL_law 657 = .ok (.iadd, 1) := by decide +kernel
theorem dL_law_658 : decode cL_law 658 = .ok (.iaload, 1) := by decide +kernel
theorem dL_law_659 : decode cL_law 659 = .ok (.invokevirtual 78, 3) := by decide +kernel
theorem dL_law_662 : decode cL_law 662 = .ok (.if_icmp .eq 411, 3) := by decide +kernel
theorem dL_law_665 : decode cL_law 665 = .ok (.iconst 0, 1) := by decide +kernel
theorem dL_law_666 : decode cL_law 666 = .ok (.ireturn, 1) := by decide +kernel
theorem dL_law_667 : decode cL_law 667 = .ok (.aload_n 1, 1) := by decide +kernel
theorem dL_law_668 : decode cL_law 668 = .ok (.aload_n 0, 1) := by decide +kernel
theorem dL_law_669 : decode cL_law 669 = .ok (.iload_n 3, 1) := by decide +kernel
theorem dL_law_670 : decode cL_law 670 = .ok (.iconst 1, 1) := by decide +kernel
theorem dL_law_671 : decode cL_law 671 = .ok (.iadd, 1) := by decide +kernel
theorem dL_law_672 : decode cL_law 672 = .ok (.iaload, 1) := by decide +kernel
theorem dL_law_673 : decode cL_law 673 = .ok (.aload_n 0, 1) := by decide +kernel
theorem dL_law_674 : decode cL_law 674 = .ok (.iload_n 3, 1) := by decide +kernel
theorem dL_law_675 : decode cL_law 675 = .ok (.iconst 2, 1) := by decide +kernel
theorem dL_law_676 : decode cL_law 676 = .ok (.iadd, 1) := by decide +kernel
theorem dL_law_677 : decode cL_law 677 = .ok (.iaload, 1) := by decide +kernel
theorem dL_law_678 : decode cL_law 678 = .ok (.invokevirtual 79, 3) := by decide +kernel
theorem dL_law_681 : decode cL_law 681 = .ok (.aload_n 2, 1) := by decide +kernel
theorem dL_law_682 : decode cL_law 682 = .ok (.aload_n 0, 1) := by decide +kernel
theorem dL_law_683 : decode cL_law 683 = .ok (.iload_n 3, 1) := by decide +kernel
theorem dL_law_684 : decode cL_law 684 = .ok (.iconst 1, 1) := by decide +kernel
theorem dL_law_685 : decode cL_law 685 = .ok (.iadd, 1) := by decide +kernel
theorem dL_law_686 : decode cL_law 686 = .ok (.iaload, 1) := by decide +kernel
theorem dL_law_687 : decode cL_law 687 = .ok (.aload_n 0, 1) := by decide +kernel
theorem dL_law_688 : decode cL_law 688 = .ok (.iload_n 3, 1) := by decide +kernel
theorem dL_law_689 : decode cL_law 689 = .ok (.iconst 2, 1) := by decide +kernel
theorem dL_law_690 : decode cL_law 690 = .ok (.iadd, 1) := by decide +kernel
theorem dL_law_691 : decode cL_law 691 = .ok (.iaload, 1) := by decide +kernel
theorem dL_law_692 : decode cL_law 692 = .ok (.invokevirtual 82, 3) := by decide +kernel
theorem dL_law_695 : decode cL_law 695 = .ok (.if_icmp .eq 378, 3) := by decide +kernel
theorem dL_law_698 : decode cL_law 698 = .ok (.iconst 0, 1) := by decide +kernel
theorem dL_law_699 : decode cL_law 699 = .ok (.ireturn, 1) := by decide +kernel
theorem dL_law_700 : decode cL_law 700 = .ok (.aload_n 1, 1) := by decide +kernel
theorem dL_law_701 : decode cL_law 701 = .ok (.aload_n 0, 1) := by decide +kernel
theorem dL_law_702 : decode cL_law 702 = .ok (.iload_n 3, 1) := by decide +kernel
theorem dL_law_703 : decode cL_law 703 = .ok (.iconst 1, 1) := by decide +kernel
theorem dL_law_704 : decode cL_law 704 = .ok (.iadd, 1) := by decide +kernel
theorem dL_law_705 : decode cL_law 705 = .ok (.iaload, 1) := by decide +kernel
theorem dL_law_706 : decode cL_law 706 = .ok (.invokevirtual 83, 3) := by decide +kernel
theorem dL_law_709 : decode cL_law 709 = .ok (.aload_n 2, 1) := by decide +kernel
theorem dL_law_710 : decode cL_law 710 = .ok (.aload_n 0, 1) := by decide +kernel
theorem dL_law_711 : decode cL_law 711 = .ok (.iload_n 3, 1) := by decide +kernel
theorem dL_law_712 : decode cL_law 712 = .ok (.iconst 1, 1) := by decide +kernel
theorem dL_law_713 : decode cL_law 713 = .ok (.iadd, 1) := by decide +kernel
theorem dL_law_714 : decode cL_law 714 = .ok (.iaload, 1) := by decide +kernel
theorem dL_law_715 : decode cL_law 715 = .ok (.invokevirtual 86, 3) := by decide +kernel
theorem dL_law_718 : decode cL_law 718 = .ok (.if_icmp .eq 355, 3) := by decide +kernel
theorem dL_law_721 : decode cL_law 721 = .ok (.iconst 0, 1) := by decide +kernel
theorem dL_law_722 : decode cL_law 722 = .ok (.ireturn, 1) := by decide +kernel
theorem dL_law_723 : decode cL_law 723 = .ok (.aload_n 1, 1) := by decide +kernel
theorem dL_law_724 : decode cL_law 724 = .ok (.aload_n 0, 1) := by decide +kernel
theorem dL_law_725 : decode cL_law 725 = .ok (.iload_n 3, 1) := by decide +kernel
theorem dL_law_726 : decode cL_law 726 = .ok (.iconst 1, 1) := by decide +kernel
theorem dL_law_727 : decode cL_law 727 = .ok (.iadd, 1) := by decide +kernel
theorem dL_law_728 : decode cL_law 728 = .ok (.iaload, 1) := by decide +kernel
theorem dL_law_729 : decode cL_law 729 = .ok (.aload_n 0, 1) := by decide +kernel
theorem dL_law_730 : decode cL_law 730 = .ok (.iload_n 3, 1) := by decide +kernel
theorem dL_law_731 : decode cL_law 731 = .ok (.iconst 2, 1) := by decide +kernel
theorem dL_law_732 : decode cL_law 732 = .ok (.iadd, 1) := by decide +kernel
theorem dL_law_733 : decode cL_law 733 = .ok (.iaload, 1) := by decide +kernel
theorem dL_law_734 : decode cL_law 734 = .ok (.invokevirtual 87, 3) := by decide +kernel
theorem dL_law_737 : decode cL_law 737 = .ok (.aload_n 2, 1) := by decide +kernel
theorem dL_law_738 : decode cL_law 738 = .ok (.aload_n 0, 1) := by decide +kernel
theorem dL_law_739 : decode cL_law 739 = .ok (.iload_n 3, 1) := by decide +kernel
theorem dL_law_740 : decode cL_law 740 = .ok (.iconst 1, 1) := by decide +kernel
theorem dL_law_741 : decode cL_law 741 = .ok (.iadd, 1) := by decide +kernel
theorem dL_law_742 : decode cL_law 742 = .ok (.iaload, 1) := by decide +kernel
theorem dL_law_743 : decode cL_law 743 = .ok (.aload_n 0, 1) := by decide +kernel
theorem dL_law_744 : decode cL_law 744 = .ok (.iload_n 3, 1) := by decide +kernel
theorem dL_law_745 : decode cL_law 745 = .ok (.iconst 2, 1) := by decide +kernel
theorem dL_law_746 : decode cL_law 746 = .ok (.iadd, 1) := by decide +kernel
theorem dL_law_747 : decode cL_law 747 = .ok (.iaload, 1) := by decide +kernel
theorem dL_law_748 : decode cL_law 748 = .ok (.invokevirtual 90, 3) := by decide +kernel
theorem dL_law_751 : decode cL_law 751 = .ok (.if_icmp .eq 322, 3) := by decide +kernel
theorem dL_law_754 : decode cL_law 754 = .ok (.iconst 0, 1) := by decide +kernel
theorem dL_law_755 : decode cL_law 755 = .ok (.ireturn, 1) := by decide +kernel
theorem dL_law_756 : decode cL_law 756 = .ok (.aload_n 1, 1) := by decide +kernel
theorem dL_law_757 : decode cL_law 757 = .ok (.aload_n 0, 1) := by decide +kernel
theorem dL_law_758 : decode cL_law 758 = .ok (.iload_n 3, 1) := by decide +kernel
theorem dL_law_759 : decode cL_law 759 = .ok (.iconst 1, 1) := by decide +kernel
theorem dL_law_760 : decode cL_law 760 = .ok (.iadd, 1) := by decide +kernel
theorem dL_law_761 : decode cL_law 761 = .ok (.iaload, 1) := by decide +kernel
theorem dL_law_762 : decode cL_law 762 = .ok (.aload_n 0, 1) := by decide +kernel
theorem dL_law_763 : decode cL_law 763 = .ok (.iload_n 3, 1) := by decide +kernel
theorem dL_law_764 : decode cL_law 764 = .ok (.iconst 2, 1) := by decide +kernel
theorem dL_law_765 : decode cL_law 765 = .ok (.iadd, 1) := by decide +kernel
theorem dL_law_766 : decode cL_law 766 = .ok (.iaload, 1) := by decide +kernel
theorem dL_law_767 : decode cL_law 767 = .ok (.invokevirtual 91, 3) := by decide +kernel
theorem dL_law_770 : decode cL_law 770 = .ok (.aload_n 2, 1) := by decide +kernel
theorem dL_law_771 : decode cL_law 771 = .ok (.aload_n 0, 1) := by decide +kernel
theorem dL_law_772 : decode cL_law 772 = .ok (.iload_n 3, 1) := by decide +kernel
theorem dL_law_773 : decode cL_law 773 = .ok (.iconst 1, 1) := by decide +kernel
theorem dL_law_774 : decode cL_law 774 = .ok (.iadd, 1) := by decide +kernel
theorem dL_law_775 : decode cL_law 775 = .ok (.iaload, 1) := by decide +kernel
theorem dL_law_776 : decode cL_law 776 = .ok (.aload_n 0, 1) := by decide +kernel
theorem dL_law_777 : decode cL_law 777 = .ok (.iload_n 3, 1) := by decide +kernel
theorem dL_law_778 : decode cL_law 778 = .ok (.iconst 2, 1) := by decide +kernel
theorem dL_law_779 : decode cL_law 779 = .ok (.iadd, 1) := by decide +kernel
theorem dL_law_780 : decode cL_law 780 = .ok (.iaload, 1) := by decide +kernel
theorem dL_law_781 : decode cL_law 781 = .ok (.invokevirtual 94, 3) := by decide +kernel
theorem dL_law_784 : decode cL_law 784 = .ok (.if_icmp .eq 289, 3) := by decide +kernel
theorem dL_law_787 : decode cL_law 787 = .ok (.iconst 0, 1) := by decide +kernel
theorem dL_law_788 : decode cL_law 788 = .ok (.ireturn, 1) := by decide +kernel
theorem dL_law_789 : decode cL_law 789 = .ok (.aload_n 1, 1) := by decide +kernel
theorem dL_law_790 : decode cL_law 790 = .ok (.aload_n 0, 1) := by decide +kernel
theorem dL_law_791 : decode cL_law 791 = .ok (.iload_n 3, 1) := by decide +kernel
theorem dL_law_792 : decode cL_law 792 = .ok (.iconst 1, 1) := by decide +kernel
theorem dL_law_793 : decode cL_law 793 = .ok (.iadd, 1) := by decide +kernel
theorem dL_law_794 : decode cL_law 794 = .ok (.iaload, 1) := by decide +kernel
theorem dL_law_795 : decode cL_law 795 = .ok (.aload_n 0, 1) := by decide +kernel
theorem dL_law_796 : decode cL_law 796 = .ok (.iload_n 3, 1) := by decide +kernel
theorem dL_law_797 : decode cL_law 797 = .ok (.iconst 2, 1) := by decide +kernel
theorem dL_law_798 : decode cL_law 798 = .ok (.iadd, 1) := by decide +kernel
theorem dL_law_799 : decode cL_law 799 = .ok (.iaload, 1) := by decide +kernel
theorem dL_law_800 : decode cL_law 800 = .ok (.invokevirtual 95, 3) := by decide +kernel
theorem dL_law_803 : decode cL_law 803 = .ok (.aload_n 2, 1) := by decide +kernel
theorem dL_law_804 : decode cL_law 804 = .ok (.aload_n 0, 1) := by decide +kernel
theorem dL_law_805 : decode cL_law 805 = .ok (.iload_n 3, 1) := by decide +kernel
theorem dL_law_806 : decode cL_law 806 = .ok (.iconst 1, 1) := by decide +kernel
theorem dL_law_807 : decode cL_law 807 = .ok (.iadd, 1) := by decide +kernel
theorem dL_law_808 : decode cL_law 808 = .ok (.iaload, 1) := by decide +kernel
theorem dL_law_809 : decode cL_law 809 = .ok (.aload_n 0, 1) := by decide +kernel
theorem dL_law_810 : decode cL_law 810 = .ok (.iload_n 3, 1) := by decide +kernel
theorem dL_law_811 : decode cL_law 811 = .ok (.iconst 2, 1) := by decide +kernel
theorem dL_law_812 : decode cL_law 812 = .ok (.iadd, 1) := by decide +kernel
theorem dL_law_813 : decode cL_law 813 = .ok (.iaload, 1) := by decide +kernel
theorem dL_law_814 : decode cL_law 814 = .ok (.invokevirtual 98, 3) := by decide +kernel
theorem dL_law_817 : decode cL_law 817 = .ok (.lcmp, 1) := by decide +kernel
theorem dL_law_818 : decode cL_law 818 = .ok (.ifCond .eq 255, 3) := by decide +kernel
theorem dL_law_821 : decode cL_law 821 = .ok (.iconst 0, 1) := by decide +kernel
theorem dL_law_822 : decode cL_law 822 = .ok (.ireturn, 1) := by decide +kernel
theorem dL_law_823 : decode cL_law 823 = .ok (.aload_n 1, 1) := by decide +kernel
theorem dL_law_824 : decode cL_law 824 = .ok (.aload_n 0, 1) := by decide +kernel
theorem dL_law_825 : decode cL_law 825 = .ok (.iload_n 3, 1) := by decide +kernel
theorem dL_law_826 : decode cL_law 826 = .ok (.iconst 1, 1) := by decide +kernel
theorem dL_law_827 : decode cL_law 827 = .ok (.iadd, 1) := by decide +kernel
theorem dL_law_828 : decode cL_law 828 = .ok (.iaload, 1) := by decide +kernel
theorem dL_law_829 : decode cL_law 829 = .ok (.invokevirtual 99, 3) := by decide +kernel
theorem dL_law_832 : decode cL_law 832 = .ok (.aload_n 2, 1) := by decide +kernel
theorem dL_law_833 : decode cL_law 833 = .ok (.aload_n 0, 1) := by decide +kernel
theorem dL_law_834 : decode cL_law 834 = .ok (.iload_n 3, 1) := by decide +kernel
theorem dL_law_835 : decode cL_law 835 = .ok (.iconst 1, 1) := by decide +kernel
theorem dL_law_836 : decode cL_law 836 = .ok (.iadd, 1) := by decide +kernel
theorem dL_law_837 : decode cL_law 837 = .ok (.iaload, 1) := by decide +kernel
theorem dL_law_838 : decode cL_law 838 = .ok (.invokevirtual 102, 3) := by decide +kernel
theorem dL_law_841 : decode cL_law 841 = .ok (.if_icmp .eq 232, 3) := by decide +kernel
theorem dL_law_844 : decode cL_law 844 = .ok (.iconst 0, 1) := by decide +kernel
theorem dL_law_845 : decode cL_law 845 = .ok (.ireturn, 1) := by decide +kernel
theorem dL_law_846 : decode cL_law 846 = .ok (.aload_n 1, 1) := by decide +kernel
theorem dL_law_847 : decode cL_law 847 = .ok (.aload_n 0, 1) := by decide +kernel
theorem dL_law_848 : decode cL_law 848 = .ok (.iload_n 3, 1) := by decide +kernel
theorem dL_law_849 : decode cL_law 849 = .ok (.iconst 1, 1) := by decide +kernel
theorem dL_law_850 : decode cL_law 850 = .ok (.iadd, 1) := by decide +kernel
theorem dL_law_851 : decode cL_law 851 = .ok (.iaload, 1) := by decide +kernel
theorem dL_law_852 : decode cL_law 852 = .ok (.aload_n 0, 1) := by decide +kernel
theorem dL_law_853 : decode cL_law 853 = .ok (.iload_n 3, 1) := by decide +kernel
theorem dL_law_854 : decode cL_law 854 = .ok (.iconst 2, 1) := by decide +kernel
theorem dL_law_855 : decode cL_law 855 = .ok (.iadd, 1) := by decide +kernel
theorem dL_law_856 : decode cL_law 856 = .ok (.iaload, 1) := by decide +kernel
theorem dL_law_857 : decode cL_law 857 = .ok (.invokevirtual 103, 3) := by decide +kernel
theorem dL_law_860 : decode cL_law 860 = .ok (.aload_n 2, 1) := by decide +kernel
theorem dL_law_861 : decode cL_law 861 = .ok (.aload_n 0, 1) := by decide +kernel
theorem dL_law_862 : decode cL_law 862 = .ok (.iload_n 3, 1) := by decide +kernel
theorem dL_law_863 : decode cL_law 863 = .ok (.iconst 1, 1) := by decide +kernel
theorem dL_law_864 : decode cL_law 864 = .ok (.iadd, 1) := by decide +kernel
theorem dL_law_865 : decode cL_law 865 = .ok (.iaload, 1) := by decide +kernel
theorem dL_law_866 : decode cL_law 866 = .ok (.aload_n 0, 1) := by decide +kernel
theorem dL_law_867 : decode cL_law 867 = .ok (.iload_n 3, 1) := by decide +kernel
theorem dL_law_868 : decode cL_law 868 = .ok (.iconst 2, 1) := by decide +kernel
theorem dL_law_869 : decode cL_law 869 = .ok (.iadd, 1) := by decide +kernel
theorem dL_law_870 : decode cL_law 870 = .ok (.iaload, 1) := by decide +kernel
theorem dL_law_871 : decode cL_law 871 = .ok (.invokevirtual 106, 3) := by decide +kernel
theorem dL_law_874 : decode cL_law 874 = .ok (.if_icmp .eq 199, 3) := by decide +kernel
theorem dL_law_877 : decode cL_law 877 = .ok (.iconst 0, 1) := by decide +kernel
theorem dL_law_878 : decode cL_law 878 = .ok (.ireturn, 1) := by decide +kernel
theorem dL_law_879 : decode cL_law 879 = .ok (.aload_n 1, 1) := by decide +kernel
theorem dL_law_880 : decode cL_law 880 = .ok (.aload_n 0, 1) := by decide +kernel
theorem dL_law_881 : decode cL_law 881 = .ok (.iload_n 3, 1) := by decide +kernel
theorem dL_law_882 : decode cL_law 882 = .ok (.iconst 1, 1) := by decide +kernel
theorem dL_law_883 : decode cL_law 883 = .ok (.iadd, 1) := by decide +kernel
theorem dL_law_884 : decode cL_law 884 = .ok (.iaload, 1) := by decide +kernel
theorem dL_law_885 : decode cL_law 885 = .ok (.aload_n 0, 1) := by decide +kernel
theorem dL_law_886 : decode cL_law 886 = .ok (.iload_n 3, 1) := by decide +kernel
theorem dL_law_887 : decode cL_law 887 = .ok (.iconst 2, 1) := by decide +kernel
theorem dL_law_888 : decode cL_law 888 = .ok (.iadd, 1) := by decide +kernel
theorem dL_law_889 : decode cL_law 889 = .ok (.iaload, 1) := by decide +kernel
theorem dL_law_890 : decode cL_law 890 = .ok (.aload_n 0, 1) := by decide +kernel
theorem dL_law_891 : decode cL_law 891 = .ok (.iload_n 3, 1) := by decide +kernel
theorem dL_law_892 : decode cL_law 892 = .ok (.iconst 3, 1) := by decide +kernel
theorem dL_law_893 : decode cL_law 893 = .ok (.iadd, 1) := by decide +kernel
theorem dL_law_894 : decode cL_law 894 = .ok (.iaload, 1) := by decide +kernel
theorem dL_law_895 : decode cL_law 895 = .ok (.invokevirtual 107, 3) := by decide +kernel
theorem dL_law_898 : decode cL_law 898 = .ok (.aload_n 2, 1) := by decide +kernel
theorem dL_law_899 : decode cL_law 899 = .ok (.aload_n 0, 1) := by decide +kernel
theorem dL_law_900 : decode cL_law 900 = .ok (.iload_n 3, 1) := by decide +kernel
theorem dL_law_901 : decode cL_law 901 = .ok (.iconst 1, 1) := by decide +kernel
theorem dL_law_902 : decode cL_law 902 = .ok (.iadd, 1) := by decide +kernel
theorem dL_law_903 : decode cL_law 903 = .ok (.iaload, 1) := by decide +kernel
theorem dL_law_904 : decode cL_law 904 = .ok (.aload_n 0, 1) := by decide +kernel
theorem dL_law_905 : decode cL_law 905 = .ok (.iload_n 3, 1) := by decide +kernel
theorem dL_law_906 : decode cL_law 906 = .ok (.iconst 2, 1) := by decide +kernel
theorem dL_law_907 : decode cL_law 907 = .ok (.iadd, 1) := by decide +kernel
theorem dL_law_908 : decode cL_law 908 = .ok (.iaload, 1) := by decide +kernel
theorem dL_law_909 : decode cL_law 909 = .ok (.aload_n 0, 1) := by decide +kernel
theorem dL_law_910 : decode cL_law 910 = .ok (.iload_n 3, 1) := by decide +kernel
theorem dL_law_911 : decode cL_law 911 = .ok (.iconst 3, 1) := by decide +kernel
theorem dL_law_912 : decode cL_law 912 = .ok (.iadd, 1) := by decide +kernel
theorem dL_law_913 : decode cL_law 913 = .ok (.iaload, 1) := by decide +kernel
theorem dL_law_914 : decode cL_law 914 = .ok (.invokevirtual 110, 3) := by decide +kernel
theorem dL_law_917 : decode cL_law 917 = .ok (.if_icmp .eq 156, 3) := by decide +kernel
theorem dL_law_920 : decode cL_law 920 = .ok (.iconst 0, 1) := by decide +kernel
theorem dL_law_921 : decode cL_law 921 = .ok (.ireturn, 1) := by decide +kernel
theorem dL_law_922 : decode cL_law 922 = .ok (.aload_n 1, 1) := by decide +kernel
theorem dL_law_923 : decode cL_law 923 = .ok (.aload_n 0, 1) := by decide +kernel
theorem dL_law_924 : decode cL_law 924 = .ok (.iload_n 3, 1) := by decide +kernel
theorem dL_law_925 : decode cL_law 925 = .ok (.iconst 1, 1) := by decide +kernel
theorem dL_law_926 : decode cL_law 926 = .ok (.iadd, 1) := by decide +kernel
theorem dL_law_927 : decode cL_law 927 = .ok (.iaload, 1) := by decide +kernel
theorem dL_law_928 : decode cL_law 928 = .ok (.i2l, 1) := by decide +kernel
theorem dL_law_929 : decode cL_law 929 = .ok (.bipush 32, 2) := by decide +kernel
theorem dL_law_931 : decode cL_law 931 = .ok (.lshl, 1) := by decide +kernel
theorem dL_law_932 : decode cL_law 932 = .ok (.aload_n 0, 1) := by decide +kernel
theorem dL_law_933 : decode cL_law 933 = .ok (.iload_n 3, 1) := by decide +kernel
theorem dL_law_934 : decode cL_law 934 = .ok (.iconst 2, 1) := by decide +kernel
theorem dL_law_935 : decode cL_law 935 = .ok (.iadd, 1) := by decide +kernel
theorem dL_law_936 : decode cL_law 936 = .ok (.iaload, 1) := by decide +kernel
theorem dL_law_937 : decode cL_law 937 = .ok (.i2l, 1) := by decide +kernel
theorem dL_law_938 : decode cL_law 938 = .ok (.ldc2_w 111, 3) := by decide +kernel
theorem dL_law_941 : decode cL_law 941 = .ok (.land, 1) := by decide +kernel
theorem dL_law_942 : decode cL_law 942 = .ok (.lor, 1) := by decide +kernel
theorem dL_law_943 : decode cL_law 943 = .ok (.invokevirtual 113, 3) := by decide +kernel
theorem dL_law_946 : decode cL_law 946 = .ok (.aload_n 2, 1) := by decide +kernel
theorem dL_law_947 : decode cL_law 947 = .ok (.aload_n 0, 1) := by decide +kernel
theorem dL_law_948 : decode cL_law 948 = .ok (.iload_n 3, 1) := by decide +kernel
theorem dL_law_949 : decode cL_law 949 = .ok (.iconst 1, 1) := by decide +kernel
theorem dL_law_950 : decode cL_law 950 = .ok (.iadd, 1) := by decide +kernel
theorem dL_law_951 : decode cL_law 951 = .ok (.iaload, 1) := by decide +kernel
theorem dL_law_952 : decode cL_law 952 = .ok (.i2l, 1) := by decide +kernel
theorem dL_law_953 : decode cL_law 953 = .ok (.bipush 32, 2) := by decide +kernel
theorem dL_law_955 : decode cL_law 955 = .ok (.lshl, 1) := by decide +kernel
theorem dL_law_956 : decode cL_law 956 = .ok (.aload_n 0, 1) := by decide +kernel
theorem dL_law_957 : decode cL_law 957 = .ok (.iload_n 3, 1) := by decide +kernel
theorem dL_law_958 : decode cL_law 958 = .ok (.iconst 2, 1) := by decide +kernel
theorem dL_law_959 : decode cL_law 959 = .ok (.iadd, 1) := by decide +kernel
theorem dL_law_960 : decode cL_law 960 = .ok (.iaload, 1) := by decide +kernel
theorem dL_law_961 : decode cL_law 961 = .ok (.i2l, 1) := by decide +kernel
theorem dL_law_962 : decode cL_law 962 = .ok (.ldc2_w 111, 3) := by decide +kernel
theorem dL_law_965 : decode cL_law 965 = .ok (.land, 1) := by decide +kernel
theorem dL_law_966 : decode cL_law 966 = .ok (.lor, 1) := by decide +kernel
theorem dL_law_967 : decode cL_law 967 = .ok (.invokevirtual 117, 3) := by decide +kernel
theorem dL_law_970 : decode cL_law 970 = .ok (.if_icmp .eq 103, 3) := by decide +kernel
theorem dL_law_973 : decode cL_law 973 = .ok (.iconst 0, 1) := by decide +kernel
theorem dL_law_974 : decode cL_law 974 = .ok (.ireturn, 1) := by decide +kernel
theorem dL_law_975 : decode cL_law 975 = .ok (.aload_n 1, 1) := by decide +kernel
theorem dL_law_976 : decode cL_law 976 = .ok (.invokevirtual 118, 3) := by decide +kernel
theorem dL_law_979 : decode cL_law 979 = .ok (.aload_n 2, 1) := by decide +kernel
theorem dL_law_980 : decode cL_law 980 = .ok (.invokevirtual 122, 3) := by decide +kernel
theorem dL_law_983 : decode cL_law 983 = .ok (.if_icmp .eq 90, 3) := by decide +kernel
theorem dL_law_986 : decode cL_law 986 = .ok (.iconst 0, 1) := by decide +kernel
theorem dL_law_987 : decode cL_law 987 = .ok (.ireturn, 1) := by decide +kernel
theorem dL_law_988 : decode cL_law 988 = .ok (.aload_n 1, 1) := by decide +kernel
theorem dL_law_989 : decode cL_law 989 = .ok (.invokevirtual 123, 3) := by decide +kernel
theorem dL_law_992 : decode cL_law 992 = .ok (.aload_n 2, 1) := by decide +kernel
theorem dL_law_993 : decode cL_law 993 = .ok (.invokevirtual 126, 3) := by decide +kernel
theorem dL_law_996 : decode cL_law 996 = .ok (.if_icmp .eq 77, 3) := by decide +kernel
theorem dL_law_999 : decode cL_law 999 = .ok (.iconst 0, 1) := by decide +kernel
theorem dL_law_1000 : decode cL_law 1000 = .ok (.ireturn, 1) := by decide +kernel
theorem dL_law_1001 : decode cL_law 1001 = .ok (.aload_n 1, 1) := by decide +kernel
theorem dL_law_1002 : decode cL_law 1002 = .ok (.invokevirtual 127, 3) := by decide +kernel
theorem dL_law_1005 : decode cL_law 1005 = .ok (.aload_n 2, 1) := by decide +kernel
theorem dL_law_1006 : decode cL_law 1006 = .ok (.invokevirtual 130, 3) := by decide +kernel
theorem dL_law_1009 : decode cL_law 1009 = .ok (.if_icmp .eq 64, 3) := by decide +kernel
theorem dL_law_1012 : decode cL_law 1012 = .ok (.iconst 0, 1) := by decide +kernel
theorem dL_law_1013 : decode cL_law 1013 = .ok (.ireturn, 1) := by decide +kernel
theorem dL_law_1014 : decode cL_law 1014 = .ok (.aload_n 1, 1) := by decide +kernel
theorem dL_law_1015 : decode cL_law 1015 = .ok (.invokevirtual 131, 3) := by decide +kernel
theorem dL_law_1018 : decode cL_law 1018 = .ok (.aload_n 2, 1) := by decide +kernel
theorem dL_law_1019 : decode cL_law 1019 = .ok (.invokevirtual 134, 3) := by decide +kernel
theorem dL_law_1022 : decode cL_law 1022 = .ok (.if_icmp .eq 51, 3) := by decide +kernel
theorem dL_law_1025 : decode cL_law 1025 = .ok (.iconst 0, 1) := by decide +kernel
theorem dL_law_1026 : decode cL_law 1026 = .ok (.ireturn, 1) := by decide +kernel
theorem dL_law_1027 : decode cL_law 1027 = .ok (.aload_n 1, 1) := by decide +kernel
theorem dL_law_1028 : decode cL_law 1028 = .ok (.aload_n 0, 1) := by decide +kernel
theorem dL_law_1029 : decode cL_law 1029 = .ok (.iload_n 3, 1) := by decide +kernel
theorem dL_law_1030 : decode cL_law 1030 = .ok (.iconst 1, 1) := by decide +kernel
theorem dL_law_1031 : decode cL_law 1031 = .ok (.iadd, 1) := by decide +kernel
theorem dL_law_1032 : decode cL_law 1032 = .ok (.iaload, 1) := by decide +kernel
theorem dL_law_1033 : decode cL_law 1033 = .ok (.invokevirtual 135, 3) := by decide +kernel
theorem dL_law_1036 : decode cL_law 1036 = .ok (.aload_n 2, 1) := by decide +kernel
theorem dL_law_1037 : decode cL_law 1037 = .ok (.aload_n 0, 1) := by decide +kernel
theorem dL_law_1038 : decode cL_law 1038 = .ok (.iload_n 3, 1) := by decide +kernel
theorem dL_law_1039 : decode cL_law 1039 = .ok (.iconst 1, 1) := by decide +kernel
theorem dL_law_1040 : decode cL_law 1040 = .ok (.iadd, 1) := by decide +kernel
theorem dL_law_1041 : decode cL_law 1041 = .ok (.iaload, 1) := by decide +kernel
theorem dL_law_1042 : decode cL_law 1042 = .ok (.invokevirtual 138, 3) := by decide +kernel
theorem dL_law_1045 : decode cL_law 1045 = .ok (.if_icmp .eq 28, 3) := by decide +kernel
theorem dL_law_1048 : decode cL_law 1048 = .ok (.iconst 0, 1) := by decide +kernel
theorem dL_law_1049 : decode cL_law 1049 = .ok (.ireturn, 1) := by decide +kernel
theorem dL_law_1050 : decode cL_law 1050 = .ok (.aload_n 1, 1) := by decide +kernel
theorem dL_law_1051 : decode cL_law 1051 = .ok (.aload_n 0, 1) := by decide +kernel
theorem dL_law_1052 : decode cL_law 1052 = .ok (.iload_n 3, 1) := by decide +kernel
theorem dL_law_1053 : decode cL_law 1053 = .ok (.iconst 1, 1) := by decide +kernel
theorem dL_law_1054 : decode cL_law 1054 = .ok (.iadd, 1) := by decide +kernel
theorem dL_law_1055 : decode cL_law 1055 = .ok (.iaload, 1) := by decide +kernel
theorem dL_law_1056 : decode cL_law 1056 = .ok (.invokevirtual 139, 3) := by decide +kernel
theorem dL_law_1059 : decode cL_law 1059 = .ok (.aload_n 2, 1) := by decide +kernel
theorem dL_law_1060 : decode cL_law 1060 = .ok (.aload_n 0, 1) := by decide +kernel
theorem dL_law_1061 : decode cL_law 1061 = .ok (.iload_n 3, 1) := by decide +kernel
theorem dL_law_1062 : decode cL_law 1062 = .ok (.iconst 1, 1) := by decide +kernel
theorem dL_law_1063 : decode cL_law 1063 = .ok (.iadd, 1) := by decide +kernel
theorem dL_law_1064 : decode cL_law 1064 = .ok (.iaload, 1) := by decide +kernel
theorem dL_law_1065 : decode cL_law 1065 = .ok (.invokevirtual 142, 3) := by decide +kernel
theorem dL_law_1068 : decode cL_law 1068 = .ok (.if_icmp .eq 5, 3) := by decide +kernel
theorem dL_law_1071 : decode cL_law 1071 = .ok (.iconst 0, 1) := by decide +kernel
theorem dL_law_1072 : decode cL_law 1072 = .ok (.ireturn, 1) := by decide +kernel
theorem dL_law_1073 : decode cL_law 1073 = .ok (.iinc 3 7, 3) := by decide +kernel
theorem dL_law_1076 : decode cL_law 1076 = .ok (.goto (-1058), 3) := by decide +kernel
theorem dL_law_1079 : decode cL_law 1079 = .ok (.iconst 1, 1) := by decide +kernel
theorem dL_law_1080 : decode cL_law 1080 = .ok (.ireturn, 1) := by decide +kernel
