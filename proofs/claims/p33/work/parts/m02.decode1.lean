theorem dX0_init_0 : decode cX0_init 0 = .ok (.aload_n 0, 1) := by decide +kernel
theorem dX0_init_1 : decode cX0_init 1 = .ok (.invokespecial 3, 3) := by decide +kernel
theorem dX0_init_4 : decode cX0_init 4 = .ok (.return_, 1) := by decide +kernel
theorem dX0_open_0 : decode cX0_open 0 = .ok (.aload_n 0, 1) := by decide +kernel
theorem dX0_open_1 : decode cX0_open 1 = .ok (.iload_n 1, 1) := by decide +kernel
theorem dX0_open_2 : decode cX0_open 2 = .ok (.putfield 9, 3) := by decide +kernel
theorem dX0_open_5 : decode cX0_open 5 = .ok (.aload_n 0, 1) := by decide +kernel
theorem dX0_open_6 : decode cX0_open 6 = .ok (.iload_n 2, 1) := by decide +kernel
theorem dX0_open_7 : decode cX0_open 7 = .ok (.putfield 15, 3) := by decide +kernel
theorem dX0_open_10 : decode cX0_open 10 = .ok (.aload_n 0, 1) := by decide +kernel
theorem dX0_open_11 : decode cX0_open 11 = .ok (.bipush (-6), 2) := by decide +kernel
theorem dX0_open_13 : decode cX0_open 13 = .ok (.putfield 18, 3) := by decide +kernel
theorem dX0_open_16 : decode cX0_open 16 = .ok (.aload_n 0, 1) := by decide +kernel
theorem dX0_open_17 : decode cX0_open 17 = .ok (.lconst 0, 1) := by decide +kernel
theorem dX0_open_18 : decode cX0_open 18 = .ok (.putfield 21, 3) := by decide +kernel
theorem dX0_open_21 : decode cX0_open 21 = .ok (.aload_n 0, 1) := by decide +kernel
theorem dX0_open_22 : decode cX0_open 22 = .ok (.lconst 0, 1) := by decide +kernel
theorem dX0_open_23 : decode cX0_open 23 = .ok (.putfield 25, 3) := by decide +kernel
theorem dX0_open_26 : decode cX0_open 26 = .ok (.aload_n 0, 1) := by decide +kernel
theorem dX0_open_27 : decode cX0_open 27 = .ok (.lconst 0, 1) := by decide +kernel
theorem dX0_open_28 : decode cX0_open 28 = .ok (.putfield 28, 3) := by decide +kernel
theorem dX0_open_31 : decode cX0_open 31 = .ok (.aload_n 0, 1) := by decide +kernel
theorem dX0_open_32 : decode cX0_open 32 = .ok (.lconst 0, 1) := by decide +kernel
theorem dX0_open_33 : decode cX0_open 33 = .ok (.putfield 31, 3) := by decide +kernel
theorem dX0_open_36 : decode cX0_open 36 = .ok (.aload_n 0, 1) := by decide +kernel
theorem dX0_open_37 : decode cX0_open 37 = .ok (.lconst 0, 1) := by decide +kernel
theorem dX0_open_38 : decode cX0_open 38 = .ok (.putfield 34, 3) := by decide +kernel
theorem dX0_open_41 : decode cX0_open 41 = .ok (.aload_n 0, 1) := by decide +kernel
theorem dX0_open_42 : decode cX0_open 42 = .ok (.lconst 0, 1) := by decide +kernel
theorem dX0_open_43 : decode cX0_open 43 = .ok (.putfield 37, 3) := by decide +kernel
theorem dX0_open_46 : decode cX0_open 46 = .ok (.aload_n 0, 1) := by decide +kernel
theorem dX0_open_47 : decode cX0_open 47 = .ok (.lconst 0, 1) := by decide +kernel
theorem dX0_open_48 : decode cX0_open 48 = .ok (.putfield 40, 3) := by decide +kernel
theorem dX0_open_51 : decode cX0_open 51 = .ok (.aload_n 0, 1) := by decide +kernel
theorem dX0_open_52 : decode cX0_open 52 = .ok (.lconst 0, 1) := by decide +kernel
theorem dX0_open_53 : decode cX0_open 53 = .ok (.putfield 43, 3) := by decide +kernel
theorem dX0_open_56 : decode cX0_open 56 = .ok (.aload_n 0, 1) := by decide +kernel
theorem dX0_open_57 : decode cX0_open 57 = .ok (.lconst 0, 1) := by decide +kernel
theorem dX0_open_58 : decode cX0_open 58 = .ok (.putfield 46, 3) := by decide +kernel
theorem dX0_open_61 : decode cX0_open 61 = .ok (.aload_n 0, 1) := by decide +kernel
theorem dX0_open_62 : decode cX0_open 62 = .ok (.dconst 0, 1) := by decide +kernel
theorem dX0_open_63 : decode cX0_open 63 = .ok (.putfield 49, 3) := by decide +kernel
theorem dX0_open_66 : decode cX0_open 66 = .ok (.return_, 1) := by decide +kernel
theorem dX0_copyFrom_0 : decode cX0_copyFrom 0 = .ok (.aload_n 0, 1) := by decide +kernel
theorem dX0_copyFrom_1 : decode cX0_copyFrom 1 = .ok (.aload_n 1, 1) := by decide +kernel
theorem dX0_copyFrom_2 : decode cX0_copyFrom 2 = .ok (.getfield 9, 3) := by decide +kernel
theorem dX0_copyFrom_5 : decode cX0_copyFrom 5 = .ok (.putfield 9, 3) := by decide +kernel
theorem dX0_copyFrom_8 : decode cX0_copyFrom 8 = .ok (.aload_n 0, 1) := by decide +kernel
theorem dX0_copyFrom_9 : decode cX0_copyFrom 9 = .ok (.aload_n 1, 1) := by decide +kernel
theorem dX0_copyFrom_10 : decode cX0_copyFrom 10 = .ok (.getfield 15, 3) := by decide +kernel
theorem dX0_copyFrom_13 : decode cX0_copyFrom 13 = .ok (.putfield 15, 3) := by decide +kernel
theorem dX0_copyFrom_16 : decode cX0_copyFrom 16 = .ok (.aload_n 0, 1) := by decide +kernel
theorem dX0_copyFrom_17 : decode cX0_copyFrom 17 = .ok (.aload_n 1, 1) := by decide +kernel
theorem dX0_copyFrom_18 : decode cX0_copyFrom 18 = .ok (.getfield 18, 3) := by decide +kernel
theorem dX0_copyFrom_21 : decode cX0_copyFrom 21 = .ok (.putfield 18, 3) := by decide +kernel
theorem dX0_copyFrom_24 : decode cX0_copyFrom 24 = .ok (.aload_n 0, 1) := by decide +kernel
theorem dX0_copyFrom_25 : decode cX0_copyFrom 25 = .ok (.aload_n 1, 1) := by decide +kernel
theorem dX0_copyFrom_26 : decode cX0_copyFrom 26 = .ok (.getfield 21, 3) := by decide +kernel
theorem dX0_copyFrom_29 : decode cX0_copyFrom 29 = .ok (.putfield 21, 3) := by decide +kernel
theorem dX0_copyFrom_32 : decode cX0_copyFrom 32 = .ok (.aload_n 0, 1) := by decide +kernel
theorem dX0_copyFrom_33 : decode cX0_copyFrom 33 = .ok (.aload_n 1, 1) := by decide +kernel
theorem dX0_copyFrom_34 : decode cX0_copyFrom 34 = .ok (.getfield 25, 3) := by decide +kernel
theorem dX0_copyFrom_37 : decode cX0_copyFrom 37 = .ok (.putfield 25, 3) := by decide +kernel
theorem dX0_copyFrom_40 : decode cX0_copyFrom 40 = .ok (.aload_n 0, 1) := by decide +kernel
theorem dX0_copyFrom_41 : decode cX0_copyFrom 41 = .ok (.aload_n 1, 1) := by decide +kernel
theorem dX0_copyFrom_42 : decode cX0_copyFrom 42 = .ok (.getfield 28, 3) := by decide +kernel
theorem dX0_copyFrom_45 : decode cX0_copyFrom 45 = .ok (.putfield 28, 3) := by decide +kernel
theorem dX0_copyFrom_48 : decode cX0_copyFrom 48 = .ok (.aload_n 0, 1) := by decide +kernel
theorem dX0_copyFrom_49 : decode cX0_copyFrom 49 = .ok (.aload_n 1, 1) := by decide +kernel
theorem dX0_copyFrom_50 : decode cX0_copyFrom 50 = .ok (.getfield 31, 3) := by decide +kernel
theorem dX0_copyFrom_53 : decode cX0_copyFrom 53 = .ok (.putfield 31, 3) := by decide +kernel
theorem dX0_copyFrom_56 : decode cX0_copyFrom 56 = .ok (.aload_n 0, 1) := by decide +kernel
theorem dX0_copyFrom_57 : decode cX0_copyFrom 57 = .ok (.aload_n 1, 1) := by decide +kernel
theorem dX0_copyFrom_58 : decode cX0_copyFrom 58 = .ok (.getfield 34, 3) := by decide +kernel
theorem dX0_copyFrom_61 : decode cX0_copyFrom 61 = .ok (.putfield 34, 3) := by decide +kernel
theorem dX0_copyFrom_64 : decode cX0_copyFrom 64 = .ok (.aload_n 0, 1) := by decide +kernel
theorem dX0_copyFrom_65 : decode cX0_copyFrom 65 = .ok (.aload_n 1, 1) := by decide +kernel
theorem dX0_copyFrom_66 : decode cX0_copyFrom 66 = .ok (.getfield 37, 3) := by decide +kernel
theorem dX0_copyFrom_69 : decode cX0_copyFrom 69 = .ok (.putfield 37, 3) := by decide +kernel
theorem dX0_copyFrom_72 : decode cX0_copyFrom 72 = .ok (.aload_n 0, 1) := by decide +kernel
theorem dX0_copyFrom_73 : decode cX0_copyFrom 73 = .ok (.aload_n 1, 1) := by decide +kernel
theorem dX0_copyFrom_74 : decode cX0_copyFrom 74 = .ok (.getfield 40, 3) := by decide +kernel
theorem dX0_copyFrom_77 : decode cX0_copyFrom 77 = .ok (.putfield 40, 3) := by decide +kernel
theorem dX0_copyFrom_80 : decode cX0_copyFrom 80 = .ok (.aload_n 0, 1) := by decide +kernel
theorem dX0_copyFrom_81 : decode cX0_copyFrom 81 = .ok (.aload_n 1, 1) := by decide +kernel
theorem dX0_copyFrom_82 : decode cX0_copyFrom 82 = .ok (.getfield 43, 3) := by decide +kernel
theorem dX0_copyFrom_85 : decode cX0_copyFrom 85 = .ok (.putfield 43, 3) := by decide +kernel
theorem dX0_copyFrom_88 : decode cX0_copyFrom 88 = .ok (.aload_n 0, 1) := by decide +kernel
theorem dX0_copyFrom_89 : decode cX0_copyFrom 89 = .ok (.aload_n 1, 1) := by decide +kernel
theorem dX0_copyFrom_90 : decode cX0_copyFrom 90 = .ok (.getfield 46, 3) := by decide +kernel
theorem dX0_copyFrom_93 : decode cX0_copyFrom 93 = .ok (.putfield 46, 3) := by decide +kernel
theorem dX0_copyFrom_96 : decode cX0_copyFrom 96 = .ok (.aload_n 0, 1) := by decide +kernel
theorem dX0_copyFrom_97 : decode cX0_copyFrom 97 = .ok (.aload_n 1, 1) := by decide +kernel
theorem dX0_copyFrom_98 : decode cX0_copyFrom 98 = .ok (.getfield 49, 3) := by decide +kernel
theorem dX0_copyFrom_101 : decode cX0_copyFrom 101 = .ok (.putfield 49, 3) := by decide +kernel
theorem dX0_copyFrom_104 : decode cX0_copyFrom 104 = .ok (.return_, 1) := by decide +kernel
theorem dX0_sumOf_0 : decode cX0_sumOf 0 = .ok (.iload_n 1, 1) := by decide +kernel
theorem dX0_sumOf_1 : decode cX0_sumOf 1 = .ok (.tableswitch 96 0 8 #[51, 56, 61, 66, 71, 76, 81, 86, 91], 51) := by decide +kernel
theorem dX0_sumOf_52 : decode cX0_sumOf 52 = .ok (.aload_n 0, 1) := by decide +kernel
theorem dX0_sumOf_53 : decode cX0_sumOf 53 = .ok (.getfield 21, 3) := by decide +kernel
theorem dX0_sumOf_56 : decode cX0_sumOf 56 = .ok (.lreturn, 1) := by decide +kernel
theorem dX0_sumOf_57 : decode cX0_sumOf 57 = .ok (.aload_n 0, 1) := by decide +kernel
theorem dX0_sumOf_58 : decode cX0_sumOf 58 = .ok (.getfield 25, 3) := by decide +kernel
theorem dX0_sumOf_61 : decode cX0_sumOf 61 = .ok (.lreturn, 1) := by decide +kernel
theorem dX0_sumOf_62 : decode cX0_sumOf 62 = .ok (.aload_n 0, 1) := by decide +kernel
theorem dX0_sumOf_63 : decode cX0_sumOf 63 = .ok (.getfield 28, 3) := by decide +kernel
theorem dX0_sumOf_66 : decode cX0_sumOf 66 = .ok (.lreturn, 1) := by decide +kernel
theorem dX0_sumOf_67 : decode cX0_sumOf 67 = .ok (.aload_n 0, 1) := by decide +kernel
theorem dX0_sumOf_68 : decode cX0_sumOf 68 = .ok (.getfield 31, 3) := by decide +kernel
theorem dX0_sumOf_71 : decode cX0_sumOf 71 = .ok (.lreturn, 1) := by decide +kernel
theorem dX0_sumOf_72 : decode cX0_sumOf 72 = .ok (.aload_n 0, 1) := by decide +kernel
theorem dX0_sumOf_73 : decode cX0_sumOf 73 = .ok (.getfield 34, 3) := by decide +kernel
theorem dX0_sumOf_76 : decode cX0_sumOf 76 = .ok (.lreturn, 1) := by decide +kernel
theorem dX0_sumOf_77 : decode cX0_sumOf 77 = .ok (.aload_n 0, 1) := by decide +kernel
theorem dX0_sumOf_78 : decode cX0_sumOf 78 = .ok (.getfield 37, 3) := by decide +kernel
theorem dX0_sumOf_81 : decode cX0_sumOf 81 = .ok (.lreturn, 1) := by decide +kernel
theorem dX0_sumOf_82 : decode cX0_sumOf 82 = .ok (.aload_n 0, 1) := by decide +kernel
theorem dX0_sumOf_83 : decode cX0_sumOf 83 = .ok (.getfield 40, 3) := by decide +kernel
theorem dX0_sumOf_86 : decode cX0_sumOf 86 = .ok (.lreturn, 1) := by decide +kernel
theorem dX0_sumOf_87 : decode cX0_sumOf 87 = .ok (.aload_n 0, 1) := by decide +kernel
theorem dX0_sumOf_88 : decode cX0_sumOf 88 = .ok (.getfield 43, 3) := by decide +kernel
theorem dX0_sumOf_91 : decode cX0_sumOf 91 = .ok (.lreturn, 1) := by decide +kernel
theorem dX0_sumOf_92 : decode cX0_sumOf 92 = .ok (.aload_n 0, 1) := by decide +kernel
theorem dX0_sumOf_93 : decode cX0_sumOf 93 = .ok (.getfield 46, 3) := by decide +kernel
theorem dX0_sumOf_96 : decode cX0_sumOf 96 = .ok (.lreturn, 1) := by decide +kernel
theorem dX0_sumOf_97 : decode cX0_sumOf 97 = .ok (.ldc2_w 53, 3) := by decide +kernel
theorem dX0_sumOf_100 : decode cX0_sumOf 100 = .ok (.lreturn, 1) := by decide +kernel
theorem dX0_takeInterest_0 : decode cX0_takeInterest 0 = .ok (.aload_n 0, 1) := by decide +kernel
theorem dX0_takeInterest_1 : decode cX0_takeInterest 1 = .ok (.getfield 49, 3) := by decide +kernel
theorem dX0_takeInterest_4 : decode cX0_takeInterest 4 = .ok (.d2l, 1) := by decide +kernel
theorem dX0_takeInterest_5 : decode cX0_takeInterest 5 = .ok (.lstore_n 1, 1) := by decide +kernel
theorem dX0_takeInterest_6 : decode cX0_takeInterest 6 = .ok (.aload_n 0, 1) := by decide +kernel
theorem dX0_takeInterest_7 : decode cX0_takeInterest 7 = .ok (.dup, 1) := by decide +kernel
theorem dX0_takeInterest_8 : decode cX0_takeInterest 8 = .ok (.getfield 21, 3) := by decide +kernel
theorem dX0_takeInterest_11 : decode cX0_takeInterest 11 = .ok (.lload_n 1, 1) := by decide +kernel
theorem dX0_takeInterest_12 : decode cX0_takeInterest 12 = .ok (.lsub, 1) := by decide +kernel
theorem dX0_takeInterest_13 : decode cX0_takeInterest 13 = .ok (.putfield 21, 3) := by decide +kernel
theorem dX0_takeInterest_16 : decode cX0_takeInterest 16 = .ok (.aload_n 0, 1) := by decide +kernel
theorem dX0_takeInterest_17 : decode cX0_takeInterest 17 = .ok (.dup, 1) := by decide +kernel
theorem dX0_takeInterest_18 : decode cX0_takeInterest 18 = .ok (.getfield 43, 3) := by decide +kernel
theorem dX0_takeInterest_21 : decode cX0_takeInterest 21 = .ok (.lload_n 1, 1) := by decide +kernel
theorem dX0_takeInterest_22 : decode cX0_takeInterest 22 = .ok (.ladd, 1) := by decide +kernel
theorem dX0_takeInterest_23 : decode cX0_takeInterest 23 = .ok (.putfield 43, 3) := by decide +kernel
theorem dX0_takeInterest_26 : decode cX0_takeInterest 26 = .ok (.aload_n 0, 1) := by decide +kernel
theorem dX0_takeInterest_27 : decode cX0_takeInterest 27 = .ok (.aload_n 0, 1) := by decide +kernel
theorem dX0_takeInterest_28 : decode cX0_takeInterest 28 = .ok (.getfield 49, 3) := by decide +kernel
theorem dX0_takeInterest_31 : decode cX0_takeInterest 31 = .ok (.lload_n 1, 1) := by decide +kernel
theorem dX0_takeInterest_32 : decode cX0_takeInterest 32 = .ok (.l2d, 1) := by decide +kernel
theorem dX0_takeInterest_33 : decode cX0_takeInterest 33 = .ok (.dsub, 1) := by decide +kernel
theorem dX0_takeInterest_34 : decode cX0_takeInterest 34 = .ok (.putfield 49, 3) := by decide +kernel
theorem dX0_takeInterest_37 : decode cX0_takeInterest 37 = .ok (.return_, 1) := by decide +kernel
theorem dX1_init_0 : decode cX1_init 0 = .ok (.aload_n 0, 1) := by decide +kernel
theorem dX1_init_1 : decode cX1_init 1 = .ok (.invokespecial 3, 3) := by decide +kernel
theorem dX1_init_4 : decode cX1_init 4 = .ok (.aload_n 0, 1) := by decide +kernel
theorem dX1_init_5 : decode cX1_init 5 = .ok (.bipush 18, 2) := by decide +kernel
theorem dX1_init_7 : decode cX1_init 7 = .ok (.newarray .long, 2) := by decide +kernel
theorem dX1_init_9 : decode cX1_init 9 = .ok (.putfield 9, 3) := by decide +kernel
theorem dX1_init_12 : decode cX1_init 12 = .ok (.return_, 1) := by decide +kernel
theorem dX1_copyFrom_0 : decode cX1_copyFrom 0 = .ok (.aload_n 1, 1) := by decide +kernel
theorem dX1_copyFrom_1 : decode cX1_copyFrom 1 = .ok (.getfield 9, 3) := by decide +kernel
theorem dX1_copyFrom_4 : decode cX1_copyFrom 4 = .ok (.iconst 0, 1) := by decide +kernel
theorem dX1_copyFrom_5 : decode cX1_copyFrom 5 = .ok (.aload_n 0, 1) := by decide +kernel
theorem dX1_copyFrom_6 : decode cX1_copyFrom 6 = .ok (.getfield 9, 3) := by decide +kernel
theorem dX1_copyFrom_9 : decode cX1_copyFrom 9 = .ok (.iconst 0, 1) := by decide +kernel
theorem dX1_copyFrom_10 : decode cX1_copyFrom 10 = .ok (.aload_n 0, 1) := by decide +kernel
theorem dX1_copyFrom_11 : decode cX1_copyFrom 11 = .ok (.getfield 9, 3) := by decide +kernel
theorem dX1_copyFrom_14 : decode cX1_copyFrom 14 = .ok (.arraylength, 1) := by decide +kernel
theorem dX1_copyFrom_15 : decode cX1_copyFrom 15 = .ok (.invokestatic 15, 3) := by decide +kernel
theorem dX1_copyFrom_18 : decode cX1_copyFrom 18 = .ok (.aload_n 0, 1) := by decide +kernel
theorem dX1_copyFrom_19 : decode cX1_copyFrom 19 = .ok (.aload_n 1, 1) := by decide +kernel
theorem dX1_copyFrom_20 : decode cX1_copyFrom 20 = .ok (.getfield 21, 3) := by decide +kernel
theorem dX1_copyFrom_23 : decode cX1_copyFrom 23 = .ok (.putfield 21, 3) := by decide +kernel
theorem dX1_copyFrom_26 : decode cX1_copyFrom 26 = .ok (.aload_n 0, 1) := by decide +kernel
theorem dX1_copyFrom_27 : decode cX1_copyFrom 27 = .ok (.aload_n 1, 1) := by decide +kernel
theorem dX1_copyFrom_28 : decode cX1_copyFrom 28 = .ok (.getfield 25, 3) := by decide +kernel
theorem dX1_copyFrom_31 : decode cX1_copyFrom 31 = .ok (.putfield 25, 3) := by decide +kernel
theorem dX1_copyFrom_34 : decode cX1_copyFrom 34 = .ok (.return_, 1) := by decide +kernel
theorem dX1_monthOf_0 : decode cX1_monthOf 0 = .ok (.iload_n 0, 1) := by decide +kernel
theorem dX1_monthOf_1 : decode cX1_monthOf 1 = .ok (.sipush 365, 3) := by decide +kernel
theorem dX1_monthOf_4 : decode cX1_monthOf 4 = .ok (.irem, 1) := by decide +kernel
theorem dX1_monthOf_5 : decode cX1_monthOf 5 = .ok (.istore_n 1, 1) := by decide +kernel
theorem dX1_monthOf_6 : decode cX1_monthOf 6 = .ok (.iload_n 1, 1) := by decide +kernel
theorem dX1_monthOf_7 : decode cX1_monthOf 7 = .ok (.bipush 31, 2) := by decide +kernel
theorem dX1_monthOf_9 : decode cX1_monthOf 9 = .ok (.idiv, 1) := by decide +kernel
theorem dX1_monthOf_10 : decode cX1_monthOf 10 = .ok (.istore_n 2, 1) := by decide +kernel
theorem dX1_monthOf_11 : decode cX1_monthOf 11 = .ok (.getstatic 28, 3) := by decide +kernel
theorem dX1_monthOf_14 : decode cX1_monthOf 14 = .ok (.iload_n 2, 1) := by decide +kernel
theorem dX1_monthOf_15 : decode cX1_monthOf 15 = .ok (.iconst 1, 1) := by decide +kernel
theorem dX1_monthOf_16 : decode cX1_monthOf 16 = .ok (.iadd, 1) := by decide +kernel
theorem dX1_monthOf_17 : decode cX1_monthOf 17 = .ok (.iaload, 1) := by decide +kernel
theorem dX1_monthOf_18 : decode cX1_monthOf 18 = .ok (.iload_n 1, 1) := by decide +kernel
theorem dX1_monthOf_19 : decode cX1_monthOf 19 = .ok (.if_icmp .gt 6, 3) := by decide +kernel
theorem dX1_monthOf_22 : decode cX1_monthOf 22 = .ok (.iinc 2 1, 3) := by decide +kernel
theorem dX1_monthOf_25 : decode cX1_monthOf 25 = .ok (.iload_n 0, 1) := by decide +kernel
theorem dX1_monthOf_26 : decode cX1_monthOf 26 = .ok (.sipush 365, 3) := by decide +kernel
theorem dX1_monthOf_29 : decode cX1_monthOf 29 = .ok (.idiv, 1) := by decide +kernel
theorem dX1_monthOf_30 : decode cX1_monthOf 30 = .ok (.bipush 12, 2) := by decide +kernel
theorem dX1_monthOf_32 : decode cX1_monthOf 32 = .ok (.imul, 1) := by decide +kernel
theorem dX1_monthOf_33 : decode cX1_monthOf 33 = .ok (.iload_n 2, 1) := by decide +kernel
theorem dX1_monthOf_34 : decode cX1_monthOf 34 = .ok (.iadd, 1) := by decide +kernel
theorem dX1_monthOf_35 : decode cX1_monthOf 35 = .ok (.ireturn, 1) := by decide +kernel
theorem dX1_firstDayOf_0 : decode cX1_firstDayOf 0 = .ok (.iload_n 0, 1) := by decide +kernel
theorem dX1_firstDayOf_1 : decode cX1_firstDayOf 1 = .ok (.bipush 12, 2) := by decide +kernel
theorem dX1_firstDayOf_3 : decode cX1_firstDayOf 3 = .ok (.idiv, 1) := by decide +kernel
theorem dX1_firstDayOf_4 : decode cX1_firstDayOf 4 = .ok (.sipush 365, 3) := by decide +kernel
theorem dX1_firstDayOf_7 : decode cX1_firstDayOf 7 = .ok (.imul, 1) := by decide +kernel
theorem dX1_firstDayOf_8 : decode cX1_firstDayOf 8 = .ok (.getstatic 28, 3) := by decide +kernel
theorem dX1_firstDayOf_11 : decode cX1_firstDayOf 11 = .ok (.iload_n 0, 1) := by decide +kernel
theorem dX1_firstDayOf_12 : decode cX1_firstDayOf 12 = .ok (.bipush 12, 2) := by decide +kernel
theorem dX1_firstDayOf_14 : decode cX1_firstDayOf 14 = .ok (.irem, 1) := by decide +kernel
theorem dX1_firstDayOf_15 : decode cX1_firstDayOf 15 = .ok (.iaload, 1) := by decide +kernel
theorem dX1_firstDayOf_16 : decode cX1_firstDayOf 16 = .ok (.iadd, 1) := by decide +kernel
theorem dX1_firstDayOf_17 : decode cX1_firstDayOf 17 = .ok (.ireturn, 1) := by decide +kernel
theorem dX1_lastDayOf_0 : decode cX1_lastDayOf 0 = .ok (.iload_n 0, 1) := by decide +kernel
theorem dX1_lastDayOf_1 : decode cX1_lastDayOf 1 = .ok (.bipush 12, 2) := by decide +kernel
theorem dX1_lastDayOf_3 : decode cX1_lastDayOf 3 = .ok (.idiv, 1) := by decide +kernel
theorem dX1_lastDayOf_4 : decode cX1_lastDayOf 4 = .ok (.sipush 365, 3) := by decide +kernel
theorem dX1_lastDayOf_7 : decode cX1_lastDayOf 7 = .ok (.imul, 1) := by decide +kernel
theorem dX1_lastDayOf_8 : decode cX1_lastDayOf 8 = .ok (.getstatic 28, 3) := by decide +kernel
theorem dX1_lastDayOf_11 : decode cX1_lastDayOf 11 = .ok (.iload_n 0, 1) := by decide +kernel
theorem dX1_lastDayOf_12 : decode cX1_lastDayOf 12 = .ok (.bipush 12, 2) := by decide +kernel
theorem dX1_lastDayOf_14 : decode cX1_lastDayOf 14 = .ok (.irem, 1) := by decide +kernel
theorem dX1_lastDayOf_15 : decode cX1_lastDayOf 15 = .ok (.iconst 1, 1) := by decide +kernel
theorem dX1_lastDayOf_16 : decode cX1_lastDayOf 16 = .ok (.iadd, 1) := by decide +kernel
theorem dX1_lastDayOf_17 : decode cX1_lastDayOf 17 = .ok (.iaload, 1) := by decide +kernel
theorem dX1_lastDayOf_18 : decode cX1_lastDayOf 18 = .ok (.iadd, 1) := by decide +kernel
theorem dX1_lastDayOf_19 : decode cX1_lastDayOf 19 = .ok (.iconst 1, 1) := by decide +kernel
theorem dX1_lastDayOf_20 : decode cX1_lastDayOf 20 = .ok (.isub, 1) := by decide +kernel
theorem dX1_lastDayOf_21 : decode cX1_lastDayOf 21 = .ok (.ireturn, 1) := by decide +kernel
theorem dX1_isHoliday_0 : decode cX1_isHoliday 0 = .ok (.aload_n 0, 1) := by decide +kernel
theorem dX1_isHoliday_1 : decode cX1_isHoliday 1 = .ok (.getfield 9, 3) := by decide +kernel
theorem dX1_isHoliday_4 : decode cX1_isHoliday 4 = .ok (.iload_n 1, 1) := by decide +kernel
theorem dX1_isHoliday_5 : decode cX1_isHoliday 5 = .ok (.bipush 6, 2) := by decide +kernel
theorem dX1_isHoliday_7 : decode cX1_isHoliday 7 = .ok (.ishr, 1) := by decide +kernel
theorem dX1_isHoliday_8 : decode cX1_isHoliday 8 = .ok (.laload, 1) := by decide +kernel
theorem dX1_isHoliday_9 : decode cX1_isHoliday 9 = .ok (.iload_n 1, 1) := by decide +kernel
theorem dX1_isHoliday_10 : decode cX1_isHoliday 10 = .ok (.bipush 63, 2) := by decide +kernel
theorem dX1_isHoliday_12 : decode cX1_isHoliday 12 = .ok (.iand, 1) := by decide +kernel
theorem dX1_isHoliday_13 : decode cX1_isHoliday 13 = .ok (.lushr, 1) := by decide +kernel
theorem dX1_isHoliday_14 : decode cX1_isHoliday 14 = .ok (.lconst 1, 1) := by decide +kernel
theorem dX1_isHoliday_15 : decode cX1_isHoliday 15 = .ok (.land, 1) := by decide +kernel
theorem dX1_isHoliday_16 : decode cX1_isHoliday 16 = .ok (.lconst 0, 1) := by decide +kernel
theorem dX1_isHoliday_17 : decode cX1_isHoliday 17 = .ok (.lcmp, 1) := by decide +kernel
theorem dX1_isHoliday_18 : decode cX1_isHoliday 18 = .ok (.ifCond .eq 7, 3) := by decide +kernel
theorem dX1_isHoliday_21 : decode cX1_isHoliday 21 = .ok (.iconst 1, 1) := by decide +kernel
theorem dX1_isHoliday_22 : decode cX1_isHoliday 22 = .ok (.goto 4, 3) := by decide +kernel
theorem dX1_isHoliday_25 : decode cX1_isHoliday 25 = .ok (.iconst 0, 1) := by decide +kernel
theorem dX1_isHoliday_26 : decode cX1_isHoliday 26 = .ok (.ireturn, 1) := by decide +kernel
theorem dX1_isBusiness_0 : decode cX1_isBusiness 0 = .ok (.iload_n 1, 1) := by decide +kernel
theorem dX1_isBusiness_1 : decode cX1_isBusiness 1 = .ok (.aload_n 0, 1) := by decide +kernel
theorem dX1_isBusiness_2 : decode cX1_isBusiness 2 = .ok (.getfield 25, 3) := by decide +kernel
theorem dX1_isBusiness_5 : decode cX1_isBusiness 5 = .ok (.iadd, 1) := by decide +kernel
theorem dX1_isBusiness_6 : decode cX1_isBusiness 6 = .ok (.bipush 7, 2) := by decide +kernel
theorem dX1_isBusiness_8 : decode cX1_isBusiness 8 = .ok (.irem, 1) := by decide +kernel
theorem dX1_isBusiness_9 : decode cX1_isBusiness 9 = .ok (.iconst 5, 1) := by decide +kernel
theorem dX1_isBusiness_10 : decode cX1_isBusiness 10 = .ok (.if_icmp .ge 28, 3) := by decide +kernel
theorem dX1_isBusiness_13 : decode cX1_isBusiness 13 = .ok (.aload_n 0, 1) := by decide +kernel
theorem dX1_isBusiness_14 : decode cX1_isBusiness 14 = .ok (.getfield 9, 3) := by decide +kernel
theorem dX1_isBusiness_17 : decode cX1_isBusiness 17 = .ok (.iload_n 1, 1) := by decide +kernel
theorem dX1_isBusiness_18 : decode cX1_isBusiness 18 = .ok (.bipush 6, 2) := by decide +kernel
theorem dX1_isBusiness_20 : decode cX1_isBusiness 20 = .ok (.ishr, 1) := by decide +kernel
theorem dX1_isBusiness_21 : decode cX1_isBusiness 21 = .ok (.laload, 1) := by decide +kernel
theorem dX1_isBusiness_22 : decode cX1_isBusiness 22 = .ok (.iload_n 1, 1) := by decide +kernel
theorem dX1_isBusiness_23 : decode cX1_isBusiness 23 = .ok (.bipush 63, 2) := by decide +kernel
theorem dX1_isBusiness_25 : decode cX1_isBusiness 25 = .ok (.iand, 1) := by decide +kernel
theorem dX1_isBusiness_26 : decode cX1_isBusiness 26 = .ok (.lushr, 1) := by decide +kernel
theorem dX1_isBusiness_27 : decode cX1_isBusiness 27 = .ok (.lconst 1, 1) := by decide +kernel
theorem dX1_isBusiness_28 : decode cX1_isBusiness 28 = .ok (.land, 1) := by decide +kernel
theorem dX1_isBusiness_29 : decode cX1_isBusiness 29 = .ok (.lconst 0, 1) := by decide +kernel
theorem dX1_isBusiness_30 : decode cX1_isBusiness 30 = .ok (.lcmp, 1) := by decide +kernel
theorem dX1_isBusiness_31 : decode cX1_isBusiness 31 = .ok (.ifCond .ne 7, 3) := by decide +kernel
theorem dX1_isBusiness_34 : decode cX1_isBusiness 34 = .ok (.iconst 1, 1) := by decide +kernel
theorem dX1_isBusiness_35 : decode cX1_isBusiness 35 = .ok (.goto 4, 3) := by decide +kernel
theorem dX1_isBusiness_38 : decode cX1_isBusiness 38 = .ok (.iconst 0, 1) := by decide +kernel
theorem dX1_isBusiness_39 : decode cX1_isBusiness 39 = .ok (.ireturn, 1) := by decide +kernel
theorem dX1_nextBusiness_0 : decode cX1_nextBusiness 0 = .ok (.iload_n 1, 1) := by decide +kernel
theorem dX1_nextBusiness_1 : decode cX1_nextBusiness 1 = .ok (.istore_n 2, 1) := by decide +kernel
theorem dX1_nextBusiness_2 : decode cX1_nextBusiness 2 = .ok (.iload_n 2, 1) := by decide +kernel
theorem dX1_nextBusiness_3 : decode cX1_nextBusiness 3 = .ok (.sipush 1094, 3) := by decide +kernel
theorem dX1_nextBusiness_6 : decode cX1_nextBusiness 6 = .ok (.if_icmp .gt 19, 3) := by decide +kernel
theorem dX1_nextBusiness_9 : decode cX1_nextBusiness 9 = .ok (.aload_n 0, 1) := by decide +kernel
theorem dX1_nextBusiness_10 : decode cX1_nextBusiness 10 = .ok (.iload_n 2, 1) := by decide +kernel
theorem dX1_nextBusiness_11 : decode cX1_nextBusiness 11 = .ok (.invokevirtual 32, 3) := by decide +kernel
theorem dX1_nextBusiness_14 : decode cX1_nextBusiness 14 = .ok (.ifCond .eq 5, 3) := by decide +kernel
theorem dX1_nextBusiness_17 : decode cX1_nextBusiness 17 = .ok (.iload_n 2, 1) := by decide +kernel
theorem dX1_nextBusiness_18 : decode cX1_nextBusiness 18 = .ok (.ireturn, 1) := by decide +kernel
theorem dX1_nextBusiness_19 : decode cX1_nextBusiness 19 = .ok (.iinc 2 1, 3) := by decide +kernel
theorem dX1_nextBusiness_22 : decode cX1_nextBusiness 22 = .ok (.goto (-20), 3) := by decide +kernel
theorem dX1_nextBusiness_25 : decode cX1_nextBusiness 25 = .ok (.bipush (-6), 2) := by decide +kernel
theorem dX1_nextBusiness_27 : decode cX1_nextBusiness 27 = .ok (.ireturn, 1) := by decide +kernel
theorem dX1_lastBusiness_0 : decode cX1_lastBusiness 0 = .ok (.iload_n 1, 1) := by decide +kernel
theorem dX1_lastBusiness_1 : decode cX1_lastBusiness 1 = .ok (.istore_n 2, 1) := by decide +kernel
theorem dX1_lastBusiness_2 : decode cX1_lastBusiness 2 = .ok (.iload_n 2, 1) := by decide +kernel
theorem dX1_lastBusiness_3 : decode cX1_lastBusiness 3 = .ok (.ifCond .lt 19, 3) := by decide +kernel
theorem dX1_lastBusiness_6 : decode cX1_lastBusiness 6 = .ok (.aload_n 0, 1) := by decide +kernel
theorem dX1_lastBusiness_7 : decode cX1_lastBusiness 7 = .ok (.iload_n 2, 1) := by decide +kernel
theorem dX1_lastBusiness_8 : decode cX1_lastBusiness 8 = .ok (.invokevirtual 32, 3) := by decide +kernel
theorem dX1_lastBusiness_11 : decode cX1_lastBusiness 11 = .ok (.ifCond .eq 5, 3) := by decide +kernel
theorem dX1_lastBusiness_14 : decode cX1_lastBusiness 14 = .ok (.iload_n 2, 1) := by decide +kernel
theorem dX1_lastBusiness_15 : decode cX1_lastBusiness 15 = .ok (.ireturn, 1) := by decide +kernel
theorem dX1_lastBusiness_16 : decode cX1_lastBusiness 16 = .ok (.iinc 2 (-1), 3) := by decide +kernel
theorem dX1_lastBusiness_19 : decode cX1_lastBusiness 19 = .ok (.goto (-17), 3) := by decide +kernel
theorem dX1_lastBusiness_22 : decode cX1_lastBusiness 22 = .ok (.bipush (-6), 2) := by decide +kernel
theorem dX1_lastBusiness_24 : decode cX1_lastBusiness 24 = .ok (.ireturn, 1) := by decide +kernel
theorem dX1_shifted_0 : decode cX1_shifted 0 = .ok (.iload_n 2, 1) := by decide +kernel
theorem dX1_shifted_1 : decode cX1_shifted 1 = .ok (.ifCond .eq 8, 3) := by decide +kernel
theorem dX1_shifted_4 : decode cX1_shifted 4 = .ok (.iload_n 2, 1) := by decide +kernel
theorem dX1_shifted_5 : decode cX1_shifted 5 = .ok (.iconst 4, 1) := by decide +kernel
theorem dX1_shifted_6 : decode cX1_shifted 6 = .ok (.if_icmp .ne 5, 3) := by decide +kernel
theorem dX1_shifted_9 : decode cX1_shifted 9 = .ok (.iload_n 1, 1) := by decide +kernel
theorem dX1_shifted_10 : decode cX1_shifted 10 = .ok (.ireturn, 1) := by decide +kernel
theorem dX1_shifted_11 : decode cX1_shifted 11 = .ok (.iload_n 2, 1) := by decide +kernel
theorem dX1_shifted_12 : decode cX1_shifted 12 = .ok (.iconst 2, 1) := by decide +kernel
theorem dX1_shifted_13 : decode cX1_shifted 13 = .ok (.if_icmp .ne 11, 3) := by decide +kernel
theorem dX1_shifted_16 : decode cX1_shifted 16 = .ok (.aload_n 0, 1) := by decide +kernel
theorem dX1_shifted_17 : decode cX1_shifted 17 = .ok (.iload_n 1, 1) := by decide +kernel
theorem dX1_shifted_18 : decode cX1_shifted 18 = .ok (.invokevirtual 36, 3) := by decide +kernel
theorem dX1_shifted_21 : decode cX1_shifted 21 = .ok (.goto 8, 3) := by decide +kernel
theorem dX1_shifted_24 : decode cX1_shifted 24 = .ok (.aload_n 0, 1) := by decide +kernel
theorem dX1_shifted_25 : decode cX1_shifted 25 = .ok (.iload_n 1, 1) := by decide +kernel
theorem dX1_shifted_26 : decode cX1_shifted 26 = .ok (.invokevirtual 40, 3) := by decide +kernel
theorem dX1_shifted_29 : decode cX1_shifted 29 = .ok (.istore_n 3, 1) := by decide +kernel
theorem dX1_shifted_30 : decode cX1_shifted 30 = .ok (.iload_n 2, 1) := by decide +kernel
theorem dX1_shifted_31 : decode cX1_shifted 31 = .ok (.iconst 3, 1) := by decide +kernel
theorem dX1_shifted_32 : decode cX1_shifted 32 = .ok (.if_icmp .ne 26, 3) := by decide +kernel
theorem dX1_shifted_35 : decode cX1_shifted 35 = .ok (.iload_n 3, 1) := by decide +kernel
theorem dX1_shifted_36 : decode cX1_shifted 36 = .ok (.bipush (-6), 2) := by decide +kernel
theorem dX1_shifted_38 : decode cX1_shifted 38 = .ok (.if_icmp .eq 14, 3) := by decide +kernel
theorem dX1_shifted_41 : decode cX1_shifted 41 = .ok (.iload_n 3, 1) := by decide +kernel
theorem dX1_shifted_42 : decode cX1_shifted 42 = .ok (.invokestatic 43, 3) := by decide +kernel
theorem dX1_shifted_45 : decode cX1_shifted 45 = .ok (.iload_n 1, 1) := by decide +kernel
theorem dX1_shifted_46 : decode cX1_shifted 46 = .ok (.invokestatic 43, 3) := by decide +kernel
theorem dX1_shifted_49 : decode cX1_shifted 49 = .ok (.if_icmp .eq 9, 3) := by decide +kernel
theorem dX1_shifted_52 : decode cX1_shifted 52 = .ok (.aload_n 0, 1) := by decide +kernel
theorem dX1_shifted_53 : decode cX1_shifted 53 = .ok (.iload_n 1, 1) := by decide +kernel
theorem dX1_shifted_54 : decode cX1_shifted 54 = .ok (.invokevirtual 36, 3) := by decide +kernel
theorem dX1_shifted_57 : decode cX1_shifted 57 = .ok (.istore_n 3, 1) := by decide +kernel
theorem dX1_shifted_58 : decode cX1_shifted 58 = .ok (.iload_n 3, 1) := by decide +kernel
theorem dX1_shifted_59 : decode cX1_shifted 59 = .ok (.bipush (-6), 2) := by decide +kernel
theorem dX1_shifted_61 : decode cX1_shifted 61 = .ok (.if_icmp .ne 7, 3) := by decide +kernel
theorem dX1_shifted_64 : decode cX1_shifted 64 = .ok (.iload_n 1, 1) := by decide +kernel
theorem dX1_shifted_65 : decode cX1_shifted 65 = .ok (.goto 4, 3) := by decide +kernel
theorem dX1_shifted_68 : decode cX1_shifted 68 = .ok (.iload_n 3, 1) := by decide +kernel
theorem dX1_shifted_69 : decode cX1_shifted 69 = .ok (.ireturn, 1) := by decide +kernel
theorem dX1_mark_0 : decode cX1_mark 0 = .ok (.iload_n 1, 1) := by decide +kernel
theorem dX1_mark_1 : decode cX1_mark 1 = .ok (.iconst 0, 1) := by decide +kernel
theorem dX1_mark_2 : decode cX1_mark 2 = .ok (.sipush 1094, 3) := by decide +kernel
theorem dX1_mark_5 : decode cX1_mark 5 = .ok (.invokestatic 46, 3) := by decide +kernel
theorem dX1_mark_8 : decode cX1_mark 8 = .ok (.ifCond .eq 12, 3) := by decide +kernel
theorem dX1_mark_11 : decode cX1_mark 11 = .ok (.iload_n 2, 1) := by decide +kernel
theorem dX1_mark_12 : decode cX1_mark 12 = .ok (.iconst 0, 1) := by decide +kernel
theorem dX1_mark_13 : decode cX1_mark 13 = .ok (.iconst 1, 1) := by decide +kernel
theorem dX1_mark_14 : decode cX1_mark 14 = .ok (.invokestatic 46, 3) := by decide +kernel
theorem dX1_mark_17 : decode cX1_mark 17 = .ok (.ifCond .ne 6, 3) := by decide +kernel
theorem dX1_mark_20 : decode cX1_mark 20 = .ok (.bipush (-2), 2) := by decide +kernel
theorem dX1_mark_22 : decode cX1_mark 22 = .ok (.ireturn, 1) := by decide +kernel
theorem dX1_mark_23 : decode cX1_mark 23 = .ok (.aload_n 0, 1) := by decide +kernel
theorem dX1_mark_24 : decode cX1_mark 24 = .ok (.iload_n 1, 1) := by decide +kernel
theorem dX1_mark_25 : decode cX1_mark 25 = .ok (.invokevirtual 50, 3) := by decide +kernel
theorem dX1_mark_28 : decode cX1_mark 28 = .ok (.iload_n 2, 1) := by decide +kernel
theorem dX1_mark_29 : decode cX1_mark 29 = .ok (.iconst 1, 1) := by decide +kernel
theorem dX1_mark_30 : decode cX1_mark 30 = .ok (.if_icmp .ne 7, 3) := by decide +kernel
theorem dX1_mark_33 : decode cX1_mark 33 = .ok (.iconst 1, 1) := by decide +kernel
theorem dX1_mark_34 : decode cX1_mark 34 = .ok (.goto 4, 3) := by decide +kernel
theorem dX1_mark_37 : decode cX1_mark 37 = .ok (.iconst 0, 1) := by decide +kernel
theorem dX1_mark_38 : decode cX1_mark 38 = .ok (.if_icmp .ne 8, 3) := by decide +kernel
theorem dX1_mark_41 : decode cX1_mark 41 = .ok (.aload_n 0, 1) := by decide +kernel
theorem dX1_mark_42 : decode cX1_mark 42 = .ok (.getfield 21, 3) := by decide +kernel
theorem dX1_mark_45 : decode cX1_mark 45 = .ok (.ireturn, 1) := by decide +kernel
theorem dX1_mark_46 : decode cX1_mark 46 = .ok (.iload_n 2, 1) := by decide +kernel
theorem dX1_mark_47 : decode cX1_mark 47 = .ok (.iconst 1, 1) := by decide +kernel
theorem dX1_mark_48 : decode cX1_mark 48 = .ok (.if_icmp .ne 15, 3) := by decide +kernel
theorem dX1_mark_51 : decode cX1_mark 51 = .ok (.aload_n 0, 1) := by decide +kernel
theorem dX1_mark_52 : decode cX1_mark 52 = .ok (.getfield 21, 3) := by decide +kernel
theorem dX1_mark_55 : decode cX1_mark 55 = .ok (.bipush 20, 2) := by decide +kernel
theorem dX1_mark_57 : decode cX1_mark 57 = .ok (.if_icmp .lt 6, 3) := by decide +kernel
theorem dX1_mark_60 : decode cX1_mark 60 = .ok (.bipush (-4), 2) := by decide +kernel
theorem dX1_mark_62 : decode cX1_mark 62 = .ok (.ireturn, 1) := by decide +kernel
theorem dX1_mark_63 : decode cX1_mark 63 = .ok (.aload_n 0, 1) := by decide +kernel
theorem dX1_mark_64 : decode cX1_mark 64 = .ok (.getfield 9, 3) := by decide +kernel
theorem dX1_mark_67 : decode cX1_mark 67 = .ok (.iload_n 1, 1) := by decide +kernel
theorem dX1_mark_68 : decode cX1_mark 68 = .ok (.bipush 6, 2) := by decide +kernel
theorem dX1_mark_70 : decode cX1_mark 70 = .ok (.ishr, 1) := by decide +kernel
theorem dX1_mark_71 : decode cX1_mark 71 = .ok (.dup2, 1) := by decide +kernel
theorem dX1_mark_72 : decode cX1_mark 72 = .ok (.laload, 1) := by decide +kernel
theorem dX1_mark_73 : decode cX1_mark 73 = .ok (.lconst 1, 1) := by decide +kernel
theorem dX1_mark_74 : decode cX1_mark 74 = .ok (.iload_n 1, 1) := by decide +kernel
theorem dX1_mark_75 : decode cX1_mark 75 = .ok (.bipush 63, 2) := by decide +kernel
theorem dX1_mark_77 : decode cX1_mark 77 = .ok (.iand, 1) := by decide +kernel
theorem dX1_mark_78 : decode cX1_mark 78 = .ok (.lshl, 1) := by decide +kernel
theorem dX1_mark_79 : decode cX1_mark 79 = .ok (.lxor, 1) := by decide +kernel
theorem dX1_mark_80 : decode cX1_mark 80 = .ok (.lastore, 1) := by decide +kernel
theorem dX1_mark_81 : decode cX1_mark 81 = .ok (.aload_n 0, 1) := by decide +kernel
theorem dX1_mark_82 : decode cX1_mark 82 = .ok (.dup, 1) := by decide +kernel
theorem dX1_mark_83 : decode cX1_mark 83 = .ok (.getfield 21, 3) := by decide +kernel
theorem dX1_mark_86 : decode cX1_mark 86 = .ok (.iload_n 2, 1) := by decide +kernel
theorem dX1_mark_87 : decode cX1_mark 87 = .ok (.iconst 1, 1) := by decide +kernel
theorem dX1_mark_88 : decode cX1_mark 88 = .ok (.if_icmp .ne 7, 3) := by decide +kernel
theorem dX1_mark_91 : decode cX1_mark 91 = .ok (.iconst 1, 1) := by decide +kernel
theorem dX1_mark_92 : decode cX1_mark 92 = .ok (.goto 4, 3) := by decide +kernel
theorem dX1_mark_95 : decode cX1_mark 95 = .ok (.iconst (-1), 1) := by decide +kernel
theorem dX1_mark_96 : decode cX1_mark 96 = .ok (.iadd, 1) := by decide +kernel
theorem dX1_mark_97 : decode cX1_mark 97 = .ok (.putfield 21, 3) := by decide +kernel
theorem dX1_mark_100 : decode cX1_mark 100 = .ok (.aload_n 0, 1) := by decide +kernel
theorem dX1_mark_101 : decode cX1_mark 101 = .ok (.getfield 21, 3) := by decide +kernel
theorem dX1_mark_104 : decode cX1_mark 104 = .ok (.ireturn, 1) := by decide +kernel
theorem dX2_init_0 : decode cX2_init 0 = .ok (.aload_n 0, 1) := by decide +kernel
theorem dX2_init_1 : decode cX2_init 1 = .ok (.invokespecial 3, 3) := by decide +kernel
theorem dX2_init_4 : decode cX2_init 4 = .ok (.aload_n 0, 1) := by decide +kernel
theorem dX2_init_5 : decode cX2_init 5 = .ok (.new 9, 3) := by decide +kernel
theorem dX2_init_8 : decode cX2_init 8 = .ok (.dup, 1) := by decide +kernel
theorem dX2_init_9 : decode cX2_init 9 = .ok (.invokespecial 11, 3) := by decide +kernel
theorem dX2_init_12 : decode cX2_init 12 = .ok (.putfield 12, 3) := by decide +kernel
theorem dX2_init_15 : decode cX2_init 15 = .ok (.aload_n 0, 1) := by decide +kernel
theorem dX2_init_16 : decode cX2_init 16 = .ok (.bipush 8, 2) := by decide +kernel
theorem dX2_init_18 : decode cX2_init 18 = .ok (.anewarray 18, 3) := by decide +kernel
theorem dX2_init_21 : decode cX2_init 21 = .ok (.putfield 20, 3) := by decide +kernel
theorem dX2_init_24 : decode cX2_init 24 = .ok (.aload_n 0, 1) := by decide +kernel
theorem dX2_init_25 : decode cX2_init 25 = .ok (.bipush 16, 2) := by decide +kernel
theorem dX2_init_27 : decode cX2_init 27 = .ok (.anewarray 24, 3) := by decide +kernel
theorem dX2_init_30 : decode cX2_init 30 = .ok (.putfield 26, 3) := by decide +kernel
theorem dX2_init_33 : decode cX2_init 33 = .ok (.aload_n 0, 1) := by decide +kernel
theorem dX2_init_34 : decode cX2_init 34 = .ok (.new 30, 3) := by decide +kernel
theorem dX2_init_37 : decode cX2_init 37 = .ok (.dup, 1) := by decide +kernel
theorem dX2_init_38 : decode cX2_init 38 = .ok (.invokespecial 32, 3) := by decide +kernel
theorem dX2_init_41 : decode cX2_init 41 = .ok (.putfield 33, 3) := by decide +kernel
theorem dX2_init_44 : decode cX2_init 44 = .ok (.aload_n 0, 1) := by decide +kernel
theorem dX2_init_45 : decode cX2_init 45 = .ok (.iconst 3, 1) := by decide +kernel
theorem dX2_init_46 : decode cX2_init 46 = .ok (.putfield 37, 3) := by decide +kernel
theorem dX2_init_49 : decode cX2_init 49 = .ok (.aload_n 0, 1) := by decide +kernel
theorem dX2_init_50 : decode cX2_init 50 = .ok (.sipush 250, 3) := by decide +kernel
theorem dX2_init_53 : decode cX2_init 53 = .ok (.putfield 41, 3) := by decide +kernel
theorem dX2_init_56 : decode cX2_init 56 = .ok (.aload_n 0, 1) := by decide +kernel
theorem dX2_init_57 : decode cX2_init 57 = .ok (.bipush 120, 2) := by decide +kernel
theorem dX2_init_59 : decode cX2_init 59 = .ok (.putfield 44, 3) := by decide +kernel
theorem dX2_init_62 : decode cX2_init 62 = .ok (.iconst 0, 1) := by decide +kernel
theorem dX2_init_63 : decode cX2_init 63 = .ok (.istore_n 1, 1) := by decide +kernel
theorem dX2_init_64 : decode cX2_init 64 = .ok (.iload_n 1, 1) := by decide +kernel
theorem dX2_init_65 : decode cX2_init 65 = .ok (.bipush 8, 2) := by decide +kernel
theorem dX2_init_67 : decode cX2_init 67 = .ok (.if_icmp .ge 22, 3) := by decide +kernel
theorem dX2_init_70 : decode cX2_init 70 = .ok (.aload_n 0, 1) := by decide +kernel
theorem dX2_init_71 : decode cX2_init 71 = .ok (.getfield 20, 3) := by decide +kernel
theorem dX2_init_74 : decode cX2_init 74 = .ok (.iload_n 1, 1) := by decide +kernel
theorem dX2_init_75 : decode cX2_init 75 = .ok (.new 18, 3) := by decide +kernel
theorem dX2_init_78 : decode cX2_init 78 = .ok (.dup, 1) := by decide +kernel
theorem dX2_init_79 : decode cX2_init 79 = .ok (.invokespecial 47, 3) := by decide +kernel
theorem dX2_init_82 : decode cX2_init 82 = .ok (.aastore, 1) := by decide +kernel
theorem dX2_init_83 : decode cX2_init 83 = .ok (.iinc 1 1, 3) := by decide +kernel
theorem dX2_init_86 : decode cX2_init 86 = .ok (.goto (-22), 3) := by decide +kernel
theorem dX2_init_89 : decode cX2_init 89 = .ok (.iconst 0, 1) := by decide +kernel
theorem dX2_init_90 : decode cX2_init 90 = .ok (.istore_n 1, 1) := by decide +kernel
theorem dX2_init_91 : decode cX2_init 91 = .ok (.iload_n 1, 1) := by decide +kernel
theorem dX2_init_92 : decode cX2_init 92 = .ok (.bipush 16, 2) := by decide +kernel
theorem dX2_init_94 : decode cX2_init 94 = .ok (.if_icmp .ge 22, 3) := by decide +kernel
theorem dX2_init_97 : decode cX2_init 97 = .ok (.aload_n 0, 1) := by decide +kernel
theorem dX2_init_98 : decode cX2_init 98 = .ok (.getfield 26, 3) := by decide +kernel
theorem dX2_init_101 : decode cX2_init 101 = .ok (.iload_n 1, 1) := by decide +kernel
theorem dX2_init_102 : decode cX2_init 102 = .ok (.new 24, 3) := by decide +kernel
theorem dX2_init_105 : decode cX2_init 105 = .ok (.dup, 1) := by decide +kernel
theorem dX2_init_106 : decode cX2_init 106 = .ok (.invokespecial 48, 3) := by decide +kernel
theorem dX2_init_109 : decode cX2_init 109 = .ok (.aastore, 1) := by decide +kernel
theorem dX2_init_110 : decode cX2_init 110 = .ok (.iinc 1 1, 3) := by decide +kernel
theorem dX2_init_113 : decode cX2_init 113 = .ok (.goto (-22), 3) := by decide +kernel
theorem dX2_init_116 : decode cX2_init 116 = .ok (.return_, 1) := by decide +kernel
theorem dX2_copyFrom_0 : decode cX2_copyFrom 0 = .ok (.aload_n 0, 1) := by decide +kernel
theorem dX2_copyFrom_1 : decode cX2_copyFrom 1 = .ok (.getfield 12, 3) := by decide +kernel
theorem dX2_copyFrom_4 : decode cX2_copyFrom 4 = .ok (.aload_n 1, 1) := by decide +kernel
theorem dX2_copyFrom_5 : decode cX2_copyFrom 5 = .ok (.getfield 12, 3) := by decide +kernel
theorem dX2_copyFrom_8 : decode cX2_copyFrom 8 = .ok (.invokevirtual 49, 3) := by decide +kernel
theorem dX2_copyFrom_11 : decode cX2_copyFrom 11 = .ok (.iconst 0, 1) := by decide +kernel
theorem dX2_copyFrom_12 : decode cX2_copyFrom 12 = .ok (.istore_n 2, 1) := by decide +kernel
theorem dX2_copyFrom_13 : decode cX2_copyFrom 13 = .ok (.iload_n 2, 1) := by decide +kernel
theorem dX2_copyFrom_14 : decode cX2_copyFrom 14 = .ok (.aload_n 1, 1) := by decide +kernel
theorem dX2_copyFrom_15 : decode cX2_copyFrom 15 = .ok (.getfield 53, 3) := by decide +kernel
theorem dX2_copyFrom_18 : decode cX2_copyFrom 18 = .ok (.if_icmp .ge 24, 3) := by decide +kernel
theorem dX2_copyFrom_21 : decode cX2_copyFrom 21 = .ok (.aload_n 0, 1) := by decide +kernel
theorem dX2_copyFrom_22 : decode cX2_copyFrom 22 = .ok (.getfield 20, 3) := by decide +kernel
theorem dX2_copyFrom_25 : decode cX2_copyFrom 25 = .ok (.iload_n 2, 1) := by decide +kernel
theorem dX2_copyFrom_26 : decode cX2_copyFrom 26 = .ok (.aaload, 1) := by decide +kernel
theorem dX2_copyFrom_27 : decode cX2_copyFrom 27 = .ok (.aload_n 1, 1) := by decide +kernel
theorem dX2_copyFrom_28 : decode cX2_copyFrom 28 = .ok (.getfield 20, 3) := by decide +kernel
theorem dX2_copyFrom_31 : decode cX2_copyFrom 31 = .ok (.iload_n 2, 1) := by decide +kernel
theorem dX2_copyFrom_32 : decode cX2_copyFrom 32 = .ok (.aaload, 1) := by decide +kernel
theorem dX2_copyFrom_33 : decode cX2_copyFrom 33 = .ok (.invokevirtual 56, 3) := by decide +kernel
theorem dX2_copyFrom_36 : decode cX2_copyFrom 36 = .ok (.iinc 2 1, 3) := by decide +kernel
theorem dX2_copyFrom_39 : decode cX2_copyFrom 39 = .ok (.goto (-26), 3) := by decide +kernel
theorem dX2_copyFrom_42 : decode cX2_copyFrom 42 = .ok (.iconst 0, 1) := by decide +kernel
theorem dX2_copyFrom_43 : decode cX2_copyFrom 43 = .ok (.istore_n 2, 1) := by decide +kernel
theorem dX2_copyFrom_44 : decode cX2_copyFrom 44 = .ok (.iload_n 2, 1) := by decide +kernel
theorem dX2_copyFrom_45 : decode cX2_copyFrom 45 = .ok (.aload_n 1, 1) := by decide +kernel
theorem dX2_copyFrom_46 : decode cX2_copyFrom 46 = .ok (.getfield 59, 3) := by decide +kernel
theorem dX2_copyFrom_49 : decode cX2_copyFrom 49 = .ok (.if_icmp .ge 24, 3) := by decide +kernel
theorem dX2_copyFrom_52 : decode cX2_copyFrom 52 = .ok (.aload_n 0, 1) := by decide +kernel
theorem dX2_copyFrom_53 : decode cX2_copyFrom 53 = .ok (.getfield 26, 3) := by decide +kernel
theorem dX2_copyFrom_56 : decode cX2_copyFrom 56 = .ok (.iload_n 2, 1) := by decide +kernel
theorem dX2_copyFrom_57 : decode cX2_copyFrom 57 = .ok (.aaload, 1) := by decide +kernel
theorem dX2_copyFrom_58 : decode cX2_copyFrom 58 = .ok (.aload_n 1, 1) := by decide +kernel
theorem dX2_copyFrom_59 : decode cX2_copyFrom 59 = .ok (.getfield 26, 3) := by decide +kernel
theorem dX2_copyFrom_62 : decode cX2_copyFrom 62 = .ok (.iload_n 2, 1) := by decide +kernel
theorem dX2_copyFrom_63 : decode cX2_copyFrom 63 = .ok (.aaload, 1) := by decide +kernel
theorem dX2_copyFrom_64 : decode cX2_copyFrom 64 = .ok (.invokevirtual 62, 3) := by decide +kernel
theorem dX2_copyFrom_67 : decode cX2_copyFrom 67 = .ok (.iinc 2 1, 3) := by decide +kernel
theorem dX2_copyFrom_70 : decode cX2_copyFrom 70 = .ok (.goto (-26), 3) := by decide +kernel
theorem dX2_copyFrom_73 : decode cX2_copyFrom 73 = .ok (.aload_n 0, 1) := by decide +kernel
theorem dX2_copyFrom_74 : decode cX2_copyFrom 74 = .ok (.getfield 33, 3) := by decide +kernel
theorem dX2_copyFrom_77 : decode cX2_copyFrom 77 = .ok (.aload_n 1, 1) := by decide +kernel
theorem dX2_copyFrom_78 : decode cX2_copyFrom 78 = .ok (.getfield 33, 3) := by decide +kernel
theorem dX2_copyFrom_81 : decode cX2_copyFrom 81 = .ok (.invokevirtual 65, 3) := by decide +kernel
theorem dX2_copyFrom_84 : decode cX2_copyFrom 84 = .ok (.aload_n 0, 1) := by decide +kernel
theorem dX2_copyFrom_85 : decode cX2_copyFrom 85 = .ok (.aload_n 1, 1) := by decide +kernel
theorem dX2_copyFrom_86 : decode cX2_copyFrom 86 = .ok (.getfield 53, 3) := by decide +kernel
theorem dX2_copyFrom_89 : decode cX2_copyFrom 89 = .ok (.putfield 53, 3) := by decide +kernel
theorem dX2_copyFrom_92 : decode cX2_copyFrom 92 = .ok (.aload_n 0, 1) := by decide +kernel
theorem dX2_copyFrom_93 : decode cX2_copyFrom 93 = .ok (.aload_n 1, 1) := by decide +kernel
theorem dX2_copyFrom_94 : decode cX2_copyFrom 94 = .ok (.getfield 59, 3) := by decide +kernel
theorem dX2_copyFrom_97 : decode cX2_copyFrom 97 = .ok (.putfield 59, 3) := by decide +kernel
theorem dX2_copyFrom_100 : decode cX2_copyFrom 100 = .ok (.aload_n 0, 1) := by decide +kernel
theorem dX2_copyFrom_101 : decode cX2_copyFrom 101 = .ok (.aload_n 1, 1) := by decide +kernel
theorem dX2_copyFrom_102 : decode cX2_copyFrom 102 = .ok (.getfield 68, 3) := by decide +kernel
theorem dX2_copyFrom_105 : decode cX2_copyFrom 105 = .ok (.putfield 68, 3) := by decide +kernel
theorem dX2_copyFrom_108 : decode cX2_copyFrom 108 = .ok (.aload_n 0, 1) := by decide +kernel
theorem dX2_copyFrom_109 : decode cX2_copyFrom 109 = .ok (.aload_n 1, 1) := by decide +kernel
theorem dX2_copyFrom_110 : decode cX2_copyFrom 110 = .ok (.getfield 37, 3) := by decide +kernel
theorem dX2_copyFrom_113 : decode cX2_copyFrom 113 = .ok (.putfield 37, 3) := by decide +kernel
theorem dX2_copyFrom_116 : decode cX2_copyFrom 116 = .ok (.aload_n 0, 1) := by decide +kernel
theorem dX2_copyFrom_117 : decode cX2_copyFrom 117 = .ok (.aload_n 1, 1) := by decide +kernel
theorem dX2_copyFrom_118 : decode cX2_copyFrom 118 = .ok (.getfield 41, 3) := by decide +kernel
theorem dX2_copyFrom_121 : decode cX2_copyFrom 121 = .ok (.putfield 41, 3) := by decide +kernel
theorem dX2_copyFrom_124 : decode cX2_copyFrom 124 = .ok (.aload_n 0, 1) := by decide +kernel
theorem dX2_copyFrom_125 : decode cX2_copyFrom 125 = .ok (.aload_n 1, 1) := by decide +kernel
theorem dX2_copyFrom_126 : decode cX2_copyFrom 126 = .ok (.getfield 44, 3) := by decide +kernel
theorem dX2_copyFrom_129 : decode cX2_copyFrom 129 = .ok (.putfield 44, 3) := by decide +kernel
theorem dX2_copyFrom_132 : decode cX2_copyFrom 132 = .ok (.aload_n 0, 1) := by decide +kernel
theorem dX2_copyFrom_133 : decode cX2_copyFrom 133 = .ok (.aload_n 1, 1) := by decide +kernel
theorem dX2_copyFrom_134 : decode cX2_copyFrom 134 = .ok (.getfield 71, 3) := by decide +kernel
theorem dX2_copyFrom_137 : decode cX2_copyFrom 137 = .ok (.putfield 71, 3) := by decide +kernel
theorem dX2_copyFrom_140 : decode cX2_copyFrom 140 = .ok (.return_, 1) := by decide +kernel
theorem dX2_hasAccount_0 : decode cX2_hasAccount 0 = .ok (.iload_n 1, 1) := by decide +kernel
theorem dX2_hasAccount_1 : decode cX2_hasAccount 1 = .ok (.ifCond .lt 15, 3) := by decide +kernel
theorem dX2_hasAccount_4 : decode cX2_hasAccount 4 = .ok (.iload_n 1, 1) := by decide +kernel
theorem dX2_hasAccount_5 : decode cX2_hasAccount 5 = .ok (.aload_n 0, 1) := by decide +kernel
theorem dX2_hasAccount_6 : decode cX2_hasAccount 6 = .ok (.getfield 53, 3) := by decide +kernel
theorem dX2_hasAccount_9 : decode cX2_hasAccount 9 = .ok (.if_icmp .ge 7, 3) := by decide +kernel
theorem dX2_hasAccount_12 : decode cX2_hasAccount 12 = .ok (.iconst 1, 1) := by decide +kernel
theorem dX2_hasAccount_13 : decode cX2_hasAccount 13 = .ok (.goto 4, 3) := by decide +kernel
theorem dX2_hasAccount_16 : decode cX2_hasAccount 16 = .ok (.iconst 0, 1) := by decide +kernel
theorem dX2_hasAccount_17 : decode cX2_hasAccount 17 = .ok (.ireturn, 1) := by decide +kernel
theorem dX2_hasOrder_0 : decode cX2_hasOrder 0 = .ok (.iload_n 1, 1) := by decide +kernel
theorem dX2_hasOrder_1 : decode cX2_hasOrder 1 = .ok (.ifCond .lt 15, 3) := by decide +kernel
theorem dX2_hasOrder_4 : decode cX2_hasOrder 4 = .ok (.iload_n 1, 1) := by decide +kernel
theorem dX2_hasOrder_5 : decode cX2_hasOrder 5 = .ok (.aload_n 0, 1) := by decide +kernel
theorem dX2_hasOrder_6 : decode cX2_hasOrder 6 = .ok (.getfield 59, 3) := by decide +kernel
theorem dX2_hasOrder_9 : decode cX2_hasOrder 9 = .ok (.if_icmp .ge 7, 3) := by decide +kernel
theorem dX2_hasOrder_12 : decode cX2_hasOrder 12 = .ok (.iconst 1, 1) := by decide +kernel
theorem dX2_hasOrder_13 : decode cX2_hasOrder 13 = .ok (.goto 4, 3) := by decide +kernel
theorem dX2_hasOrder_16 : decode cX2_hasOrder 16 = .ok (.iconst 0, 1) := by decide +kernel
theorem dX2_hasOrder_17 : decode cX2_hasOrder 17 = .ok (.ireturn, 1) := by decide +kernel
theorem dX2_settingOf_0 : decode cX2_settingOf 0 = .ok (.iload_n 1, 1) := by decide +kernel
theorem dX2_settingOf_1 : decode cX2_settingOf 1 = .ok (.tableswitch 42 0 2 #[27, 32, 37], 27) := by decide +kernel
theorem dX2_settingOf_28 : decode cX2_settingOf 28 = .ok (.aload_n 0, 1) := by decide +kernel
theorem dX2_settingOf_29 : decode cX2_settingOf 29 = .ok (.getfield 37, 3) := by decide +kernel
theorem dX2_settingOf_32 : decode cX2_settingOf 32 = .ok (.ireturn, 1) := by decide +kernel
theorem dX2_settingOf_33 : decode cX2_settingOf 33 = .ok (.aload_n 0, 1) := by decide +kernel
theorem dX2_settingOf_34 : decode cX2_settingOf 34 = .ok (.getfield 41, 3) := by decide +kernel
theorem dX2_settingOf_37 : decode cX2_settingOf 37 = .ok (.ireturn, 1) := by decide +kernel
theorem dX2_settingOf_38 : decode cX2_settingOf 38 = .ok (.aload_n 0, 1) := by decide +kernel
theorem dX2_settingOf_39 : decode cX2_settingOf 39 = .ok (.getfield 44, 3) := by decide +kernel
theorem dX2_settingOf_42 : decode cX2_settingOf 42 = .ok (.ireturn, 1) := by decide +kernel
theorem dX2_settingOf_43 : decode cX2_settingOf 43 = .ok (.aload_n 0, 1) := by decide +kernel
theorem dX2_settingOf_44 : decode cX2_settingOf 44 = .ok (.getfield 12, 3) := by decide +kernel
theorem dX2_settingOf_47 : decode cX2_settingOf 47 = .ok (.getfield 74, 3) := by decide +kernel
theorem dX2_settingOf_50 : decode cX2_settingOf 50 = .ok (.ireturn, 1) := by decide +kernel
theorem dX2_replaceSetting_0 : decode cX2_replaceSetting 0 = .ok (.iload_n 1, 1) := by decide +kernel
theorem dX2_replaceSetting_1 : decode cX2_replaceSetting 1 = .ok (.iconst 0, 1) := by decide +kernel
theorem dX2_replaceSetting_2 : decode cX2_replaceSetting 2 = .ok (.iconst 3, 1) := by decide +kernel
theorem dX2_replaceSetting_3 : decode cX2_replaceSetting 3 = .ok (.invokestatic 77, 3) := by decide +kernel
theorem dX2_replaceSetting_6 : decode cX2_replaceSetting 6 = .ok (.ifCond .ne 6, 3) := by decide +kernel
theorem dX2_replaceSetting_9 : decode cX2_replaceSetting 9 = .ok (.bipush (-2), 2) := by decide +kernel
theorem dX2_replaceSetting_11 : decode cX2_replaceSetting 11 = .ok (.ireturn, 1) := by decide +kernel
theorem dX2_replaceSetting_12 : decode cX2_replaceSetting 12 = .ok (.iload_n 2, 1) := by decide +kernel
theorem dX2_replaceSetting_13 : decode cX2_replaceSetting 13 = .ok (.getstatic 81, 3) := by decide +kernel
theorem dX2_replaceSetting_16 : decode cX2_replaceSetting 16 = .ok (.iload_n 1, 1) := by decide +kernel
theorem dX2_replaceSetting_17 : decode cX2_replaceSetting 17 = .ok (.iaload, 1) := by decide +kernel
theorem dX2_replaceSetting_18 : decode cX2_replaceSetting 18 = .ok (.getstatic 85, 3) := by decide +kernel
theorem dX2_replaceSetting_21 : decode cX2_replaceSetting 21 = .ok (.iload_n 1, 1) := by decide +kernel
theorem dX2_replaceSetting_22 : decode cX2_replaceSetting 22 = .ok (.iaload, 1) := by decide +kernel
theorem dX2_replaceSetting_23 : decode cX2_replaceSetting 23 = .ok (.invokestatic 77, 3) := by decide +kernel
theorem dX2_replaceSetting_26 : decode cX2_replaceSetting 26 = .ok (.ifCond .ne 6, 3) := by decide +kernel
theorem dX2_replaceSetting_29 : decode cX2_replaceSetting 29 = .ok (.bipush (-2), 2) := by decide +kernel
theorem dX2_replaceSetting_31 : decode cX2_replaceSetting 31 = .ok (.ireturn, 1) := by decide +kernel
theorem dX2_replaceSetting_32 : decode cX2_replaceSetting 32 = .ok (.aload_n 0, 1) := by decide +kernel
theorem dX2_replaceSetting_33 : decode cX2_replaceSetting 33 = .ok (.iload_n 1, 1) := by decide +kernel
theorem dX2_replaceSetting_34 : decode cX2_replaceSetting 34 = .ok (.invokevirtual 88, 3) := by decide +kernel
theorem dX2_replaceSetting_37 : decode cX2_replaceSetting 37 = .ok (.istore_n 3, 1) := by decide +kernel
theorem dX2_replaceSetting_38 : decode cX2_replaceSetting 38 = .ok (.iload_n 1, 1) := by decide +kernel
theorem dX2_replaceSetting_39 : decode cX2_replaceSetting 39 = .ok (.tableswitch 49 0 2 #[25, 33, 41], 25) := by decide +kernel
theorem dX2_replaceSetting_64 : decode cX2_replaceSetting 64 = .ok (.aload_n 0, 1) := by decide +kernel
theorem dX2_replaceSetting_65 : decode cX2_replaceSetting 65 = .ok (.iload_n 2, 1) := by decide +kernel
theorem dX2_replaceSetting_66 : decode cX2_replaceSetting 66 = .ok (.putfield 37, 3) := by decide +kernel
theorem dX2_replaceSetting_69 : decode cX2_replaceSetting 69 = .ok (.goto 27, 3) := by decide +kernel
theorem dX2_replaceSetting_72 : decode cX2_replaceSetting 72 = .ok (.aload_n 0, 1) := by decide +kernel
theorem dX2_replaceSetting_73 : decode cX2_replaceSetting 73 = .ok (.iload_n 2, 1) := by decide +kernel
theorem dX2_replaceSetting_74 : decode cX2_replaceSetting 74 = .ok (.putfield 41, 3) := by decide +kernel
theorem dX2_replaceSetting_77 : decode cX2_replaceSetting 77 = .ok (.goto 19, 3) := by decide +kernel
theorem dX2_replaceSetting_80 : decode cX2_replaceSetting 80 = .ok (.aload_n 0, 1) := by decide +kernel
theorem dX2_replaceSetting_81 : decode cX2_replaceSetting 81 = .ok (.iload_n 2, 1) := by decide +kernel
theorem dX2_replaceSetting_82 : decode cX2_replaceSetting 82 = .ok (.putfield 44, 3) := by decide +kernel
theorem dX2_replaceSetting_85 : decode cX2_replaceSetting 85 = .ok (.goto 11, 3) := by decide +kernel
theorem dX2_replaceSetting_88 : decode cX2_replaceSetting 88 = .ok (.aload_n 0, 1) := by decide +kernel
theorem dX2_replaceSetting_89 : decode cX2_replaceSetting 89 = .ok (.getfield 12, 3) := by decide +kernel
theorem dX2_replaceSetting_92 : decode cX2_replaceSetting 92 = .ok (.iload_n 2, 1) := by decide +kernel
theorem dX2_replaceSetting_93 : decode cX2_replaceSetting 93 = .ok (.putfield 74, 3) := by decide +kernel
theorem dX2_replaceSetting_96 : decode cX2_replaceSetting 96 = .ok (.iload_n 3, 1) := by decide +kernel
theorem dX2_replaceSetting_97 : decode cX2_replaceSetting 97 = .ok (.ireturn, 1) := by decide +kernel
theorem dX2_addAccount_0 : decode cX2_addAccount 0 = .ok (.iload_n 1, 1) := by decide +kernel
theorem dX2_addAccount_1 : decode cX2_addAccount 1 = .ok (.iconst 0, 1) := by decide +kernel
theorem dX2_addAccount_2 : decode cX2_addAccount 2 = .ok (.ldc 92, 2) := by decide +kernel
theorem dX2_addAccount_4 : decode cX2_addAccount 4 = .ok (.invokestatic 77, 3) := by decide +kernel
theorem dX2_addAccount_7 : decode cX2_addAccount 7 = .ok (.ifCond .eq 13, 3) := by decide +kernel
theorem dX2_addAccount_10 : decode cX2_addAccount 10 = .ok (.iload_n 2, 1) := by decide +kernel
theorem dX2_addAccount_11 : decode cX2_addAccount 11 = .ok (.iconst 0, 1) := by decide +kernel
theorem dX2_addAccount_12 : decode cX2_addAccount 12 = .ok (.ldc 92, 2) := by decide +kernel
theorem dX2_addAccount_14 : decode cX2_addAccount 14 = .ok (.invokestatic 77, 3) := by decide +kernel
theorem dX2_addAccount_17 : decode cX2_addAccount 17 = .ok (.ifCond .ne 6, 3) := by decide +kernel
theorem dX2_addAccount_20 : decode cX2_addAccount 20 = .ok (.bipush (-2), 2) := by decide +kernel
theorem dX2_addAccount_22 : decode cX2_addAccount 22 = .ok (.ireturn, 1) := by decide +kernel
theorem dX2_addAccount_23 : decode cX2_addAccount 23 = .ok (.aload_n 0, 1) := by decide +kernel
theorem dX2_addAccount_24 : decode cX2_addAccount 24 = .ok (.getfield 53, 3) := by decide +kernel
theorem dX2_addAccount_27 : decode cX2_addAccount 27 = .ok (.bipush 8, 2) := by decide +kernel
theorem dX2_addAccount_29 : decode cX2_addAccount 29 = .ok (.if_icmp .lt 6, 3) := by decide +kernel
theorem dX2_addAccount_32 : decode cX2_addAccount 32 = .ok (.bipush (-4), 2) := by decide +kernel
theorem dX2_addAccount_34 : decode cX2_addAccount 34 = .ok (.ireturn, 1) := by decide +kernel
theorem dX2_addAccount_35 : decode cX2_addAccount 35 = .ok (.aload_n 0, 1) := by decide +kernel
theorem dX2_addAccount_36 : decode cX2_addAccount 36 = .ok (.getfield 20, 3) := by decide +kernel
theorem dX2_addAccount_39 : decode cX2_addAccount 39 = .ok (.aload_n 0, 1) := by decide +kernel
theorem dX2_addAccount_40 : decode cX2_addAccount 40 = .ok (.getfield 53, 3) := by decide +kernel
theorem dX2_addAccount_43 : decode cX2_addAccount 43 = .ok (.aaload, 1) := by decide +kernel
theorem dX2_addAccount_44 : decode cX2_addAccount 44 = .ok (.iload_n 1, 1) := by decide +kernel
theorem dX2_addAccount_45 : decode cX2_addAccount 45 = .ok (.iload_n 2, 1) := by decide +kernel
theorem dX2_addAccount_46 : decode cX2_addAccount 46 = .ok (.invokevirtual 93, 3) := by decide +kernel
theorem dX2_addAccount_49 : decode cX2_addAccount 49 = .ok (.aload_n 0, 1) := by decide +kernel
theorem dX2_addAccount_50 : decode cX2_addAccount 50 = .ok (.dup, 1) := by decide +kernel
theorem dX2_addAccount_51 : decode cX2_addAccount 51 = .ok (.getfield 53, 3) := by decide +kernel
theorem dX2_addAccount_54 : decode cX2_addAccount 54 = .ok (.iconst 1, 1) := by decide +kernel
theorem dX2_addAccount_55 : decode cX2_addAccount 55 = .ok (.iadd, 1) := by decide +kernel
theorem dX2_addAccount_56 : decode cX2_addAccount 56 = .ok (.putfield 53, 3) := by decide +kernel
theorem dX2_addAccount_59 : decode cX2_addAccount 59 = .ok (.aload_n 0, 1) := by decide +kernel
theorem dX2_addAccount_60 : decode cX2_addAccount 60 = .ok (.getfield 53, 3) := by decide +kernel
theorem dX2_addAccount_63 : decode cX2_addAccount 63 = .ok (.iconst 1, 1) := by decide +kernel
theorem dX2_addAccount_64 : decode cX2_addAccount 64 = .ok (.isub, 1) := by decide +kernel
theorem dX2_addAccount_65 : decode cX2_addAccount 65 = .ok (.ireturn, 1) := by decide +kernel
theorem dX2_nameFeeder_0 : decode cX2_nameFeeder 0 = .ok (.aload_n 0, 1) := by decide +kernel
theorem dX2_nameFeeder_1 : decode cX2_nameFeeder 1 = .ok (.iload_n 1, 1) := by decide +kernel
theorem dX2_nameFeeder_2 : decode cX2_nameFeeder 2 = .ok (.invokevirtual 97, 3) := by decide +kernel
theorem dX2_nameFeeder_5 : decode cX2_nameFeeder 5 = .ok (.ifCond .ne 5, 3) := by decide +kernel
theorem dX2_nameFeeder_8 : decode cX2_nameFeeder 8 = .ok (.iconst (-1), 1) := by decide +kernel
theorem dX2_nameFeeder_9 : decode cX2_nameFeeder 9 = .ok (.ireturn, 1) := by decide +kernel
theorem dX2_nameFeeder_10 : decode cX2_nameFeeder 10 = .ok (.iload_n 2, 1) := by decide +kernel
theorem dX2_nameFeeder_11 : decode cX2_nameFeeder 11 = .ok (.bipush (-6), 2) := by decide +kernel
theorem dX2_nameFeeder_13 : decode cX2_nameFeeder 13 = .ok (.if_icmp .eq 18, 3) := by decide +kernel
theorem dX2_nameFeeder_16 : decode cX2_nameFeeder 16 = .ok (.iload_n 2, 1) := by decide +kernel
theorem dX2_nameFeeder_17 : decode cX2_nameFeeder 17 = .ok (.iload_n 1, 1) := by decide +kernel
theorem dX2_nameFeeder_18 : decode cX2_nameFeeder 18 = .ok (.if_icmp .eq 11, 3) := by decide +kernel
theorem dX2_nameFeeder_21 : decode cX2_nameFeeder 21 = .ok (.aload_n 0, 1) := by decide +kernel
theorem dX2_nameFeeder_22 : decode cX2_nameFeeder 22 = .ok (.iload_n 2, 1) := by decide +kernel
theorem dX2_nameFeeder_23 : decode cX2_nameFeeder 23 = .ok (.invokevirtual 97, 3) := by decide +kernel
theorem dX2_nameFeeder_26 : decode cX2_nameFeeder 26 = .ok (.ifCond .ne 5, 3) := by decide +kernel
theorem dX2_nameFeeder_29 : decode cX2_nameFeeder 29 = .ok (.iconst (-1), 1) := by decide +kernel
theorem dX2_nameFeeder_30 : decode cX2_nameFeeder 30 = .ok (.ireturn, 1) := by decide +kernel
theorem dX2_nameFeeder_31 : decode cX2_nameFeeder 31 = .ok (.aload_n 0, 1) := by decide +kernel
theorem dX2_nameFeeder_32 : decode cX2_nameFeeder 32 = .ok (.getfield 20, 3) := by decide +kernel
theorem dX2_nameFeeder_35 : decode cX2_nameFeeder 35 = .ok (.iload_n 1, 1) := by decide +kernel
theorem dX2_nameFeeder_36 : decode cX2_nameFeeder 36 = .ok (.aaload, 1) := by decide +kernel
theorem dX2_nameFeeder_37 : decode cX2_nameFeeder 37 = .ok (.getfield 101, 3) := by decide +kernel
theorem dX2_nameFeeder_40 : decode cX2_nameFeeder 40 = .ok (.istore_n 3, 1) := by decide +kernel
theorem dX2_nameFeeder_41 : decode cX2_nameFeeder 41 = .ok (.aload_n 0, 1) := by decide +kernel
theorem dX2_nameFeeder_42 : decode cX2_nameFeeder 42 = .ok (.getfield 20, 3) := by decide +kernel
theorem dX2_nameFeeder_45 : decode cX2_nameFeeder 45 = .ok (.iload_n 1, 1) := by decide +kernel
theorem dX2_nameFeeder_46 : decode cX2_nameFeeder 46 = .ok (.aaload, 1) := by decide +kernel
theorem dX2_nameFeeder_47 : decode cX2_nameFeeder 47 = .ok (.iload_n 2, 1) := by decide +kernel
theorem dX2_nameFeeder_48 : decode cX2_nameFeeder 48 = .ok (.putfield 101, 3) := by decide +kernel
theorem dX2_nameFeeder_51 : decode cX2_nameFeeder 51 = .ok (.iload_n 3, 1) := by decide +kernel
theorem dX2_nameFeeder_52 : decode cX2_nameFeeder 52 = .ok (.ireturn, 1) := by decide +kernel
theorem dX2_payIn_0 : decode cX2_payIn 0 = .ok (.aload_n 0, 1) := by decide +kernel
theorem dX2_payIn_1 : decode cX2_payIn 1 = .ok (.iload_n 1, 1) := by decide +kernel
theorem dX2_payIn_2 : decode cX2_payIn 2 = .ok (.invokevirtual 97, 3) := by decide +kernel
theorem dX2_payIn_5 : decode cX2_payIn 5 = .ok (.ifCond .ne 5, 3) := by decide +kernel
theorem dX2_payIn_8 : decode cX2_payIn 8 = .ok (.iconst (-1), 1) := by decide +kernel
theorem dX2_payIn_9 : decode cX2_payIn 9 = .ok (.ireturn, 1) := by decide +kernel
theorem dX2_payIn_10 : decode cX2_payIn 10 = .ok (.iload_n 2, 1) := by decide +kernel
theorem dX2_payIn_11 : decode cX2_payIn 11 = .ok (.iconst 1, 1) := by decide +kernel
theorem dX2_payIn_12 : decode cX2_payIn 12 = .ok (.ldc 104, 2) := by decide +kernel
theorem dX2_payIn_14 : decode cX2_payIn 14 = .ok (.invokestatic 77, 3) := by decide +kernel
theorem dX2_payIn_17 : decode cX2_payIn 17 = .ok (.ifCond .ne 6, 3) := by decide +kernel
theorem dX2_payIn_20 : decode cX2_payIn 20 = .ok (.bipush (-2), 2) := by decide +kernel
theorem dX2_payIn_22 : decode cX2_payIn 22 = .ok (.ireturn, 1) := by decide +kernel
theorem dX2_payIn_23 : decode cX2_payIn 23 = .ok (.aload_n 0, 1) := by decide +kernel
theorem dX2_payIn_24 : decode cX2_payIn 24 = .ok (.getfield 20, 3) := by decide +kernel
theorem dX2_payIn_27 : decode cX2_payIn 27 = .ok (.iload_n 1, 1) := by decide +kernel
theorem dX2_payIn_28 : decode cX2_payIn 28 = .ok (.aaload, 1) := by decide +kernel
theorem dX2_payIn_29 : decode cX2_payIn 29 = .ok (.dup, 1) := by decide +kernel
theorem dX2_payIn_30 : decode cX2_payIn 30 = .ok (.getfield 105, 3) := by decide +kernel
theorem dX2_payIn_33 : decode cX2_payIn 33 = .ok (.iload_n 2, 1) := by decide +kernel
theorem dX2_payIn_34 : decode cX2_payIn 34 = .ok (.i2l, 1) := by decide +kernel
theorem dX2_payIn_35 : decode cX2_payIn 35 = .ok (.ladd, 1) := by decide +kernel
theorem dX2_payIn_36 : decode cX2_payIn 36 = .ok (.putfield 105, 3) := by decide +kernel
theorem dX2_payIn_39 : decode cX2_payIn 39 = .ok (.aload_n 0, 1) := by decide +kernel
theorem dX2_payIn_40 : decode cX2_payIn 40 = .ok (.getfield 20, 3) := by decide +kernel
theorem dX2_payIn_43 : decode cX2_payIn 43 = .ok (.iload_n 1, 1) := by decide +kernel
theorem dX2_payIn_44 : decode cX2_payIn 44 = .ok (.aaload, 1) := by decide +kernel
theorem dX2_payIn_45 : decode cX2_payIn 45 = .ok (.dup, 1) := by decide +kernel
theorem dX2_payIn_46 : decode cX2_payIn 46 = .ok (.getfield 109, 3) := by decide +kernel
theorem dX2_payIn_49 : decode cX2_payIn 49 = .ok (.iload_n 2, 1) := by decide +kernel
theorem dX2_payIn_50 : decode cX2_payIn 50 = .ok (.i2l, 1) := by decide +kernel
theorem dX2_payIn_51 : decode cX2_payIn 51 = .ok (.ladd, 1) := by decide +kernel
theorem dX2_payIn_52 : decode cX2_payIn 52 = .ok (.putfield 109, 3) := by decide +kernel
theorem dX2_payIn_55 : decode cX2_payIn 55 = .ok (.aload_n 0, 1) := by decide +kernel
theorem dX2_payIn_56 : decode cX2_payIn 56 = .ok (.getfield 20, 3) := by decide +kernel
theorem dX2_payIn_59 : decode cX2_payIn 59 = .ok (.iload_n 1, 1) := by decide +kernel
theorem dX2_payIn_60 : decode cX2_payIn 60 = .ok (.aaload, 1) := by decide +kernel
theorem dX2_payIn_61 : decode cX2_payIn 61 = .ok (.getfield 105, 3) := by decide +kernel
theorem dX2_payIn_64 : decode cX2_payIn 64 = .ok (.lconst 0, 1) := by decide +kernel
theorem dX2_payIn_65 : decode cX2_payIn 65 = .ok (.lcmp, 1) := by decide +kernel
theorem dX2_payIn_66 : decode cX2_payIn 66 = .ok (.ifCond .lt 7, 3) := by decide +kernel
theorem dX2_payIn_69 : decode cX2_payIn 69 = .ok (.iconst 1, 1) := by decide +kernel
theorem dX2_payIn_70 : decode cX2_payIn 70 = .ok (.goto 4, 3) := by decide +kernel
theorem dX2_payIn_73 : decode cX2_payIn 73 = .ok (.iconst 0, 1) := by decide +kernel
theorem dX2_payIn_74 : decode cX2_payIn 74 = .ok (.ireturn, 1) := by decide +kernel
theorem dX2_addOrder_0 : decode cX2_addOrder 0 = .ok (.iload_n 1, 1) := by decide +kernel
theorem dX2_addOrder_1 : decode cX2_addOrder 1 = .ok (.ifCond .lt 14, 3) := by decide +kernel
theorem dX2_addOrder_4 : decode cX2_addOrder 4 = .ok (.aload_n 0, 1) := by decide +kernel
theorem dX2_addOrder_5 : decode cX2_addOrder 5 = .ok (.iload_n 1, 1) := by decide +kernel
theorem dX2_addOrder_6 : decode cX2_addOrder 6 = .ok (.bipush 9, 2) := by decide +kernel
theorem dX2_addOrder_8 : decode cX2_addOrder 8 = .ok (.idiv, 1) := by decide +kernel
theorem dX2_addOrder_9 : decode cX2_addOrder 9 = .ok (.invokevirtual 97, 3) := by decide +kernel
theorem dX2_addOrder_12 : decode cX2_addOrder 12 = .ok (.ifCond .ne 5, 3) := by decide +kernel
theorem dX2_addOrder_15 : decode cX2_addOrder 15 = .ok (.iconst (-1), 1) := by decide +kernel
theorem dX2_addOrder_16 : decode cX2_addOrder 16 = .ok (.ireturn, 1) := by decide +kernel
theorem dX2_addOrder_17 : decode cX2_addOrder 17 = .ok (.iload_n 1, 1) := by decide +kernel
theorem dX2_addOrder_18 : decode cX2_addOrder 18 = .ok (.bipush 9, 2) := by decide +kernel
theorem dX2_addOrder_20 : decode cX2_addOrder 20 = .ok (.irem, 1) := by decide +kernel
theorem dX2_addOrder_21 : decode cX2_addOrder 21 = .ok (.istore 7, 2) := by decide +kernel
theorem dX2_addOrder_23 : decode cX2_addOrder 23 = .ok (.iload 7, 2) := by decide +kernel
theorem dX2_addOrder_25 : decode cX2_addOrder 25 = .ok (.iload_n 1, 1) := by decide +kernel
theorem dX2_addOrder_26 : decode cX2_addOrder 26 = .ok (.bipush 9, 2) := by decide +kernel
theorem dX2_addOrder_28 : decode cX2_addOrder 28 = .ok (.idiv, 1) := by decide +kernel
theorem dX2_addOrder_29 : decode cX2_addOrder 29 = .ok (.if_icmp .eq 19, 3) := by decide +kernel
theorem dX2_addOrder_32 : decode cX2_addOrder 32 = .ok (.iload 7, 2) := by decide +kernel
theorem dX2_addOrder_34 : decode cX2_addOrder 34 = .ok (.bipush 8, 2) := by decide +kernel
theorem dX2_addOrder_36 : decode cX2_addOrder 36 = .ok (.if_icmp .eq 14, 3) := by decide +kernel
theorem dX2_addOrder_39 : decode cX2_addOrder 39 = .ok (.aload_n 0, 1) := by decide +kernel
theorem dX2_addOrder_40 : decode cX2_addOrder 40 = .ok (.iload 7, 2) := by decide +kernel
theorem dX2_addOrder_42 : decode cX2_addOrder 42 = .ok (.invokevirtual 97, 3) := by decide +kernel
theorem dX2_addOrder_45 : decode cX2_addOrder 45 = .ok (.ifCond .ne 5, 3) := by decide +kernel
theorem dX2_addOrder_48 : decode cX2_addOrder 48 = .ok (.iconst (-1), 1) := by decide +kernel
theorem dX2_addOrder_49 : decode cX2_addOrder 49 = .ok (.ireturn, 1) := by decide +kernel
theorem dX2_addOrder_50 : decode cX2_addOrder 50 = .ok (.iload_n 2, 1) := by decide +kernel
theorem dX2_addOrder_51 : decode cX2_addOrder 51 = .ok (.iconst 1, 1) := by decide +kernel
theorem dX2_addOrder_52 : decode cX2_addOrder 52 = .ok (.ldc 92, 2) := by decide +kernel
theorem dX2_addOrder_54 : decode cX2_addOrder 54 = .ok (.invokestatic 77, 3) := by decide +kernel
theorem dX2_addOrder_57 : decode cX2_addOrder 57 = .ok (.ifCond .eq 10, 3) := by decide +kernel
theorem dX2_addOrder_60 : decode cX2_addOrder 60 = .ok (.iload_n 3, 1) := by decide +kernel
theorem dX2_addOrder_61 : decode cX2_addOrder 61 = .ok (.invokestatic 112, 3) := by decide +kernel
theorem dX2_addOrder_64 : decode cX2_addOrder 64 = .ok (.ifCond .ne 6, 3) := by decide +kernel
theorem dX2_addOrder_67 : decode cX2_addOrder 67 = .ok (.bipush (-2), 2) := by decide +kernel
theorem dX2_addOrder_69 : decode cX2_addOrder 69 = .ok (.ireturn, 1) := by decide +kernel
theorem dX2_addOrder_70 : decode cX2_addOrder 70 = .ok (.iload 4, 2) := by decide +kernel
theorem dX2_addOrder_72 : decode cX2_addOrder 72 = .ok (.aload_n 0, 1) := by decide +kernel
theorem dX2_addOrder_73 : decode cX2_addOrder 73 = .ok (.getfield 68, 3) := by decide +kernel
theorem dX2_addOrder_76 : decode cX2_addOrder 76 = .ok (.sipush 1094, 3) := by decide +kernel
theorem dX2_addOrder_79 : decode cX2_addOrder 79 = .ok (.invokestatic 77, 3) := by decide +kernel
theorem dX2_addOrder_82 : decode cX2_addOrder 82 = .ok (.ifCond .ne 6, 3) := by decide +kernel
theorem dX2_addOrder_85 : decode cX2_addOrder 85 = .ok (.bipush (-2), 2) := by decide +kernel
theorem dX2_addOrder_87 : decode cX2_addOrder 87 = .ok (.ireturn, 1) := by decide +kernel
theorem dX2_addOrder_88 : decode cX2_addOrder 88 = .ok (.iload 5, 2) := by decide +kernel
theorem dX2_addOrder_90 : decode cX2_addOrder 90 = .ok (.iconst 0, 1) := by decide +kernel
theorem dX2_addOrder_91 : decode cX2_addOrder 91 = .ok (.bipush 49, 2) := by decide +kernel
theorem dX2_addOrder_93 : decode cX2_addOrder 93 = .ok (.invokestatic 77, 3) := by decide +kernel
theorem dX2_addOrder_96 : decode cX2_addOrder 96 = .ok (.ifCond .eq 14, 3) := by decide +kernel
theorem dX2_addOrder_99 : decode cX2_addOrder 99 = .ok (.iload 6, 2) := by decide +kernel
theorem dX2_addOrder_101 : decode cX2_addOrder 101 = .ok (.iconst 0, 1) := by decide +kernel
theorem dX2_addOrder_102 : decode cX2_addOrder 102 = .ok (.bipush 99, 2) := by decide +kernel
theorem dX2_addOrder_104 : decode cX2_addOrder 104 = .ok (.invokestatic 77, 3) := by decide +kernel
theorem dX2_addOrder_107 : decode cX2_addOrder 107 = .ok (.ifCond .ne 6, 3) := by decide +kernel
theorem dX2_addOrder_110 : decode cX2_addOrder 110 = .ok (.bipush (-2), 2) := by decide +kernel
theorem dX2_addOrder_112 : decode cX2_addOrder 112 = .ok (.ireturn, 1) := by decide +kernel
theorem dX2_addOrder_113 : decode cX2_addOrder 113 = .ok (.aload_n 0, 1) := by decide +kernel
theorem dX2_addOrder_114 : decode cX2_addOrder 114 = .ok (.getfield 59, 3) := by decide +kernel
theorem dX2_addOrder_117 : decode cX2_addOrder 117 = .ok (.bipush 16, 2) := by decide +kernel
theorem dX2_addOrder_119 : decode cX2_addOrder 119 = .ok (.if_icmp .lt 6, 3) := by decide +kernel
theorem dX2_addOrder_122 : decode cX2_addOrder 122 = .ok (.bipush (-4), 2) := by decide +kernel
theorem dX2_addOrder_124 : decode cX2_addOrder 124 = .ok (.ireturn, 1) := by decide +kernel
theorem dX2_addOrder_125 : decode cX2_addOrder 125 = .ok (.aload_n 0, 1) := by decide +kernel
theorem dX2_addOrder_126 : decode cX2_addOrder 126 = .ok (.getfield 26, 3) := by decide +kernel
theorem dX2_addOrder_129 : decode cX2_addOrder 129 = .ok (.aload_n 0, 1) := by decide +kernel
theorem dX2_addOrder_130 : decode cX2_addOrder 130 = .ok (.getfield 59, 3) := by decide +kernel
theorem dX2_addOrder_133 : decode cX2_addOrder 133 = .ok (.aaload, 1) := by decide +kernel
theorem dX2_addOrder_134 : decode cX2_addOrder 134 = .ok (.iload_n 1, 1) := by decide +kernel
theorem dX2_addOrder_135 : decode cX2_addOrder 135 = .ok (.iload_n 2, 1) := by decide +kernel
theorem dX2_addOrder_136 : decode cX2_addOrder 136 = .ok (.iload_n 3, 1) := by decide +kernel
theorem dX2_addOrder_137 : decode cX2_addOrder 137 = .ok (.iload 4, 2) := by decide +kernel
theorem dX2_addOrder_139 : decode cX2_addOrder 139 = .ok (.iload 5, 2) := by decide +kernel
theorem dX2_addOrder_141 : decode cX2_addOrder 141 = .ok (.iload 6, 2) := by decide +kernel
theorem dX2_addOrder_143 : decode cX2_addOrder 143 = .ok (.invokevirtual 115, 3) := by decide +kernel
theorem dX2_addOrder_146 : decode cX2_addOrder 146 = .ok (.aload_n 0, 1) := by decide +kernel
theorem dX2_addOrder_147 : decode cX2_addOrder 147 = .ok (.getfield 26, 3) := by decide +kernel
theorem dX2_addOrder_150 : decode cX2_addOrder 150 = .ok (.aload_n 0, 1) := by decide +kernel
theorem dX2_addOrder_151 : decode cX2_addOrder 151 = .ok (.getfield 59, 3) := by decide +kernel
theorem dX2_addOrder_154 : decode cX2_addOrder 154 = .ok (.aaload, 1) := by decide +kernel
theorem dX2_addOrder_155 : decode cX2_addOrder 155 = .ok (.aload_n 0, 1) := by decide +kernel
theorem dX2_addOrder_156 : decode cX2_addOrder 156 = .ok (.getfield 68, 3) := by decide +kernel
theorem dX2_addOrder_159 : decode cX2_addOrder 159 = .ok (.aload_n 0, 1) := by decide +kernel
theorem dX2_addOrder_160 : decode cX2_addOrder 160 = .ok (.getfield 12, 3) := by decide +kernel
theorem dX2_addOrder_163 : decode cX2_addOrder 163 = .ok (.invokevirtual 119, 3) := by decide +kernel
theorem dX2_addOrder_166 : decode cX2_addOrder 166 = .ok (.pop, 1) := by decide +kernel
theorem dX2_addOrder_167 : decode cX2_addOrder 167 = .ok (.aload_n 0, 1) := by decide +kernel
theorem dX2_addOrder_168 : decode cX2_addOrder 168 = .ok (.dup, 1) := by decide +kernel
theorem dX2_addOrder_169 : decode cX2_addOrder 169 = .ok (.getfield 59, 3) := by decide +kernel
theorem dX2_addOrder_172 : decode cX2_addOrder 172 = .ok (.iconst 1, 1) := by decide +kernel
theorem dX2_addOrder_173 : decode cX2_addOrder 173 = .ok (.iadd, 1) := by decide +kernel
theorem dX2_addOrder_174 : decode cX2_addOrder 174 = .ok (.putfield 59, 3) := by decide +kernel
theorem dX2_addOrder_177 : decode cX2_addOrder 177 = .ok (.aload_n 0, 1) := by decide +kernel
theorem dX2_addOrder_178 : decode cX2_addOrder 178 = .ok (.getfield 59, 3) := by decide +kernel
theorem dX2_addOrder_181 : decode cX2_addOrder 181 = .ok (.iconst 1, 1) := by decide +kernel
theorem dX2_addOrder_182 : decode cX2_addOrder 182 = .ok (.isub, 1) := by decide +kernel
theorem dX2_addOrder_183 : decode cX2_addOrder 183 = .ok (.ireturn, 1) := by decide +kernel
theorem dX2_areDates_0 : decode cX2_areDates 0 = .ok (.iload_n 0, 1) := by decide +kernel
theorem dX2_areDates_1 : decode cX2_areDates 1 = .ok (.iconst 0, 1) := by decide +kernel
theorem dX2_areDates_2 : decode cX2_areDates 2 = .ok (.ldc 123, 2) := by decide +kernel
theorem dX2_areDates_4 : decode cX2_areDates 4 = .ok (.invokestatic 77, 3) := by decide +kernel
theorem dX2_areDates_7 : decode cX2_areDates 7 = .ok (.ifCond .eq 36, 3) := by decide +kernel
theorem dX2_areDates_10 : decode cX2_areDates 10 = .ok (.iload_n 0, 1) := by decide +kernel
theorem dX2_areDates_11 : decode cX2_areDates 11 = .ok (.bipush 100, 2) := by decide +kernel
theorem dX2_areDates_13 : decode cX2_areDates 13 = .ok (.idiv, 1) := by decide +kernel
theorem dX2_areDates_14 : decode cX2_areDates 14 = .ok (.bipush 100, 2) := by decide +kernel
theorem dX2_areDates_16 : decode cX2_areDates 16 = .ok (.irem, 1) := by decide +kernel
theorem dX2_areDates_17 : decode cX2_areDates 17 = .ok (.iconst 1, 1) := by decide +kernel
theorem dX2_areDates_18 : decode cX2_areDates 18 = .ok (.bipush 12, 2) := by decide +kernel
theorem dX2_areDates_20 : decode cX2_areDates 20 = .ok (.invokestatic 77, 3) := by decide +kernel
theorem dX2_areDates_23 : decode cX2_areDates 23 = .ok (.ifCond .eq 20, 3) := by decide +kernel
theorem dX2_areDates_26 : decode cX2_areDates 26 = .ok (.iload_n 0, 1) := by decide +kernel
theorem dX2_areDates_27 : decode cX2_areDates 27 = .ok (.bipush 100, 2) := by decide +kernel
theorem dX2_areDates_29 : decode cX2_areDates 29 = .ok (.irem, 1) := by decide +kernel
theorem dX2_areDates_30 : decode cX2_areDates 30 = .ok (.iconst 1, 1) := by decide +kernel
theorem dX2_areDates_31 : decode cX2_areDates 31 = .ok (.bipush 31, 2) := by decide +kernel
theorem dX2_areDates_33 : decode cX2_areDates 33 = .ok (.invokestatic 77, 3) := by decide +kernel
theorem dX2_areDates_36 : decode cX2_areDates 36 = .ok (.ifCond .eq 7, 3) := by decide +kernel
theorem dX2_areDates_39 : decode cX2_areDates 39 = .ok (.iconst 1, 1) := by decide +kernel
theorem dX2_areDates_40 : decode cX2_areDates 40 = .ok (.goto 4, 3) := by decide +kernel
theorem dX2_areDates_43 : decode cX2_areDates 43 = .ok (.iconst 0, 1) := by decide +kernel
theorem dX2_areDates_44 : decode cX2_areDates 44 = .ok (.ireturn, 1) := by decide +kernel
theorem dX2_alterOrder_0 : decode cX2_alterOrder 0 = .ok (.aload_n 0, 1) := by decide +kernel
theorem dX2_alterOrder_1 : decode cX2_alterOrder 1 = .ok (.iload_n 1, 1) := by decide +kernel
theorem dX2_alterOrder_2 : decode cX2_alterOrder 2 = .ok (.invokevirtual 124, 3) := by decide +kernel
theorem dX2_alterOrder_5 : decode cX2_alterOrder 5 = .ok (.ifCond .ne 5, 3) := by decide +kernel
theorem dX2_alterOrder_8 : decode cX2_alterOrder 8 = .ok (.iconst (-1), 1) := by decide +kernel
theorem dX2_alterOrder_9 : decode cX2_alterOrder 9 = .ok (.ireturn, 1) := by decide +kernel
theorem dX2_alterOrder_10 : decode cX2_alterOrder 10 = .ok (.iload_n 2, 1) := by decide +kernel
theorem dX2_alterOrder_11 : decode cX2_alterOrder 11 = .ok (.iconst 1, 1) := by decide +kernel
theorem dX2_alterOrder_12 : decode cX2_alterOrder 12 = .ok (.ldc 92, 2) := by decide +kernel
theorem dX2_alterOrder_14 : decode cX2_alterOrder 14 = .ok (.invokestatic 77, 3) := by decide +kernel
theorem dX2_alterOrder_17 : decode cX2_alterOrder 17 = .ok (.ifCond .eq 13, 3) := by decide +kernel
theorem dX2_alterOrder_20 : decode cX2_alterOrder 20 = .ok (.iload_n 3, 1) := by decide +kernel
theorem dX2_alterOrder_21 : decode cX2_alterOrder 21 = .ok (.iconst 0, 1) := by decide +kernel
theorem dX2_alterOrder_22 : decode cX2_alterOrder 22 = .ok (.bipush 9, 2) := by decide +kernel
theorem dX2_alterOrder_24 : decode cX2_alterOrder 24 = .ok (.invokestatic 77, 3) := by decide +kernel
theorem dX2_alterOrder_27 : decode cX2_alterOrder 27 = .ok (.ifCond .ne 6, 3) := by decide +kernel
theorem dX2_alterOrder_30 : decode cX2_alterOrder 30 = .ok (.bipush (-2), 2) := by decide +kernel
theorem dX2_alterOrder_32 : decode cX2_alterOrder 32 = .ok (.ireturn, 1) := by decide +kernel
theorem dX2_alterOrder_33 : decode cX2_alterOrder 33 = .ok (.aload_n 0, 1) := by decide +kernel
theorem dX2_alterOrder_34 : decode cX2_alterOrder 34 = .ok (.getfield 26, 3) := by decide +kernel
theorem dX2_alterOrder_37 : decode cX2_alterOrder 37 = .ok (.iload_n 1, 1) := by decide +kernel
theorem dX2_alterOrder_38 : decode cX2_alterOrder 38 = .ok (.aaload, 1) := by decide +kernel
theorem dX2_alterOrder_39 : decode cX2_alterOrder 39 = .ok (.getfield 127, 3) := by decide +kernel
theorem dX2_alterOrder_42 : decode cX2_alterOrder 42 = .ok (.iconst 2, 1) := by decide +kernel
theorem dX2_alterOrder_43 : decode cX2_alterOrder 43 = .ok (.if_icmp .ne 6, 3) := by decide +kernel
theorem dX2_alterOrder_46 : decode cX2_alterOrder 46 = .ok (.bipush (-5), 2) := by decide +kernel
theorem dX2_alterOrder_48 : decode cX2_alterOrder 48 = .ok (.ireturn, 1) := by decide +kernel
theorem dX2_alterOrder_49 : decode cX2_alterOrder 49 = .ok (.aload_n 0, 1) := by decide +kernel
theorem dX2_alterOrder_50 : decode cX2_alterOrder 50 = .ok (.getfield 26, 3) := by decide +kernel
theorem dX2_alterOrder_53 : decode cX2_alterOrder 53 = .ok (.iload_n 1, 1) := by decide +kernel
theorem dX2_alterOrder_54 : decode cX2_alterOrder 54 = .ok (.aaload, 1) := by decide +kernel
theorem dX2_alterOrder_55 : decode cX2_alterOrder 55 = .ok (.getfield 130, 3) := by decide +kernel
theorem dX2_alterOrder_58 : decode cX2_alterOrder 58 = .ok (.istore 4, 2) := by decide +kernel
theorem dX2_alterOrder_60 : decode cX2_alterOrder 60 = .ok (.aload_n 0, 1) := by decide +kernel
theorem dX2_alterOrder_61 : decode cX2_alterOrder 61 = .ok (.getfield 26, 3) := by decide +kernel
theorem dX2_alterOrder_64 : decode cX2_alterOrder 64 = .ok (.iload_n 1, 1) := by decide +kernel
theorem dX2_alterOrder_65 : decode cX2_alterOrder 65 = .ok (.aaload, 1) := by decide +kernel
theorem dX2_alterOrder_66 : decode cX2_alterOrder 66 = .ok (.iload_n 2, 1) := by decide +kernel
theorem dX2_alterOrder_67 : decode cX2_alterOrder 67 = .ok (.putfield 130, 3) := by decide +kernel
theorem dX2_alterOrder_70 : decode cX2_alterOrder 70 = .ok (.aload_n 0, 1) := by decide +kernel
theorem dX2_alterOrder_71 : decode cX2_alterOrder 71 = .ok (.getfield 26, 3) := by decide +kernel
theorem dX2_alterOrder_74 : decode cX2_alterOrder 74 = .ok (.iload_n 1, 1) := by decide +kernel
theorem dX2_alterOrder_75 : decode cX2_alterOrder 75 = .ok (.aaload, 1) := by decide +kernel
theorem dX2_alterOrder_76 : decode cX2_alterOrder 76 = .ok (.iload_n 3, 1) := by decide +kernel
theorem dX2_alterOrder_77 : decode cX2_alterOrder 77 = .ok (.putfield 133, 3) := by decide +kernel
theorem dX2_alterOrder_80 : decode cX2_alterOrder 80 = .ok (.iload 4, 2) := by decide +kernel
theorem dX2_alterOrder_82 : decode cX2_alterOrder 82 = .ok (.ireturn, 1) := by decide +kernel
theorem dX2_stopOrder_0 : decode cX2_stopOrder 0 = .ok (.aload_n 0, 1) := by decide +kernel
theorem dX2_stopOrder_1 : decode cX2_stopOrder 1 = .ok (.iload_n 1, 1) := by decide +kernel
theorem dX2_stopOrder_2 : decode cX2_stopOrder 2 = .ok (.invokevirtual 124, 3) := by decide +kernel
theorem dX2_stopOrder_5 : decode cX2_stopOrder 5 = .ok (.ifCond .ne 5, 3) := by decide +kernel
theorem dX2_stopOrder_8 : decode cX2_stopOrder 8 = .ok (.iconst (-1), 1) := by decide +kernel
theorem dX2_stopOrder_9 : decode cX2_stopOrder 9 = .ok (.ireturn, 1) := by decide +kernel
theorem dX2_stopOrder_10 : decode cX2_stopOrder 10 = .ok (.aload_n 0, 1) := by decide +kernel
theorem dX2_stopOrder_11 : decode cX2_stopOrder 11 = .ok (.getfield 26, 3) := by decide +kernel
theorem dX2_stopOrder_14 : decode cX2_stopOrder 14 = .ok (.iload_n 1, 1) := by decide +kernel
theorem dX2_stopOrder_15 : decode cX2_stopOrder 15 = .ok (.aaload, 1) := by decide +kernel
theorem dX2_stopOrder_16 : decode cX2_stopOrder 16 = .ok (.getfield 127, 3) := by decide +kernel
theorem dX2_stopOrder_19 : decode cX2_stopOrder 19 = .ok (.ifCond .eq 6, 3) := by decide +kernel
theorem dX2_stopOrder_22 : decode cX2_stopOrder 22 = .ok (.bipush (-5), 2) := by decide +kernel
theorem dX2_stopOrder_24 : decode cX2_stopOrder 24 = .ok (.ireturn, 1) := by decide +kernel
theorem dX2_stopOrder_25 : decode cX2_stopOrder 25 = .ok (.aload_n 0, 1) := by decide +kernel
theorem dX2_stopOrder_26 : decode cX2_stopOrder 26 = .ok (.getfield 26, 3) := by decide +kernel
theorem dX2_stopOrder_29 : decode cX2_stopOrder 29 = .ok (.iload_n 1, 1) := by decide +kernel
theorem dX2_stopOrder_30 : decode cX2_stopOrder 30 = .ok (.aaload, 1) := by decide +kernel
theorem dX2_stopOrder_31 : decode cX2_stopOrder 31 = .ok (.iconst 1, 1) := by decide +kernel
theorem dX2_stopOrder_32 : decode cX2_stopOrder 32 = .ok (.putfield 127, 3) := by decide +kernel
theorem dX2_stopOrder_35 : decode cX2_stopOrder 35 = .ok (.aload_n 0, 1) := by decide +kernel
theorem dX2_stopOrder_36 : decode cX2_stopOrder 36 = .ok (.getfield 26, 3) := by decide +kernel
theorem dX2_stopOrder_39 : decode cX2_stopOrder 39 = .ok (.iload_n 1, 1) := by decide +kernel
theorem dX2_stopOrder_40 : decode cX2_stopOrder 40 = .ok (.aaload, 1) := by decide +kernel
theorem dX2_stopOrder_41 : decode cX2_stopOrder 41 = .ok (.getfield 136, 3) := by decide +kernel
theorem dX2_stopOrder_44 : decode cX2_stopOrder 44 = .ok (.ireturn, 1) := by decide +kernel
theorem dX2_resumeOrder_0 : decode cX2_resumeOrder 0 = .ok (.aload_n 0, 1) := by decide +kernel
theorem dX2_resumeOrder_1 : decode cX2_resumeOrder 1 = .ok (.iload_n 1, 1) := by decide +kernel
theorem dX2_resumeOrder_2 : decode cX2_resumeOrder 2 = .ok (.invokevirtual 124, 3) := by decide +kernel
theorem dX2_resumeOrder_5 : decode cX2_resumeOrder 5 = .ok (.ifCond .ne 5, 3) := by decide +kernel
theorem dX2_resumeOrder_8 : decode cX2_resumeOrder 8 = .ok (.iconst (-1), 1) := by decide +kernel
theorem dX2_resumeOrder_9 : decode cX2_resumeOrder 9 = .ok (.ireturn, 1) := by decide +kernel
theorem dX2_resumeOrder_10 : decode cX2_resumeOrder 10 = .ok (.aload_n 0, 1) := by decide +kernel
theorem dX2_resumeOrder_11 : decode cX2_resumeOrder 11 = .ok (.getfield 26, 3) := by decide +kernel
theorem dX2_resumeOrder_14 : decode cX2_resumeOrder 14 = .ok (.iload_n 1, 1) := by decide +kernel
theorem dX2_resumeOrder_15 : decode cX2_resumeOrder 15 = .ok (.aaload, 1) := by decide +kernel
theorem dX2_resumeOrder_16 : decode cX2_resumeOrder 16 = .ok (.getfield 127, 3) := by decide +kernel
theorem dX2_resumeOrder_19 : decode cX2_resumeOrder 19 = .ok (.iconst 1, 1) := by decide +kernel
theorem dX2_resumeOrder_20 : decode cX2_resumeOrder 20 = .ok (.if_icmp .eq 6, 3) := by decide +kernel
theorem dX2_resumeOrder_23 : decode cX2_resumeOrder 23 = .ok (.bipush (-5), 2) := by decide +kernel
theorem dX2_resumeOrder_25 : decode cX2_resumeOrder 25 = .ok (.ireturn, 1) := by decide +kernel
theorem dX2_resumeOrder_26 : decode cX2_resumeOrder 26 = .ok (.aload_n 0, 1) := by decide +kernel
theorem dX2_resumeOrder_27 : decode cX2_resumeOrder 27 = .ok (.getfield 26, 3) := by decide +kernel
theorem dX2_resumeOrder_30 : decode cX2_resumeOrder 30 = .ok (.iload_n 1, 1) := by decide +kernel
theorem dX2_resumeOrder_31 : decode cX2_resumeOrder 31 = .ok (.aaload, 1) := by decide +kernel
theorem dX2_resumeOrder_32 : decode cX2_resumeOrder 32 = .ok (.iconst 0, 1) := by decide +kernel
theorem dX2_resumeOrder_33 : decode cX2_resumeOrder 33 = .ok (.putfield 127, 3) := by decide +kernel
theorem dX2_resumeOrder_36 : decode cX2_resumeOrder 36 = .ok (.aload_n 0, 1) := by decide +kernel
theorem dX2_resumeOrder_37 : decode cX2_resumeOrder 37 = .ok (.getfield 26, 3) := by decide +kernel
theorem dX2_resumeOrder_40 : decode cX2_resumeOrder 40 = .ok (.iload_n 1, 1) := by decide +kernel
theorem dX2_resumeOrder_41 : decode cX2_resumeOrder 41 = .ok (.aaload, 1) := by decide +kernel
theorem dX2_resumeOrder_42 : decode cX2_resumeOrder 42 = .ok (.aload_n 0, 1) := by decide +kernel
theorem dX2_resumeOrder_43 : decode cX2_resumeOrder 43 = .ok (.getfield 68, 3) := by decide +kernel
theorem dX2_resumeOrder_46 : decode cX2_resumeOrder 46 = .ok (.aload_n 0, 1) := by decide +kernel
theorem dX2_resumeOrder_47 : decode cX2_resumeOrder 47 = .ok (.getfield 12, 3) := by decide +kernel
theorem dX2_resumeOrder_50 : decode cX2_resumeOrder 50 = .ok (.invokevirtual 119, 3) := by decide +kernel
theorem dX2_resumeOrder_53 : decode cX2_resumeOrder 53 = .ok (.ireturn, 1) := by decide +kernel
theorem dX2_dropPayment_0 : decode cX2_dropPayment 0 = .ok (.iload_n 1, 1) := by decide +kernel
theorem dX2_dropPayment_1 : decode cX2_dropPayment 1 = .ok (.iconst 0, 1) := by decide +kernel
theorem dX2_dropPayment_2 : decode cX2_dropPayment 2 = .ok (.aload_n 0, 1) := by decide +kernel
theorem dX2_dropPayment_3 : decode cX2_dropPayment 3 = .ok (.getfield 33, 3) := by decide +kernel
theorem dX2_dropPayment_6 : decode cX2_dropPayment 6 = .ok (.getfield 138, 3) := by decide +kernel
theorem dX2_dropPayment_9 : decode cX2_dropPayment 9 = .ok (.iconst 1, 1) := by decide +kernel
theorem dX2_dropPayment_10 : decode cX2_dropPayment 10 = .ok (.isub, 1) := by decide +kernel
theorem dX2_dropPayment_11 : decode cX2_dropPayment 11 = .ok (.invokestatic 77, 3) := by decide +kernel
theorem dX2_dropPayment_14 : decode cX2_dropPayment 14 = .ok (.ifCond .ne 5, 3) := by decide +kernel
theorem dX2_dropPayment_17 : decode cX2_dropPayment 17 = .ok (.iconst (-1), 1) := by decide +kernel
theorem dX2_dropPayment_18 : decode cX2_dropPayment 18 = .ok (.ireturn, 1) := by decide +kernel
theorem dX2_dropPayment_19 : decode cX2_dropPayment 19 = .ok (.aload_n 0, 1) := by decide +kernel
theorem dX2_dropPayment_20 : decode cX2_dropPayment 20 = .ok (.getfield 26, 3) := by decide +kernel
theorem dX2_dropPayment_23 : decode cX2_dropPayment 23 = .ok (.aload_n 0, 1) := by decide +kernel
theorem dX2_dropPayment_24 : decode cX2_dropPayment 24 = .ok (.getfield 33, 3) := by decide +kernel
theorem dX2_dropPayment_27 : decode cX2_dropPayment 27 = .ok (.getfield 141, 3) := by decide +kernel
theorem dX2_dropPayment_30 : decode cX2_dropPayment 30 = .ok (.iconst 0, 1) := by decide +kernel
theorem dX2_dropPayment_31 : decode cX2_dropPayment 31 = .ok (.aaload, 1) := by decide +kernel
theorem dX2_dropPayment_32 : decode cX2_dropPayment 32 = .ok (.iload_n 1, 1) := by decide +kernel
theorem dX2_dropPayment_33 : decode cX2_dropPayment 33 = .ok (.iaload, 1) := by decide +kernel
theorem dX2_dropPayment_34 : decode cX2_dropPayment 34 = .ok (.aaload, 1) := by decide +kernel
theorem dX2_dropPayment_35 : decode cX2_dropPayment 35 = .ok (.dup, 1) := by decide +kernel
theorem dX2_dropPayment_36 : decode cX2_dropPayment 36 = .ok (.getfield 145, 3) := by decide +kernel
theorem dX2_dropPayment_39 : decode cX2_dropPayment 39 = .ok (.iconst 1, 1) := by decide +kernel
theorem dX2_dropPayment_40 : decode cX2_dropPayment 40 = .ok (.iadd, 1) := by decide +kernel
theorem dX2_dropPayment_41 : decode cX2_dropPayment 41 = .ok (.putfield 145, 3) := by decide +kernel
theorem dX2_dropPayment_44 : decode cX2_dropPayment 44 = .ok (.aload_n 0, 1) := by decide +kernel
theorem dX2_dropPayment_45 : decode cX2_dropPayment 45 = .ok (.iload_n 1, 1) := by decide +kernel
theorem dX2_dropPayment_46 : decode cX2_dropPayment 46 = .ok (.invokevirtual 148, 3) := by decide +kernel
theorem dX2_dropPayment_49 : decode cX2_dropPayment 49 = .ok (.aload_n 0, 1) := by decide +kernel
theorem dX2_dropPayment_50 : decode cX2_dropPayment 50 = .ok (.getfield 33, 3) := by decide +kernel
theorem dX2_dropPayment_53 : decode cX2_dropPayment 53 = .ok (.invokevirtual 152, 3) := by decide +kernel
theorem dX2_dropPayment_56 : decode cX2_dropPayment 56 = .ok (.aload_n 0, 1) := by decide +kernel
theorem dX2_dropPayment_57 : decode cX2_dropPayment 57 = .ok (.getfield 33, 3) := by decide +kernel
theorem dX2_dropPayment_60 : decode cX2_dropPayment 60 = .ok (.getfield 138, 3) := by decide +kernel
theorem dX2_dropPayment_63 : decode cX2_dropPayment 63 = .ok (.ireturn, 1) := by decide +kernel
theorem dX2_nextNominalDay_0 : decode cX2_nextNominalDay 0 = .ok (.aload_n 0, 1) := by decide +kernel
theorem dX2_nextNominalDay_1 : decode cX2_nextNominalDay 1 = .ok (.getfield 26, 3) := by decide +kernel
theorem dX2_nextNominalDay_4 : decode cX2_nextNominalDay 4 = .ok (.iload_n 1, 1) := by decide +kernel
theorem dX2_nextNominalDay_5 : decode cX2_nextNominalDay 5 = .ok (.aaload, 1) := by decide +kernel
theorem dX2_nextNominalDay_6 : decode cX2_nextNominalDay 6 = .ok (.getfield 127, 3) := by decide +kernel
theorem dX2_nextNominalDay_9 : decode cX2_nextNominalDay 9 = .ok (.iconst 2, 1) := by decide +kernel
theorem dX2_nextNominalDay_10 : decode cX2_nextNominalDay 10 = .ok (.if_icmp .ne 6, 3) := by decide +kernel
theorem dX2_nextNominalDay_13 : decode cX2_nextNominalDay 13 = .ok (.bipush (-6), 2) := by decide +kernel
theorem dX2_nextNominalDay_15 : decode cX2_nextNominalDay 15 = .ok (.ireturn, 1) := by decide +kernel
theorem dX2_nextNominalDay_16 : decode cX2_nextNominalDay 16 = .ok (.aload_n 0, 1) := by decide +kernel
theorem dX2_nextNominalDay_17 : decode cX2_nextNominalDay 17 = .ok (.getfield 26, 3) := by decide +kernel
theorem dX2_nextNominalDay_20 : decode cX2_nextNominalDay 20 = .ok (.iload_n 1, 1) := by decide +kernel
theorem dX2_nextNominalDay_21 : decode cX2_nextNominalDay 21 = .ok (.aaload, 1) := by decide +kernel
theorem dX2_nextNominalDay_22 : decode cX2_nextNominalDay 22 = .ok (.aload_n 0, 1) := by decide +kernel
theorem dX2_nextNominalDay_23 : decode cX2_nextNominalDay 23 = .ok (.getfield 12, 3) := by decide +kernel
theorem dX2_nextNominalDay_26 : decode cX2_nextNominalDay 26 = .ok (.invokevirtual 155, 3) := by decide +kernel
theorem dX2_nextNominalDay_29 : decode cX2_nextNominalDay 29 = .ok (.aload_n 0, 1) := by decide +kernel
theorem dX2_nextNominalDay_30 : decode cX2_nextNominalDay 30 = .ok (.getfield 26, 3) := by decide +kernel
theorem dX2_nextNominalDay_33 : decode cX2_nextNominalDay 33 = .ok (.iload_n 1, 1) := by decide +kernel
theorem dX2_nextNominalDay_34 : decode cX2_nextNominalDay 34 = .ok (.aaload, 1) := by decide +kernel
theorem dX2_nextNominalDay_35 : decode cX2_nextNominalDay 35 = .ok (.getfield 158, 3) := by decide +kernel
theorem dX2_nextNominalDay_38 : decode cX2_nextNominalDay 38 = .ok (.ireturn, 1) := by decide +kernel
theorem dX2_numberOf_0 : decode cX2_numberOf 0 = .ok (.iload_n 1, 1) := by decide +kernel
theorem dX2_numberOf_1 : decode cX2_numberOf 1 = .ok (.tableswitch 129 0 14 #[75, 80, 85, 90, 98, 106, 106, 106, 115, 129, 129, 120, 120, 120, 120], 75) := by decide +kernel
theorem dX2_numberOf_76 : decode cX2_numberOf 76 = .ok (.aload_n 0, 1) := by decide +kernel
theorem dX2_numberOf_77 : decode cX2_numberOf 77 = .ok (.getfield 68, 3) := by decide +kernel
theorem dX2_numberOf_80 : decode cX2_numberOf 80 = .ok (.ireturn, 1) := by decide +kernel
theorem dX2_numberOf_81 : decode cX2_numberOf 81 = .ok (.aload_n 0, 1) := by decide +kernel
theorem dX2_numberOf_82 : decode cX2_numberOf 82 = .ok (.getfield 53, 3) := by decide +kernel
theorem dX2_numberOf_85 : decode cX2_numberOf 85 = .ok (.ireturn, 1) := by decide +kernel
theorem dX2_numberOf_86 : decode cX2_numberOf 86 = .ok (.aload_n 0, 1) := by decide +kernel
theorem dX2_numberOf_87 : decode cX2_numberOf 87 = .ok (.getfield 59, 3) := by decide +kernel
theorem dX2_numberOf_90 : decode cX2_numberOf 90 = .ok (.ireturn, 1) := by decide +kernel
theorem dX2_numberOf_91 : decode cX2_numberOf 91 = .ok (.aload_n 0, 1) := by decide +kernel
theorem dX2_numberOf_92 : decode cX2_numberOf 92 = .ok (.getfield 12, 3) := by decide +kernel
theorem dX2_numberOf_95 : decode cX2_numberOf 95 = .ok (.getfield 161, 3) := by decide +kernel
theorem dX2_numberOf_98 : decode cX2_numberOf 98 = .ok (.ireturn, 1) := by decide +kernel
theorem dX2_numberOf_99 : decode cX2_numberOf 99 = .ok (.aload_n 0, 1) := by decide +kernel
theorem dX2_numberOf_100 : decode cX2_numberOf 100 = .ok (.getfield 33, 3) := by decide +kernel
theorem dX2_numberOf_103 : decode cX2_numberOf 103 = .ok (.getfield 138, 3) := by decide +kernel
theorem dX2_numberOf_106 : decode cX2_numberOf 106 = .ok (.ireturn, 1) := by decide +kernel
theorem dX2_numberOf_107 : decode cX2_numberOf 107 = .ok (.aload_n 0, 1) := by decide +kernel
theorem dX2_numberOf_108 : decode cX2_numberOf 108 = .ok (.iload_n 1, 1) := by decide +kernel
theorem dX2_numberOf_109 : decode cX2_numberOf 109 = .ok (.bipush 6, 2) := by decide +kernel
theorem dX2_numberOf_111 : decode cX2_numberOf 111 = .ok (.iadd, 1) := by decide +kernel
theorem dX2_numberOf_112 : decode cX2_numberOf 112 = .ok (.invokevirtual 164, 3) := by decide +kernel
theorem dX2_numberOf_115 : decode cX2_numberOf 115 = .ok (.ireturn, 1) := by decide +kernel
theorem dX2_numberOf_116 : decode cX2_numberOf 116 = .ok (.aload_n 0, 1) := by decide +kernel
theorem dX2_numberOf_117 : decode cX2_numberOf 117 = .ok (.getfield 71, 3) := by decide +kernel
theorem dX2_numberOf_120 : decode cX2_numberOf 120 = .ok (.ireturn, 1) := by decide +kernel
theorem dX2_numberOf_121 : decode cX2_numberOf 121 = .ok (.aload_n 0, 1) := by decide +kernel
theorem dX2_numberOf_122 : decode cX2_numberOf 122 = .ok (.iload_n 1, 1) := by decide +kernel
theorem dX2_numberOf_123 : decode cX2_numberOf 123 = .ok (.bipush 11, 2) := by decide +kernel
theorem dX2_numberOf_125 : decode cX2_numberOf 125 = .ok (.isub, 1) := by decide +kernel
theorem dX2_numberOf_126 : decode cX2_numberOf 126 = .ok (.invokevirtual 88, 3) := by decide +kernel
theorem dX2_numberOf_129 : decode cX2_numberOf 129 = .ok (.ireturn, 1) := by decide +kernel
theorem dX2_numberOf_130 : decode cX2_numberOf 130 = .ok (.bipush (-2), 2) := by decide +kernel
theorem dX2_numberOf_132 : decode cX2_numberOf 132 = .ok (.ireturn, 1) := by decide +kernel
theorem dX2_sumOverOrders_0 : decode cX2_sumOverOrders 0 = .ok (.iconst 0, 1) := by decide +kernel
theorem dX2_sumOverOrders_1 : decode cX2_sumOverOrders 1 = .ok (.istore_n 2, 1) := by decide +kernel
theorem dX2_sumOverOrders_2 : decode cX2_sumOverOrders 2 = .ok (.iconst 0, 1) := by decide +kernel
theorem dX2_sumOverOrders_3 : decode cX2_sumOverOrders 3 = .ok (.istore_n 3, 1) := by decide +kernel
theorem dX2_sumOverOrders_4 : decode cX2_sumOverOrders 4 = .ok (.iload_n 3, 1) := by decide +kernel
theorem dX2_sumOverOrders_5 : decode cX2_sumOverOrders 5 = .ok (.aload_n 0, 1) := by decide +kernel
theorem dX2_sumOverOrders_6 : decode cX2_sumOverOrders 6 = .ok (.getfield 59, 3) := by decide +kernel
theorem dX2_sumOverOrders_9 : decode cX2_sumOverOrders 9 = .ok (.if_icmp .ge 22, 3) := by decide +kernel
theorem dX2_sumOverOrders_12 : decode cX2_sumOverOrders 12 = .ok (.iload_n 2, 1) := by decide +kernel
theorem dX2_sumOverOrders_13 : decode cX2_sumOverOrders 13 = .ok (.aload_n 0, 1) := by decide +kernel
theorem dX2_sumOverOrders_14 : decode cX2_sumOverOrders 14 = .ok (.getfield 26, 3) := by decide +kernel
theorem dX2_sumOverOrders_17 : decode cX2_sumOverOrders 17 = .ok (.iload_n 3, 1) := by decide +kernel
theorem dX2_sumOverOrders_18 : decode cX2_sumOverOrders 18 = .ok (.aaload, 1) := by decide +kernel
theorem dX2_sumOverOrders_19 : decode cX2_sumOverOrders 19 = .ok (.iload_n 1, 1) := by decide +kernel
theorem dX2_sumOverOrders_20 : decode cX2_sumOverOrders 20 = .ok (.invokevirtual 167, 3) := by decide +kernel
theorem dX2_sumOverOrders_23 : decode cX2_sumOverOrders 23 = .ok (.iadd, 1) := by decide +kernel
theorem dX2_sumOverOrders_24 : decode cX2_sumOverOrders 24 = .ok (.istore_n 2, 1) := by decide +kernel
theorem dX2_sumOverOrders_25 : decode cX2_sumOverOrders 25 = .ok (.iinc 3 1, 3) := by decide +kernel
theorem dX2_sumOverOrders_28 : decode cX2_sumOverOrders 28 = .ok (.goto (-24), 3) := by decide +kernel
theorem dX2_sumOverOrders_31 : decode cX2_sumOverOrders 31 = .ok (.iload_n 2, 1) := by decide +kernel
theorem dX2_sumOverOrders_32 : decode cX2_sumOverOrders 32 = .ok (.ireturn, 1) := by decide +kernel
theorem dX2_errorOfDays_0 : decode cX2_errorOfDays 0 = .ok (.iload_n 1, 1) := by decide +kernel
theorem dX2_errorOfDays_1 : decode cX2_errorOfDays 1 = .ok (.iconst 1, 1) := by decide +kernel
theorem dX2_errorOfDays_2 : decode cX2_errorOfDays 2 = .ok (.sipush 400, 3) := by decide +kernel
theorem dX2_errorOfDays_5 : decode cX2_errorOfDays 5 = .ok (.invokestatic 77, 3) := by decide +kernel
theorem dX2_errorOfDays_8 : decode cX2_errorOfDays 8 = .ok (.ifCond .ne 6, 3) := by decide +kernel
theorem dX2_errorOfDays_11 : decode cX2_errorOfDays 11 = .ok (.bipush (-2), 2) := by decide +kernel
theorem dX2_errorOfDays_13 : decode cX2_errorOfDays 13 = .ok (.ireturn, 1) := by decide +kernel
theorem dX2_errorOfDays_14 : decode cX2_errorOfDays 14 = .ok (.aload_n 0, 1) := by decide +kernel
theorem dX2_errorOfDays_15 : decode cX2_errorOfDays 15 = .ok (.getfield 68, 3) := by decide +kernel
theorem dX2_errorOfDays_18 : decode cX2_errorOfDays 18 = .ok (.iload_n 1, 1) := by decide +kernel
theorem dX2_errorOfDays_19 : decode cX2_errorOfDays 19 = .ok (.iadd, 1) := by decide +kernel
theorem dX2_errorOfDays_20 : decode cX2_errorOfDays 20 = .ok (.sipush 1094, 3) := by decide +kernel
theorem dX2_errorOfDays_23 : decode cX2_errorOfDays 23 = .ok (.if_icmp .le 8, 3) := by decide +kernel
theorem dX2_errorOfDays_26 : decode cX2_errorOfDays 26 = .ok (.bipush (-5), 2) := by decide +kernel
theorem dX2_errorOfDays_28 : decode cX2_errorOfDays 28 = .ok (.goto 4, 3) := by decide +kernel
theorem dX2_errorOfDays_31 : decode cX2_errorOfDays 31 = .ok (.iconst 0, 1) := by decide +kernel
theorem dX2_errorOfDays_32 : decode cX2_errorOfDays 32 = .ok (.ireturn, 1) := by decide +kernel
theorem dX2_passDays_0 : decode cX2_passDays 0 = .ok (.iconst 0, 1) := by decide +kernel
theorem dX2_passDays_1 : decode cX2_passDays 1 = .ok (.istore_n 3, 1) := by decide +kernel
theorem dX2_passDays_2 : decode cX2_passDays 2 = .ok (.iload_n 3, 1) := by decide +kernel
theorem dX2_passDays_3 : decode cX2_passDays 3 = .ok (.aload_n 0, 1) := by decide +kernel
theorem dX2_passDays_4 : decode cX2_passDays 4 = .ok (.getfield 59, 3) := by decide +kernel
theorem dX2_passDays_7 : decode cX2_passDays 7 = .ok (.if_icmp .ge 22, 3) := by decide +kernel
theorem dX2_passDays_10 : decode cX2_passDays 10 = .ok (.aload_n 0, 1) := by decide +kernel
theorem dX2_passDays_11 : decode cX2_passDays 11 = .ok (.getfield 26, 3) := by decide +kernel
theorem dX2_passDays_14 : decode cX2_passDays 14 = .ok (.iload_n 3, 1) := by decide +kernel
theorem dX2_passDays_15 : decode cX2_passDays 15 = .ok (.aaload, 1) := by decide +kernel
theorem dX2_passDays_16 : decode cX2_passDays 16 = .ok (.aload_n 0, 1) := by decide +kernel
theorem dX2_passDays_17 : decode cX2_passDays 17 = .ok (.getfield 12, 3) := by decide +kernel
theorem dX2_passDays_20 : decode cX2_passDays 20 = .ok (.invokevirtual 155, 3) := by decide +kernel
theorem dX2_passDays_23 : decode cX2_passDays 23 = .ok (.iinc 3 1, 3) := by decide +kernel
theorem dX2_passDays_26 : decode cX2_passDays 26 = .ok (.goto (-24), 3) := by decide +kernel
theorem dX2_passDays_29 : decode cX2_passDays 29 = .ok (.iconst 0, 1) := by decide +kernel
theorem dX2_passDays_30 : decode cX2_passDays 30 = .ok (.istore_n 3, 1) := by decide +kernel
theorem dX2_passDays_31 : decode cX2_passDays 31 = .ok (.iload_n 3, 1) := by decide +kernel
theorem dX2_passDays_32 : decode cX2_passDays 32 = .ok (.iload_n 1, 1) := by decide +kernel
theorem dX2_passDays_33 : decode cX2_passDays 33 = .ok (.if_icmp .ge 80, 3) := by decide +kernel
theorem dX2_passDays_36 : decode cX2_passDays 36 = .ok (.aload_n 0, 1) := by decide +kernel
theorem dX2_passDays_37 : decode cX2_passDays 37 = .ok (.getfield 68, 3) := by decide +kernel
theorem dX2_passDays_40 : decode cX2_passDays 40 = .ok (.sipush 1094, 3) := by decide +kernel
theorem dX2_passDays_43 : decode cX2_passDays 43 = .ok (.if_icmp .ge 70, 3) := by decide +kernel
theorem dX2_passDays_46 : decode cX2_passDays 46 = .ok (.aload_n 0, 1) := by decide +kernel
theorem dX2_passDays_47 : decode cX2_passDays 47 = .ok (.iconst 0, 1) := by decide +kernel
theorem dX2_passDays_48 : decode cX2_passDays 48 = .ok (.putfield 170, 3) := by decide +kernel
theorem dX2_passDays_51 : decode cX2_passDays 51 = .ok (.aload_n 0, 1) := by decide +kernel
theorem dX2_passDays_52 : decode cX2_passDays 52 = .ok (.invokevirtual 173, 3) := by decide +kernel
theorem dX2_passDays_55 : decode cX2_passDays 55 = .ok (.aload_n 0, 1) := by decide +kernel
theorem dX2_passDays_56 : decode cX2_passDays 56 = .ok (.invokevirtual 176, 3) := by decide +kernel
theorem dX2_passDays_59 : decode cX2_passDays 59 = .ok (.aload_n 0, 1) := by decide +kernel
theorem dX2_passDays_60 : decode cX2_passDays 60 = .ok (.getfield 12, 3) := by decide +kernel
theorem dX2_passDays_63 : decode cX2_passDays 63 = .ok (.aload_n 0, 1) := by decide +kernel
theorem dX2_passDays_64 : decode cX2_passDays 64 = .ok (.getfield 68, 3) := by decide +kernel
theorem dX2_passDays_67 : decode cX2_passDays 67 = .ok (.invokevirtual 179, 3) := by decide +kernel
theorem dX2_passDays_70 : decode cX2_passDays 70 = .ok (.ifCond .eq 7, 3) := by decide +kernel
theorem dX2_passDays_73 : decode cX2_passDays 73 = .ok (.aload_n 0, 1) := by decide +kernel
theorem dX2_passDays_74 : decode cX2_passDays 74 = .ok (.invokevirtual 182, 3) := by decide +kernel
theorem dX2_passDays_77 : decode cX2_passDays 77 = .ok (.aload_n 0, 1) := by decide +kernel
theorem dX2_passDays_78 : decode cX2_passDays 78 = .ok (.invokevirtual 185, 3) := by decide +kernel
theorem dX2_passDays_81 : decode cX2_passDays 81 = .ok (.aload_n 0, 1) := by decide +kernel
theorem dX2_passDays_82 : decode cX2_passDays 82 = .ok (.dup, 1) := by decide +kernel
theorem dX2_passDays_83 : decode cX2_passDays 83 = .ok (.getfield 68, 3) := by decide +kernel
theorem dX2_passDays_86 : decode cX2_passDays 86 = .ok (.iconst 1, 1) := by decide +kernel
theorem dX2_passDays_87 : decode cX2_passDays 87 = .ok (.iadd, 1) := by decide +kernel
theorem dX2_passDays_88 : decode cX2_passDays 88 = .ok (.putfield 68, 3) := by decide +kernel
theorem dX2_passDays_91 : decode cX2_passDays 91 = .ok (.aload_n 0, 1) := by decide +kernel
theorem dX2_passDays_92 : decode cX2_passDays 92 = .ok (.getfield 170, 3) := by decide +kernel
theorem dX2_passDays_95 : decode cX2_passDays 95 = .ok (.iload_n 2, 1) := by decide +kernel
theorem dX2_passDays_96 : decode cX2_passDays 96 = .ok (.iand, 1) := by decide +kernel
theorem dX2_passDays_97 : decode cX2_passDays 97 = .ok (.ifCond .eq 10, 3) := by decide +kernel
theorem dX2_passDays_100 : decode cX2_passDays 100 = .ok (.aload_n 0, 1) := by decide +kernel
theorem dX2_passDays_101 : decode cX2_passDays 101 = .ok (.getfield 68, 3) := by decide +kernel
theorem dX2_passDays_104 : decode cX2_passDays 104 = .ok (.iconst 1, 1) := by decide +kernel
theorem dX2_passDays_105 : decode cX2_passDays 105 = .ok (.isub, 1) := by decide +kernel
theorem dX2_passDays_106 : decode cX2_passDays 106 = .ok (.ireturn, 1) := by decide +kernel
theorem dX2_passDays_107 : decode cX2_passDays 107 = .ok (.iinc 3 1, 3) := by decide +kernel
theorem dX2_passDays_110 : decode cX2_passDays 110 = .ok (.goto (-79), 3) := by decide +kernel
theorem dX2_passDays_113 : decode cX2_passDays 113 = .ok (.bipush (-6), 2) := by decide +kernel
theorem dX2_passDays_115 : decode cX2_passDays 115 = .ok (.ireturn, 1) := by decide +kernel
theorem dX2_makePaymentsDue_0 : decode cX2_makePaymentsDue 0 = .ok (.iconst 0, 1) := by decide +kernel
theorem dX2_makePaymentsDue_1 : decode cX2_makePaymentsDue 1 = .ok (.istore_n 1, 1) := by decide +kernel
theorem dX2_makePaymentsDue_2 : decode cX2_makePaymentsDue 2 = .ok (.iload_n 1, 1) := by decide +kernel
theorem dX2_makePaymentsDue_3 : decode cX2_makePaymentsDue 3 = .ok (.aload_n 0, 1) := by decide +kernel
theorem dX2_makePaymentsDue_4 : decode cX2_makePaymentsDue 4 = .ok (.getfield 59, 3) := by decide +kernel
theorem dX2_makePaymentsDue_7 : decode cX2_makePaymentsDue 7 = .ok (.if_icmp .ge 104, 3) := by decide +kernel
theorem dX2_makePaymentsDue_10 : decode cX2_makePaymentsDue 10 = .ok (.aload_n 0, 1) := by decide +kernel
theorem dX2_makePaymentsDue_11 : decode cX2_makePaymentsDue 11 = .ok (.getfield 26, 3) := by decide +kernel
theorem dX2_makePaymentsDue_14 : decode cX2_makePaymentsDue 14 = .ok (.iload_n 1, 1) := by decide +kernel
theorem dX2_makePaymentsDue_15 : decode cX2_makePaymentsDue 15 = .ok (.aaload, 1) := by decide +kernel
theorem dX2_makePaymentsDue_16 : decode cX2_makePaymentsDue 16 = .ok (.astore_n 2, 1) := by decide +kernel
theorem dX2_makePaymentsDue_17 : decode cX2_makePaymentsDue 17 = .ok (.aload_n 2, 1) := by decide +kernel
theorem dX2_makePaymentsDue_18 : decode cX2_makePaymentsDue 18 = .ok (.getfield 127, 3) := by decide +kernel
theorem dX2_makePaymentsDue_21 : decode cX2_makePaymentsDue 21 = .ok (.ifCond .eq 6, 3) := by decide +kernel
theorem dX2_makePaymentsDue_24 : decode cX2_makePaymentsDue 24 = .ok (.goto 81, 3) := by decide +kernel
theorem dX2_makePaymentsDue_27 : decode cX2_makePaymentsDue 27 = .ok (.iconst 0, 1) := by decide +kernel
theorem dX2_makePaymentsDue_28 : decode cX2_makePaymentsDue 28 = .ok (.istore_n 3, 1) := by decide +kernel
theorem dX2_makePaymentsDue_29 : decode cX2_makePaymentsDue 29 = .ok (.iload_n 3, 1) := by decide +kernel
theorem dX2_makePaymentsDue_30 : decode cX2_makePaymentsDue 30 = .ok (.sipush 1094, 3) := by decide +kernel
theorem dX2_makePaymentsDue_33 : decode cX2_makePaymentsDue 33 = .ok (.if_icmp .gt 50, 3) := by decide +kernel
theorem dX2_makePaymentsDue_36 : decode cX2_makePaymentsDue 36 = .ok (.aload_n 2, 1) := by decide +kernel
theorem dX2_makePaymentsDue_37 : decode cX2_makePaymentsDue 37 = .ok (.invokevirtual 188, 3) := by decide +kernel
theorem dX2_makePaymentsDue_40 : decode cX2_makePaymentsDue 40 = .ok (.ifCond .eq 43, 3) := by decide +kernel
theorem dX2_makePaymentsDue_43 : decode cX2_makePaymentsDue 43 = .ok (.aload_n 2, 1) := by decide +kernel
theorem dX2_makePaymentsDue_44 : decode cX2_makePaymentsDue 44 = .ok (.getfield 192, 3) := by decide +kernel
theorem dX2_makePaymentsDue_47 : decode cX2_makePaymentsDue 47 = .ok (.aload_n 0, 1) := by decide +kernel
theorem dX2_makePaymentsDue_48 : decode cX2_makePaymentsDue 48 = .ok (.getfield 68, 3) := by decide +kernel
theorem dX2_makePaymentsDue_51 : decode cX2_makePaymentsDue 51 = .ok (.if_icmp .gt 32, 3) := by decide +kernel
theorem dX2_makePaymentsDue_54 : decode cX2_makePaymentsDue 54 = .ok (.aload_n 0, 1) := by decide +kernel
theorem dX2_makePaymentsDue_55 : decode cX2_makePaymentsDue 55 = .ok (.iload_n 1, 1) := by decide +kernel
theorem dX2_makePaymentsDue_56 : decode cX2_makePaymentsDue 56 = .ok (.invokevirtual 195, 3) := by decide +kernel
theorem dX2_makePaymentsDue_59 : decode cX2_makePaymentsDue 59 = .ok (.aload_n 2, 1) := by decide +kernel
theorem dX2_makePaymentsDue_60 : decode cX2_makePaymentsDue 60 = .ok (.aload_n 2, 1) := by decide +kernel
theorem dX2_makePaymentsDue_61 : decode cX2_makePaymentsDue 61 = .ok (.getfield 198, 3) := by decide +kernel
theorem dX2_makePaymentsDue_64 : decode cX2_makePaymentsDue 64 = .ok (.iconst 1, 1) := by decide +kernel
theorem dX2_makePaymentsDue_65 : decode cX2_makePaymentsDue 65 = .ok (.iadd, 1) := by decide +kernel
theorem dX2_makePaymentsDue_66 : decode cX2_makePaymentsDue 66 = .ok (.putfield 201, 3) := by decide +kernel
theorem dX2_makePaymentsDue_69 : decode cX2_makePaymentsDue 69 = .ok (.aload_n 2, 1) := by decide +kernel
theorem dX2_makePaymentsDue_70 : decode cX2_makePaymentsDue 70 = .ok (.aload_n 0, 1) := by decide +kernel
theorem dX2_makePaymentsDue_71 : decode cX2_makePaymentsDue 71 = .ok (.getfield 12, 3) := by decide +kernel
theorem dX2_makePaymentsDue_74 : decode cX2_makePaymentsDue 74 = .ok (.invokevirtual 155, 3) := by decide +kernel
theorem dX2_makePaymentsDue_77 : decode cX2_makePaymentsDue 77 = .ok (.iinc 3 1, 3) := by decide +kernel
theorem dX2_makePaymentsDue_80 : decode cX2_makePaymentsDue 80 = .ok (.goto (-51), 3) := by decide +kernel
theorem dX2_makePaymentsDue_83 : decode cX2_makePaymentsDue 83 = .ok (.aload_n 2, 1) := by decide +kernel
theorem dX2_makePaymentsDue_84 : decode cX2_makePaymentsDue 84 = .ok (.invokevirtual 188, 3) := by decide +kernel
theorem dX2_makePaymentsDue_87 : decode cX2_makePaymentsDue 87 = .ok (.ifCond .eq 13, 3) := by decide +kernel
theorem dX2_makePaymentsDue_90 : decode cX2_makePaymentsDue 90 = .ok (.aload_n 2, 1) := by decide +kernel
theorem dX2_makePaymentsDue_91 : decode cX2_makePaymentsDue 91 = .ok (.getfield 192, 3) := by decide +kernel
theorem dX2_makePaymentsDue_94 : decode cX2_makePaymentsDue 94 = .ok (.sipush 1095, 3) := by decide +kernel
theorem dX2_makePaymentsDue_97 : decode cX2_makePaymentsDue 97 = .ok (.if_icmp .ne 8, 3) := by decide +kernel
theorem dX2_makePaymentsDue_100 : decode cX2_makePaymentsDue 100 = .ok (.aload_n 2, 1) := by decide +kernel
theorem dX2_makePaymentsDue_101 : decode cX2_makePaymentsDue 101 = .ok (.iconst 2, 1) := by decide +kernel
theorem dX2_makePaymentsDue_102 : decode cX2_makePaymentsDue 102 = .ok (.putfield 127, 3) := by decide +kernel
theorem dX2_makePaymentsDue_105 : decode cX2_makePaymentsDue 105 = .ok (.iinc 1 1, 3) := by decide +kernel
theorem dX2_makePaymentsDue_108 : decode cX2_makePaymentsDue 108 = .ok (.goto (-106), 3) := by decide +kernel
theorem dX2_makePaymentsDue_111 : decode cX2_makePaymentsDue 111 = .ok (.return_, 1) := by decide +kernel
theorem dX2_takeNextOccurrence_0 : decode cX2_takeNextOccurrence 0 = .ok (.aload_n 0, 1) := by decide +kernel
theorem dX2_takeNextOccurrence_1 : decode cX2_takeNextOccurrence 1 = .ok (.getfield 26, 3) := by decide +kernel
theorem dX2_takeNextOccurrence_4 : decode cX2_takeNextOccurrence 4 = .ok (.iload_n 1, 1) := by decide +kernel
theorem dX2_takeNextOccurrence_5 : decode cX2_takeNextOccurrence 5 = .ok (.aaload, 1) := by decide +kernel
theorem dX2_takeNextOccurrence_6 : decode cX2_takeNextOccurrence 6 = .ok (.astore_n 2, 1) := by decide +kernel
theorem dX2_takeNextOccurrence_7 : decode cX2_takeNextOccurrence 7 = .ok (.aload_n 2, 1) := by decide +kernel
theorem dX2_takeNextOccurrence_8 : decode cX2_takeNextOccurrence 8 = .ok (.getfield 204, 3) := by decide +kernel
theorem dX2_takeNextOccurrence_11 : decode cX2_takeNextOccurrence 11 = .ok (.ifCond .ne 13, 3) := by decide +kernel
theorem dX2_takeNextOccurrence_14 : decode cX2_takeNextOccurrence 14 = .ok (.aload_n 2, 1) := by decide +kernel
theorem dX2_takeNextOccurrence_15 : decode cX2_takeNextOccurrence 15 = .ok (.dup, 1) := by decide +kernel
theorem dX2_takeNextOccurrence_16 : decode cX2_takeNextOccurrence 16 = .ok (.getfield 208, 3) := by decide +kernel
theorem dX2_takeNextOccurrence_19 : decode cX2_takeNextOccurrence 19 = .ok (.iconst 1, 1) := by decide +kernel
theorem dX2_takeNextOccurrence_20 : decode cX2_takeNextOccurrence 20 = .ok (.isub, 1) := by decide +kernel
theorem dX2_takeNextOccurrence_21 : decode cX2_takeNextOccurrence 21 = .ok (.putfield 208, 3) := by decide +kernel
theorem dX2_takeNextOccurrence_24 : decode cX2_takeNextOccurrence 24 = .ok (.aload_n 2, 1) := by decide +kernel
theorem dX2_takeNextOccurrence_25 : decode cX2_takeNextOccurrence 25 = .ok (.getfield 211, 3) := by decide +kernel
theorem dX2_takeNextOccurrence_28 : decode cX2_takeNextOccurrence 28 = .ok (.iconst 4, 1) := by decide +kernel
theorem dX2_takeNextOccurrence_29 : decode cX2_takeNextOccurrence 29 = .ok (.if_icmp .ne 28, 3) := by decide +kernel
theorem dX2_takeNextOccurrence_32 : decode cX2_takeNextOccurrence 32 = .ok (.aload_n 0, 1) := by decide +kernel
theorem dX2_takeNextOccurrence_33 : decode cX2_takeNextOccurrence 33 = .ok (.getfield 12, 3) := by decide +kernel
theorem dX2_takeNextOccurrence_36 : decode cX2_takeNextOccurrence 36 = .ok (.aload_n 2, 1) := by decide +kernel
theorem dX2_takeNextOccurrence_37 : decode cX2_takeNextOccurrence 37 = .ok (.getfield 158, 3) := by decide +kernel
theorem dX2_takeNextOccurrence_40 : decode cX2_takeNextOccurrence 40 = .ok (.invokevirtual 179, 3) := by decide +kernel
theorem dX2_takeNextOccurrence_43 : decode cX2_takeNextOccurrence 43 = .ok (.ifCond .ne 14, 3) := by decide +kernel
theorem dX2_takeNextOccurrence_46 : decode cX2_takeNextOccurrence 46 = .ok (.aload_n 2, 1) := by decide +kernel
theorem dX2_takeNextOccurrence_47 : decode cX2_takeNextOccurrence 47 = .ok (.dup, 1) := by decide +kernel
theorem dX2_takeNextOccurrence_48 : decode cX2_takeNextOccurrence 48 = .ok (.getfield 214, 3) := by decide +kernel
theorem dX2_takeNextOccurrence_51 : decode cX2_takeNextOccurrence 51 = .ok (.iconst 1, 1) := by decide +kernel
theorem dX2_takeNextOccurrence_52 : decode cX2_takeNextOccurrence 52 = .ok (.iadd, 1) := by decide +kernel
theorem dX2_takeNextOccurrence_53 : decode cX2_takeNextOccurrence 53 = .ok (.putfield 214, 3) := by decide +kernel
theorem dX2_takeNextOccurrence_56 : decode cX2_takeNextOccurrence 56 = .ok (.return_, 1) := by decide +kernel
theorem dX2_takeNextOccurrence_57 : decode cX2_takeNextOccurrence 57 = .ok (.aload_n 0, 1) := by decide +kernel
theorem dX2_takeNextOccurrence_58 : decode cX2_takeNextOccurrence 58 = .ok (.getfield 33, 3) := by decide +kernel
theorem dX2_takeNextOccurrence_61 : decode cX2_takeNextOccurrence 61 = .ok (.iload_n 1, 1) := by decide +kernel
theorem dX2_takeNextOccurrence_62 : decode cX2_takeNextOccurrence 62 = .ok (.aload_n 2, 1) := by decide +kernel
theorem dX2_takeNextOccurrence_63 : decode cX2_takeNextOccurrence 63 = .ok (.getfield 130, 3) := by decide +kernel
theorem dX2_takeNextOccurrence_66 : decode cX2_takeNextOccurrence 66 = .ok (.aload_n 2, 1) := by decide +kernel
theorem dX2_takeNextOccurrence_67 : decode cX2_takeNextOccurrence 67 = .ok (.getfield 158, 3) := by decide +kernel
theorem dX2_takeNextOccurrence_70 : decode cX2_takeNextOccurrence 70 = .ok (.aload_n 0, 1) := by decide +kernel
theorem dX2_takeNextOccurrence_71 : decode cX2_takeNextOccurrence 71 = .ok (.getfield 68, 3) := by decide +kernel
theorem dX2_takeNextOccurrence_74 : decode cX2_takeNextOccurrence 74 = .ok (.invokevirtual 217, 3) := by decide +kernel
theorem dX2_takeNextOccurrence_77 : decode cX2_takeNextOccurrence 77 = .ok (.ifCond .ne 4, 3) := by decide +kernel
theorem dX2_takeNextOccurrence_80 : decode cX2_takeNextOccurrence 80 = .ok (.return_, 1) := by decide +kernel
theorem dX2_takeNextOccurrence_81 : decode cX2_takeNextOccurrence 81 = .ok (.aload_n 2, 1) := by decide +kernel
theorem dX2_takeNextOccurrence_82 : decode cX2_takeNextOccurrence 82 = .ok (.dup, 1) := by decide +kernel
theorem dX2_takeNextOccurrence_83 : decode cX2_takeNextOccurrence 83 = .ok (.getfield 136, 3) := by decide +kernel
theorem dX2_takeNextOccurrence_86 : decode cX2_takeNextOccurrence 86 = .ok (.iconst 1, 1) := by decide +kernel
theorem dX2_takeNextOccurrence_87 : decode cX2_takeNextOccurrence 87 = .ok (.iadd, 1) := by decide +kernel
theorem dX2_takeNextOccurrence_88 : decode cX2_takeNextOccurrence 88 = .ok (.putfield 136, 3) := by decide +kernel
theorem dX2_takeNextOccurrence_91 : decode cX2_takeNextOccurrence 91 = .ok (.aload_n 0, 1) := by decide +kernel
theorem dX2_takeNextOccurrence_92 : decode cX2_takeNextOccurrence 92 = .ok (.getfield 20, 3) := by decide +kernel
theorem dX2_takeNextOccurrence_95 : decode cX2_takeNextOccurrence 95 = .ok (.aload_n 2, 1) := by decide +kernel
theorem dX2_takeNextOccurrence_96 : decode cX2_takeNextOccurrence 96 = .ok (.getfield 221, 3) := by decide +kernel
theorem dX2_takeNextOccurrence_99 : decode cX2_takeNextOccurrence 99 = .ok (.aaload, 1) := by decide +kernel
theorem dX2_takeNextOccurrence_100 : decode cX2_takeNextOccurrence 100 = .ok (.dup, 1) := by decide +kernel
theorem dX2_takeNextOccurrence_101 : decode cX2_takeNextOccurrence 101 = .ok (.getfield 224, 3) := by decide +kernel
theorem dX2_takeNextOccurrence_104 : decode cX2_takeNextOccurrence 104 = .ok (.aload_n 2, 1) := by decide +kernel
theorem dX2_takeNextOccurrence_105 : decode cX2_takeNextOccurrence 105 = .ok (.getfield 130, 3) := by decide +kernel
theorem dX2_takeNextOccurrence_108 : decode cX2_takeNextOccurrence 108 = .ok (.i2l, 1) := by decide +kernel
theorem dX2_takeNextOccurrence_109 : decode cX2_takeNextOccurrence 109 = .ok (.ladd, 1) := by decide +kernel
theorem dX2_takeNextOccurrence_110 : decode cX2_takeNextOccurrence 110 = .ok (.putfield 224, 3) := by decide +kernel
theorem dX2_takeNextOccurrence_113 : decode cX2_takeNextOccurrence 113 = .ok (.return_, 1) := by decide +kernel
theorem dX2_sweep_0 : decode cX2_sweep 0 = .ok (.iconst 0, 1) := by decide +kernel
theorem dX2_sweep_1 : decode cX2_sweep 1 = .ok (.istore_n 1, 1) := by decide +kernel
theorem dX2_sweep_2 : decode cX2_sweep 2 = .ok (.iload_n 1, 1) := by decide +kernel
theorem dX2_sweep_3 : decode cX2_sweep 3 = .ok (.aload_n 0, 1) := by decide +kernel
theorem dX2_sweep_4 : decode cX2_sweep 4 = .ok (.getfield 53, 3) := by decide +kernel
theorem dX2_sweep_7 : decode cX2_sweep 7 = .ok (.if_icmp .ge 128, 3) := by decide +kernel
theorem dX2_sweep_10 : decode cX2_sweep 10 = .ok (.aload_n 0, 1) := by decide +kernel
theorem dX2_sweep_11 : decode cX2_sweep 11 = .ok (.getfield 20, 3) := by decide +kernel
theorem dX2_sweep_14 : decode cX2_sweep 14 = .ok (.iload_n 1, 1) := by decide +kernel
theorem dX2_sweep_15 : decode cX2_sweep 15 = .ok (.aaload, 1) := by decide +kernel
theorem dX2_sweep_16 : decode cX2_sweep 16 = .ok (.astore_n 2, 1) := by decide +kernel
theorem dX2_sweep_17 : decode cX2_sweep 17 = .ok (.aload_n 0, 1) := by decide +kernel
theorem dX2_sweep_18 : decode cX2_sweep 18 = .ok (.aload_n 2, 1) := by decide +kernel
theorem dX2_sweep_19 : decode cX2_sweep 19 = .ok (.getfield 101, 3) := by decide +kernel
theorem dX2_sweep_22 : decode cX2_sweep 22 = .ok (.invokevirtual 97, 3) := by decide +kernel
theorem dX2_sweep_25 : decode cX2_sweep 25 = .ok (.ifCond .ne 6, 3) := by decide +kernel
theorem dX2_sweep_28 : decode cX2_sweep 28 = .ok (.goto 101, 3) := by decide +kernel
theorem dX2_sweep_31 : decode cX2_sweep 31 = .ok (.aload_n 0, 1) := by decide +kernel
theorem dX2_sweep_32 : decode cX2_sweep 32 = .ok (.getfield 20, 3) := by decide +kernel
theorem dX2_sweep_35 : decode cX2_sweep 35 = .ok (.aload_n 2, 1) := by decide +kernel
theorem dX2_sweep_36 : decode cX2_sweep 36 = .ok (.getfield 101, 3) := by decide +kernel
theorem dX2_sweep_39 : decode cX2_sweep 39 = .ok (.aaload, 1) := by decide +kernel
theorem dX2_sweep_40 : decode cX2_sweep 40 = .ok (.astore_n 3, 1) := by decide +kernel
theorem dX2_sweep_41 : decode cX2_sweep 41 = .ok (.aload_n 2, 1) := by decide +kernel
theorem dX2_sweep_42 : decode cX2_sweep 42 = .ok (.getfield 224, 3) := by decide +kernel
theorem dX2_sweep_45 : decode cX2_sweep 45 = .ok (.aload_n 2, 1) := by decide +kernel
theorem dX2_sweep_46 : decode cX2_sweep 46 = .ok (.getfield 105, 3) := by decide +kernel
theorem dX2_sweep_49 : decode cX2_sweep 49 = .ok (.lsub, 1) := by decide +kernel
theorem dX2_sweep_50 : decode cX2_sweep 50 = .ok (.aload_n 2, 1) := by decide +kernel
theorem dX2_sweep_51 : decode cX2_sweep 51 = .ok (.getfield 227, 3) := by decide +kernel
theorem dX2_sweep_54 : decode cX2_sweep 54 = .ok (.i2l, 1) := by decide +kernel
theorem dX2_sweep_55 : decode cX2_sweep 55 = .ok (.lsub, 1) := by decide +kernel
theorem dX2_sweep_56 : decode cX2_sweep 56 = .ok (.lstore 4, 2) := by decide +kernel
theorem dX2_sweep_58 : decode cX2_sweep 58 = .ok (.lload 4, 2) := by decide +kernel
theorem dX2_sweep_60 : decode cX2_sweep 60 = .ok (.aload_n 3, 1) := by decide +kernel
theorem dX2_sweep_61 : decode cX2_sweep 61 = .ok (.getfield 105, 3) := by decide +kernel
theorem dX2_sweep_64 : decode cX2_sweep 64 = .ok (.aload_n 3, 1) := by decide +kernel
theorem dX2_sweep_65 : decode cX2_sweep 65 = .ok (.getfield 230, 3) := by decide +kernel
theorem dX2_sweep_68 : decode cX2_sweep 68 = .ok (.i2l, 1) := by decide +kernel
theorem dX2_sweep_69 : decode cX2_sweep 69 = .ok (.lsub, 1) := by decide +kernel
theorem dX2_sweep_70 : decode cX2_sweep 70 = .ok (.invokestatic 233, 3) := by decide +kernel
theorem dX2_sweep_73 : decode cX2_sweep 73 = .ok (.lstore 6, 2) := by decide +kernel
theorem dX2_sweep_75 : decode cX2_sweep 75 = .ok (.lload 6, 2) := by decide +kernel
theorem dX2_sweep_77 : decode cX2_sweep 77 = .ok (.lconst 0, 1) := by decide +kernel
theorem dX2_sweep_78 : decode cX2_sweep 78 = .ok (.lcmp, 1) := by decide +kernel
theorem dX2_sweep_79 : decode cX2_sweep 79 = .ok (.ifCond .gt 6, 3) := by decide +kernel
theorem dX2_sweep_82 : decode cX2_sweep 82 = .ok (.goto 47, 3) := by decide +kernel
theorem dX2_sweep_85 : decode cX2_sweep 85 = .ok (.aload_n 3, 1) := by decide +kernel
theorem dX2_sweep_86 : decode cX2_sweep 86 = .ok (.dup, 1) := by decide +kernel
theorem dX2_sweep_87 : decode cX2_sweep 87 = .ok (.getfield 105, 3) := by decide +kernel
theorem dX2_sweep_90 : decode cX2_sweep 90 = .ok (.lload 6, 2) := by decide +kernel
theorem dX2_sweep_92 : decode cX2_sweep 92 = .ok (.lsub, 1) := by decide +kernel
theorem dX2_sweep_93 : decode cX2_sweep 93 = .ok (.putfield 105, 3) := by decide +kernel
theorem dX2_sweep_96 : decode cX2_sweep 96 = .ok (.aload_n 3, 1) := by decide +kernel
theorem dX2_sweep_97 : decode cX2_sweep 97 = .ok (.dup, 1) := by decide +kernel
theorem dX2_sweep_98 : decode cX2_sweep 98 = .ok (.getfield 239, 3) := by decide +kernel
theorem dX2_sweep_101 : decode cX2_sweep 101 = .ok (.lload 6, 2) := by decide +kernel
theorem dX2_sweep_103 : decode cX2_sweep 103 = .ok (.ladd, 1) := by decide +kernel
theorem dX2_sweep_104 : decode cX2_sweep 104 = .ok (.putfield 239, 3) := by decide +kernel
theorem dX2_sweep_107 : decode cX2_sweep 107 = .ok (.aload_n 2, 1) := by decide +kernel
theorem dX2_sweep_108 : decode cX2_sweep 108 = .ok (.dup, 1) := by decide +kernel
theorem dX2_sweep_109 : decode cX2_sweep 109 = .ok (.getfield 105, 3) := by decide +kernel
theorem dX2_sweep_112 : decode cX2_sweep 112 = .ok (.lload 6, 2) := by decide +kernel
theorem dX2_sweep_114 : decode cX2_sweep 114 = .ok (.ladd, 1) := by decide +kernel
theorem dX2_sweep_115 : decode cX2_sweep 115 = .ok (.putfield 105, 3) := by decide +kernel
theorem dX2_sweep_118 : decode cX2_sweep 118 = .ok (.aload_n 2, 1) := by decide +kernel
theorem dX2_sweep_119 : decode cX2_sweep 119 = .ok (.dup, 1) := by decide +kernel
theorem dX2_sweep_120 : decode cX2_sweep 120 = .ok (.getfield 242, 3) := by decide +kernel
theorem dX2_sweep_123 : decode cX2_sweep 123 = .ok (.lload 6, 2) := by decide +kernel
theorem dX2_sweep_125 : decode cX2_sweep 125 = .ok (.ladd, 1) := by decide +kernel
theorem dX2_sweep_126 : decode cX2_sweep 126 = .ok (.putfield 242, 3) := by decide +kernel
theorem dX2_sweep_129 : decode cX2_sweep 129 = .ok (.iinc 1 1, 3) := by decide +kernel
theorem dX2_sweep_132 : decode cX2_sweep 132 = .ok (.goto (-130), 3) := by decide +kernel
theorem dX2_sweep_135 : decode cX2_sweep 135 = .ok (.return_, 1) := by decide +kernel
theorem dX2_payWaiting_0 : decode cX2_payWaiting 0 = .ok (.iconst 0, 1) := by decide +kernel
theorem dX2_payWaiting_1 : decode cX2_payWaiting 1 = .ok (.istore_n 1, 1) := by decide +kernel
theorem dX2_payWaiting_2 : decode cX2_payWaiting 2 = .ok (.iconst 0, 1) := by decide +kernel
theorem dX2_payWaiting_3 : decode cX2_payWaiting 3 = .ok (.istore_n 2, 1) := by decide +kernel
theorem dX2_payWaiting_4 : decode cX2_payWaiting 4 = .ok (.iload_n 2, 1) := by decide +kernel
theorem dX2_payWaiting_5 : decode cX2_payWaiting 5 = .ok (.aload_n 0, 1) := by decide +kernel
theorem dX2_payWaiting_6 : decode cX2_payWaiting 6 = .ok (.getfield 33, 3) := by decide +kernel
theorem dX2_payWaiting_9 : decode cX2_payWaiting 9 = .ok (.getfield 138, 3) := by decide +kernel
theorem dX2_payWaiting_12 : decode cX2_payWaiting 12 = .ok (.if_icmp .ge 33, 3) := by decide +kernel
theorem dX2_payWaiting_15 : decode cX2_payWaiting 15 = .ok (.iload_n 1, 1) := by decide +kernel
theorem dX2_payWaiting_16 : decode cX2_payWaiting 16 = .ok (.iconst 1, 1) := by decide +kernel
theorem dX2_payWaiting_17 : decode cX2_payWaiting 17 = .ok (.aload_n 0, 1) := by decide +kernel
theorem dX2_payWaiting_18 : decode cX2_payWaiting 18 = .ok (.getfield 26, 3) := by decide +kernel
theorem dX2_payWaiting_21 : decode cX2_payWaiting 21 = .ok (.aload_n 0, 1) := by decide +kernel
theorem dX2_payWaiting_22 : decode cX2_payWaiting 22 = .ok (.getfield 33, 3) := by decide +kernel
theorem dX2_payWaiting_25 : decode cX2_payWaiting 25 = .ok (.getfield 141, 3) := by decide +kernel
theorem dX2_payWaiting_28 : decode cX2_payWaiting 28 = .ok (.iconst 0, 1) := by decide +kernel
theorem dX2_payWaiting_29 : decode cX2_payWaiting 29 = .ok (.aaload, 1) := by decide +kernel
theorem dX2_payWaiting_30 : decode cX2_payWaiting 30 = .ok (.iload_n 2, 1) := by decide +kernel
theorem dX2_payWaiting_31 : decode cX2_payWaiting 31 = .ok (.iaload, 1) := by decide +kernel
theorem dX2_payWaiting_32 : decode cX2_payWaiting 32 = .ok (.aaload, 1) := by decide +kernel
theorem dX2_payWaiting_33 : decode cX2_payWaiting 33 = .ok (.getfield 133, 3) := by decide +kernel
theorem dX2_payWaiting_36 : decode cX2_payWaiting 36 = .ok (.ishl, 1) := by decide +kernel
theorem dX2_payWaiting_37 : decode cX2_payWaiting 37 = .ok (.ior, 1) := by decide +kernel
theorem dX2_payWaiting_38 : decode cX2_payWaiting 38 = .ok (.istore_n 1, 1) := by decide +kernel
theorem dX2_payWaiting_39 : decode cX2_payWaiting 39 = .ok (.iinc 2 1, 3) := by decide +kernel
theorem dX2_payWaiting_42 : decode cX2_payWaiting 42 = .ok (.goto (-38), 3) := by decide +kernel
theorem dX2_payWaiting_45 : decode cX2_payWaiting 45 = .ok (.bipush 9, 2) := by decide +kernel
theorem dX2_payWaiting_47 : decode cX2_payWaiting 47 = .ok (.istore_n 2, 1) := by decide +kernel
theorem dX2_payWaiting_48 : decode cX2_payWaiting 48 = .ok (.iload_n 2, 1) := by decide +kernel
theorem dX2_payWaiting_49 : decode cX2_payWaiting 49 = .ok (.ifCond .lt 22, 3) := by decide +kernel
theorem dX2_payWaiting_52 : decode cX2_payWaiting 52 = .ok (.iload_n 1, 1) := by decide +kernel
theorem dX2_payWaiting_53 : decode cX2_payWaiting 53 = .ok (.iload_n 2, 1) := by decide +kernel
theorem dX2_payWaiting_54 : decode cX2_payWaiting 54 = .ok (.ishr, 1) := by decide +kernel
theorem dX2_payWaiting_55 : decode cX2_payWaiting 55 = .ok (.iconst 1, 1) := by decide +kernel
theorem dX2_payWaiting_56 : decode cX2_payWaiting 56 = .ok (.iand, 1) := by decide +kernel
theorem dX2_payWaiting_57 : decode cX2_payWaiting 57 = .ok (.ifCond .eq 8, 3) := by decide +kernel
theorem dX2_payWaiting_60 : decode cX2_payWaiting 60 = .ok (.aload_n 0, 1) := by decide +kernel
theorem dX2_payWaiting_61 : decode cX2_payWaiting 61 = .ok (.iload_n 2, 1) := by decide +kernel
theorem dX2_payWaiting_62 : decode cX2_payWaiting 62 = .ok (.invokevirtual 245, 3) := by decide +kernel
theorem dX2_payWaiting_65 : decode cX2_payWaiting 65 = .ok (.iinc 2 (-1), 3) := by decide +kernel
theorem dX2_payWaiting_68 : decode cX2_payWaiting 68 = .ok (.goto (-20), 3) := by decide +kernel
theorem dX2_payWaiting_71 : decode cX2_payWaiting 71 = .ok (.aload_n 0, 1) := by decide +kernel
theorem dX2_payWaiting_72 : decode cX2_payWaiting 72 = .ok (.getfield 33, 3) := by decide +kernel
theorem dX2_payWaiting_75 : decode cX2_payWaiting 75 = .ok (.invokevirtual 152, 3) := by decide +kernel
theorem dX2_payWaiting_78 : decode cX2_payWaiting 78 = .ok (.return_, 1) := by decide +kernel
theorem dX2_payWaitingOf_0 : decode cX2_payWaitingOf 0 = .ok (.iconst 0, 1) := by decide +kernel
theorem dX2_payWaitingOf_1 : decode cX2_payWaitingOf 1 = .ok (.istore_n 2, 1) := by decide +kernel
theorem dX2_payWaitingOf_2 : decode cX2_payWaitingOf 2 = .ok (.iload_n 2, 1) := by decide +kernel
theorem dX2_payWaitingOf_3 : decode cX2_payWaitingOf 3 = .ok (.aload_n 0, 1) := by decide +kernel
theorem dX2_payWaitingOf_4 : decode cX2_payWaitingOf 4 = .ok (.getfield 33, 3) := by decide +kernel
theorem dX2_payWaitingOf_7 : decode cX2_payWaitingOf 7 = .ok (.getfield 138, 3) := by decide +kernel
theorem dX2_payWaitingOf_10 : decode cX2_payWaitingOf 10 = .ok (.if_icmp .ge 37, 3) := by decide +kernel
theorem dX2_payWaitingOf_13 : decode cX2_payWaitingOf 13 = .ok (.aload_n 0, 1) := by decide +kernel
theorem dX2_payWaitingOf_14 : decode cX2_payWaitingOf 14 = .ok (.getfield 26, 3) := by decide +kernel
theorem dX2_payWaitingOf_17 : decode cX2_payWaitingOf 17 = .ok (.aload_n 0, 1) := by decide +kernel
theorem dX2_payWaitingOf_18 : decode cX2_payWaitingOf 18 = .ok (.getfield 33, 3) := by decide +kernel
theorem dX2_payWaitingOf_21 : decode cX2_payWaitingOf 21 = .ok (.getfield 141, 3) := by decide +kernel
theorem dX2_payWaitingOf_24 : decode cX2_payWaitingOf 24 = .ok (.iconst 0, 1) := by decide +kernel
theorem dX2_payWaitingOf_25 : decode cX2_payWaitingOf 25 = .ok (.aaload, 1) := by decide +kernel
theorem dX2_payWaitingOf_26 : decode cX2_payWaitingOf 26 = .ok (.iload_n 2, 1) := by decide +kernel
theorem dX2_payWaitingOf_27 : decode cX2_payWaitingOf 27 = .ok (.iaload, 1) := by decide +kernel
theorem dX2_payWaitingOf_28 : decode cX2_payWaitingOf 28 = .ok (.aaload, 1) := by decide +kernel
theorem dX2_payWaitingOf_29 : decode cX2_payWaitingOf 29 = .ok (.getfield 133, 3) := by decide +kernel
theorem dX2_payWaitingOf_32 : decode cX2_payWaitingOf 32 = .ok (.iload_n 1, 1) := by decide +kernel
theorem dX2_payWaitingOf_33 : decode cX2_payWaitingOf 33 = .ok (.if_icmp .ne 8, 3) := by decide +kernel
theorem dX2_payWaitingOf_36 : decode cX2_payWaitingOf 36 = .ok (.aload_n 0, 1) := by decide +kernel
theorem dX2_payWaitingOf_37 : decode cX2_payWaitingOf 37 = .ok (.iload_n 2, 1) := by decide +kernel
theorem dX2_payWaitingOf_38 : decode cX2_payWaitingOf 38 = .ok (.invokevirtual 248, 3) := by decide +kernel
theorem dX2_payWaitingOf_41 : decode cX2_payWaitingOf 41 = .ok (.iinc 2 1, 3) := by decide +kernel
theorem dX2_payWaitingOf_44 : decode cX2_payWaitingOf 44 = .ok (.goto (-42), 3) := by decide +kernel
theorem dX2_payWaitingOf_47 : decode cX2_payWaitingOf 47 = .ok (.return_, 1) := by decide +kernel
theorem dX2_tryPayment_0 : decode cX2_tryPayment 0 = .ok (.aload_n 0, 1) := by decide +kernel
theorem dX2_tryPayment_1 : decode cX2_tryPayment 1 = .ok (.getfield 26, 3) := by decide +kernel
theorem dX2_tryPayment_4 : decode cX2_tryPayment 4 = .ok (.aload_n 0, 1) := by decide +kernel
theorem dX2_tryPayment_5 : decode cX2_tryPayment 5 = .ok (.getfield 33, 3) := by decide +kernel
theorem dX2_tryPayment_8 : decode cX2_tryPayment 8 = .ok (.getfield 141, 3) := by decide +kernel
theorem dX2_tryPayment_11 : decode cX2_tryPayment 11 = .ok (.iconst 0, 1) := by decide +kernel
theorem dX2_tryPayment_12 : decode cX2_tryPayment 12 = .ok (.aaload, 1) := by decide +kernel
theorem dX2_tryPayment_13 : decode cX2_tryPayment 13 = .ok (.iload_n 1, 1) := by decide +kernel
theorem dX2_tryPayment_14 : decode cX2_tryPayment 14 = .ok (.iaload, 1) := by decide +kernel
theorem dX2_tryPayment_15 : decode cX2_tryPayment 15 = .ok (.aaload, 1) := by decide +kernel
theorem dX2_tryPayment_16 : decode cX2_tryPayment 16 = .ok (.astore_n 2, 1) := by decide +kernel
theorem dX2_tryPayment_17 : decode cX2_tryPayment 17 = .ok (.aload_n 0, 1) := by decide +kernel
theorem dX2_tryPayment_18 : decode cX2_tryPayment 18 = .ok (.getfield 20, 3) := by decide +kernel
theorem dX2_tryPayment_21 : decode cX2_tryPayment 21 = .ok (.aload_n 2, 1) := by decide +kernel
theorem dX2_tryPayment_22 : decode cX2_tryPayment 22 = .ok (.getfield 221, 3) := by decide +kernel
theorem dX2_tryPayment_25 : decode cX2_tryPayment 25 = .ok (.aaload, 1) := by decide +kernel
theorem dX2_tryPayment_26 : decode cX2_tryPayment 26 = .ok (.astore_n 3, 1) := by decide +kernel
theorem dX2_tryPayment_27 : decode cX2_tryPayment 27 = .ok (.aload_n 0, 1) := by decide +kernel
theorem dX2_tryPayment_28 : decode cX2_tryPayment 28 = .ok (.getfield 33, 3) := by decide +kernel
theorem dX2_tryPayment_31 : decode cX2_tryPayment 31 = .ok (.getfield 141, 3) := by decide +kernel
theorem dX2_tryPayment_34 : decode cX2_tryPayment 34 = .ok (.iconst 1, 1) := by decide +kernel
theorem dX2_tryPayment_35 : decode cX2_tryPayment 35 = .ok (.aaload, 1) := by decide +kernel
theorem dX2_tryPayment_36 : decode cX2_tryPayment 36 = .ok (.iload_n 1, 1) := by decide +kernel
theorem dX2_tryPayment_37 : decode cX2_tryPayment 37 = .ok (.iaload, 1) := by decide +kernel
theorem dX2_tryPayment_38 : decode cX2_tryPayment 38 = .ok (.istore 4, 2) := by decide +kernel
theorem dX2_tryPayment_40 : decode cX2_tryPayment 40 = .ok (.aload_n 3, 1) := by decide +kernel
theorem dX2_tryPayment_41 : decode cX2_tryPayment 41 = .ok (.getfield 105, 3) := by decide +kernel
theorem dX2_tryPayment_44 : decode cX2_tryPayment 44 = .ok (.aload_n 3, 1) := by decide +kernel
theorem dX2_tryPayment_45 : decode cX2_tryPayment 45 = .ok (.getfield 227, 3) := by decide +kernel
theorem dX2_tryPayment_48 : decode cX2_tryPayment 48 = .ok (.i2l, 1) := by decide +kernel
theorem dX2_tryPayment_49 : decode cX2_tryPayment 49 = .ok (.ladd, 1) := by decide +kernel
theorem dX2_tryPayment_50 : decode cX2_tryPayment 50 = .ok (.iload 4, 2) := by decide +kernel
theorem dX2_tryPayment_52 : decode cX2_tryPayment 52 = .ok (.i2l, 1) := by decide +kernel
theorem dX2_tryPayment_53 : decode cX2_tryPayment 53 = .ok (.lcmp, 1) := by decide +kernel
theorem dX2_tryPayment_54 : decode cX2_tryPayment 54 = .ok (.ifCond .ge 9, 3) := by decide +kernel
theorem dX2_tryPayment_57 : decode cX2_tryPayment 57 = .ok (.aload_n 0, 1) := by decide +kernel
theorem dX2_tryPayment_58 : decode cX2_tryPayment 58 = .ok (.iload_n 1, 1) := by decide +kernel
theorem dX2_tryPayment_59 : decode cX2_tryPayment 59 = .ok (.invokevirtual 251, 3) := by decide +kernel
theorem dX2_tryPayment_62 : decode cX2_tryPayment 62 = .ok (.return_, 1) := by decide +kernel
theorem dX2_tryPayment_63 : decode cX2_tryPayment 63 = .ok (.aload_n 3, 1) := by decide +kernel
theorem dX2_tryPayment_64 : decode cX2_tryPayment 64 = .ok (.dup, 1) := by decide +kernel
theorem dX2_tryPayment_65 : decode cX2_tryPayment 65 = .ok (.getfield 105, 3) := by decide +kernel
theorem dX2_tryPayment_68 : decode cX2_tryPayment 68 = .ok (.iload 4, 2) := by decide +kernel
theorem dX2_tryPayment_70 : decode cX2_tryPayment 70 = .ok (.i2l, 1) := by decide +kernel
theorem dX2_tryPayment_71 : decode cX2_tryPayment 71 = .ok (.lsub, 1) := by decide +kernel
theorem dX2_tryPayment_72 : decode cX2_tryPayment 72 = .ok (.putfield 105, 3) := by decide +kernel
theorem dX2_tryPayment_75 : decode cX2_tryPayment 75 = .ok (.aload_n 3, 1) := by decide +kernel
theorem dX2_tryPayment_76 : decode cX2_tryPayment 76 = .ok (.dup, 1) := by decide +kernel
theorem dX2_tryPayment_77 : decode cX2_tryPayment 77 = .ok (.getfield 254, 3) := by decide +kernel
theorem dX2_tryPayment_80 : decode cX2_tryPayment 80 = .ok (.iload 4, 2) := by decide +kernel
theorem dX2_tryPayment_82 : decode cX2_tryPayment 82 = .ok (.i2l, 1) := by decide +kernel
theorem dX2_tryPayment_83 : decode cX2_tryPayment 83 = .ok (.ladd, 1) := by decide +kernel
theorem dX2_tryPayment_84 : decode cX2_tryPayment 84 = .ok (.putfield 254, 3) := by decide +kernel
theorem dX2_tryPayment_87 : decode cX2_tryPayment 87 = .ok (.aload_n 0, 1) := by decide +kernel
theorem dX2_tryPayment_88 : decode cX2_tryPayment 88 = .ok (.aload_n 2, 1) := by decide +kernel
theorem dX2_tryPayment_89 : decode cX2_tryPayment 89 = .ok (.getfield 257, 3) := by decide +kernel
theorem dX2_tryPayment_92 : decode cX2_tryPayment 92 = .ok (.invokevirtual 97, 3) := by decide +kernel
theorem dX2_tryPayment_95 : decode cX2_tryPayment 95 = .ok (.ifCond .eq 43, 3) := by decide +kernel
theorem dX2_tryPayment_98 : decode cX2_tryPayment 98 = .ok (.aload_n 0, 1) := by decide +kernel
theorem dX2_tryPayment_99 : decode cX2_tryPayment 99 = .ok (.getfield 20, 3) := by decide +kernel
theorem dX2_tryPayment_102 : decode cX2_tryPayment 102 = .ok (.aload_n 2, 1) := by decide +kernel
theorem dX2_tryPayment_103 : decode cX2_tryPayment 103 = .ok (.getfield 257, 3) := by decide +kernel
theorem dX2_tryPayment_106 : decode cX2_tryPayment 106 = .ok (.aaload, 1) := by decide +kernel
theorem dX2_tryPayment_107 : decode cX2_tryPayment 107 = .ok (.dup, 1) := by decide +kernel
theorem dX2_tryPayment_108 : decode cX2_tryPayment 108 = .ok (.getfield 105, 3) := by decide +kernel
theorem dX2_tryPayment_111 : decode cX2_tryPayment 111 = .ok (.iload 4, 2) := by decide +kernel
theorem dX2_tryPayment_113 : decode cX2_tryPayment 113 = .ok (.i2l, 1) := by decide +kernel
theorem dX2_tryPayment_114 : decode cX2_tryPayment 114 = .ok (.ladd, 1) := by decide +kernel
theorem dX2_tryPayment_115 : decode cX2_tryPayment 115 = .ok (.putfield 105, 3) := by decide +kernel
theorem dX2_tryPayment_118 : decode cX2_tryPayment 118 = .ok (.aload_n 0, 1) := by decide +kernel
theorem dX2_tryPayment_119 : decode cX2_tryPayment 119 = .ok (.getfield 20, 3) := by decide +kernel
theorem dX2_tryPayment_122 : decode cX2_tryPayment 122 = .ok (.aload_n 2, 1) := by decide +kernel
theorem dX2_tryPayment_123 : decode cX2_tryPayment 123 = .ok (.getfield 257, 3) := by decide +kernel
theorem dX2_tryPayment_126 : decode cX2_tryPayment 126 = .ok (.aaload, 1) := by decide +kernel
theorem dX2_tryPayment_127 : decode cX2_tryPayment 127 = .ok (.dup, 1) := by decide +kernel
theorem dX2_tryPayment_128 : decode cX2_tryPayment 128 = .ok (.getfield 260, 3) := by decide +kernel
theorem dX2_tryPayment_131 : decode cX2_tryPayment 131 = .ok (.iload 4, 2) := by decide +kernel
theorem dX2_tryPayment_133 : decode cX2_tryPayment 133 = .ok (.i2l, 1) := by decide +kernel
theorem dX2_tryPayment_134 : decode cX2_tryPayment 134 = .ok (.ladd, 1) := by decide +kernel
theorem dX2_tryPayment_135 : decode cX2_tryPayment 135 = .ok (.putfield 260, 3) := by decide +kernel
theorem dX2_tryPayment_138 : decode cX2_tryPayment 138 = .ok (.aload_n 2, 1) := by decide +kernel
theorem dX2_tryPayment_139 : decode cX2_tryPayment 139 = .ok (.dup, 1) := by decide +kernel
theorem dX2_tryPayment_140 : decode cX2_tryPayment 140 = .ok (.getfield 263, 3) := by decide +kernel
theorem dX2_tryPayment_143 : decode cX2_tryPayment 143 = .ok (.iconst 1, 1) := by decide +kernel
theorem dX2_tryPayment_144 : decode cX2_tryPayment 144 = .ok (.iadd, 1) := by decide +kernel
theorem dX2_tryPayment_145 : decode cX2_tryPayment 145 = .ok (.putfield 263, 3) := by decide +kernel
theorem dX2_tryPayment_148 : decode cX2_tryPayment 148 = .ok (.aload_n 0, 1) := by decide +kernel
theorem dX2_tryPayment_149 : decode cX2_tryPayment 149 = .ok (.iload_n 1, 1) := by decide +kernel
theorem dX2_tryPayment_150 : decode cX2_tryPayment 150 = .ok (.invokevirtual 148, 3) := by decide +kernel
theorem dX2_tryPayment_153 : decode cX2_tryPayment 153 = .ok (.return_, 1) := by decide +kernel
theorem dX2_failTry_0 : decode cX2_failTry 0 = .ok (.aload_n 0, 1) := by decide +kernel
theorem dX2_failTry_1 : decode cX2_failTry 1 = .ok (.getfield 26, 3) := by decide +kernel
theorem dX2_failTry_4 : decode cX2_failTry 4 = .ok (.aload_n 0, 1) := by decide +kernel
theorem dX2_failTry_5 : decode cX2_failTry 5 = .ok (.getfield 33, 3) := by decide +kernel
theorem dX2_failTry_8 : decode cX2_failTry 8 = .ok (.getfield 141, 3) := by decide +kernel
theorem dX2_failTry_11 : decode cX2_failTry 11 = .ok (.iconst 0, 1) := by decide +kernel
theorem dX2_failTry_12 : decode cX2_failTry 12 = .ok (.aaload, 1) := by decide +kernel
theorem dX2_failTry_13 : decode cX2_failTry 13 = .ok (.iload_n 1, 1) := by decide +kernel
theorem dX2_failTry_14 : decode cX2_failTry 14 = .ok (.iaload, 1) := by decide +kernel
theorem dX2_failTry_15 : decode cX2_failTry 15 = .ok (.aaload, 1) := by decide +kernel
theorem dX2_failTry_16 : decode cX2_failTry 16 = .ok (.astore_n 2, 1) := by decide +kernel
theorem dX2_failTry_17 : decode cX2_failTry 17 = .ok (.aload_n 0, 1) := by decide +kernel
theorem dX2_failTry_18 : decode cX2_failTry 18 = .ok (.getfield 20, 3) := by decide +kernel
theorem dX2_failTry_21 : decode cX2_failTry 21 = .ok (.aload_n 2, 1) := by decide +kernel
theorem dX2_failTry_22 : decode cX2_failTry 22 = .ok (.getfield 221, 3) := by decide +kernel
theorem dX2_failTry_25 : decode cX2_failTry 25 = .ok (.aaload, 1) := by decide +kernel
theorem dX2_failTry_26 : decode cX2_failTry 26 = .ok (.dup, 1) := by decide +kernel
theorem dX2_failTry_27 : decode cX2_failTry 27 = .ok (.getfield 105, 3) := by decide +kernel
theorem dX2_failTry_30 : decode cX2_failTry 30 = .ok (.aload_n 0, 1) := by decide +kernel
theorem dX2_failTry_31 : decode cX2_failTry 31 = .ok (.getfield 41, 3) := by decide +kernel
theorem dX2_failTry_34 : decode cX2_failTry 34 = .ok (.i2l, 1) := by decide +kernel
theorem dX2_failTry_35 : decode cX2_failTry 35 = .ok (.lsub, 1) := by decide +kernel
theorem dX2_failTry_36 : decode cX2_failTry 36 = .ok (.putfield 105, 3) := by decide +kernel
theorem dX2_failTry_39 : decode cX2_failTry 39 = .ok (.aload_n 0, 1) := by decide +kernel
theorem dX2_failTry_40 : decode cX2_failTry 40 = .ok (.getfield 20, 3) := by decide +kernel
theorem dX2_failTry_43 : decode cX2_failTry 43 = .ok (.aload_n 2, 1) := by decide +kernel
theorem dX2_failTry_44 : decode cX2_failTry 44 = .ok (.getfield 221, 3) := by decide +kernel
theorem dX2_failTry_47 : decode cX2_failTry 47 = .ok (.aaload, 1) := by decide +kernel
theorem dX2_failTry_48 : decode cX2_failTry 48 = .ok (.dup, 1) := by decide +kernel
theorem dX2_failTry_49 : decode cX2_failTry 49 = .ok (.getfield 266, 3) := by decide +kernel
theorem dX2_failTry_52 : decode cX2_failTry 52 = .ok (.aload_n 0, 1) := by decide +kernel
theorem dX2_failTry_53 : decode cX2_failTry 53 = .ok (.getfield 41, 3) := by decide +kernel
theorem dX2_failTry_56 : decode cX2_failTry 56 = .ok (.i2l, 1) := by decide +kernel
theorem dX2_failTry_57 : decode cX2_failTry 57 = .ok (.ladd, 1) := by decide +kernel
theorem dX2_failTry_58 : decode cX2_failTry 58 = .ok (.putfield 266, 3) := by decide +kernel
theorem dX2_failTry_61 : decode cX2_failTry 61 = .ok (.aload_n 0, 1) := by decide +kernel
theorem dX2_failTry_62 : decode cX2_failTry 62 = .ok (.dup, 1) := by decide +kernel
theorem dX2_failTry_63 : decode cX2_failTry 63 = .ok (.getfield 71, 3) := by decide +kernel
theorem dX2_failTry_66 : decode cX2_failTry 66 = .ok (.iconst 1, 1) := by decide +kernel
theorem dX2_failTry_67 : decode cX2_failTry 67 = .ok (.iadd, 1) := by decide +kernel
theorem dX2_failTry_68 : decode cX2_failTry 68 = .ok (.putfield 71, 3) := by decide +kernel
theorem dX2_failTry_71 : decode cX2_failTry 71 = .ok (.aload_n 0, 1) := by decide +kernel
theorem dX2_failTry_72 : decode cX2_failTry 72 = .ok (.dup, 1) := by decide +kernel
theorem dX2_failTry_73 : decode cX2_failTry 73 = .ok (.getfield 170, 3) := by decide +kernel
theorem dX2_failTry_76 : decode cX2_failTry 76 = .ok (.iconst 1, 1) := by decide +kernel
theorem dX2_failTry_77 : decode cX2_failTry 77 = .ok (.aload_n 2, 1) := by decide +kernel
theorem dX2_failTry_78 : decode cX2_failTry 78 = .ok (.getfield 221, 3) := by decide +kernel
theorem dX2_failTry_81 : decode cX2_failTry 81 = .ok (.ishl, 1) := by decide +kernel
theorem dX2_failTry_82 : decode cX2_failTry 82 = .ok (.ior, 1) := by decide +kernel
theorem dX2_failTry_83 : decode cX2_failTry 83 = .ok (.putfield 170, 3) := by decide +kernel
theorem dX2_failTry_86 : decode cX2_failTry 86 = .ok (.aload_n 0, 1) := by decide +kernel
theorem dX2_failTry_87 : decode cX2_failTry 87 = .ok (.getfield 33, 3) := by decide +kernel
theorem dX2_failTry_90 : decode cX2_failTry 90 = .ok (.getfield 141, 3) := by decide +kernel
theorem dX2_failTry_93 : decode cX2_failTry 93 = .ok (.iconst 4, 1) := by decide +kernel
theorem dX2_failTry_94 : decode cX2_failTry 94 = .ok (.aaload, 1) := by decide +kernel
theorem dX2_failTry_95 : decode cX2_failTry 95 = .ok (.iload_n 1, 1) := by decide +kernel
theorem dX2_failTry_96 : decode cX2_failTry 96 = .ok (.dup2, 1) := by decide +kernel
theorem dX2_failTry_97 : decode cX2_failTry 97 = .ok (.iaload, 1) := by decide +kernel
theorem dX2_failTry_98 : decode cX2_failTry 98 = .ok (.iconst 1, 1) := by decide +kernel
theorem dX2_failTry_99 : decode cX2_failTry 99 = .ok (.iadd, 1) := by decide +kernel
theorem dX2_failTry_100 : decode cX2_failTry 100 = .ok (.iastore, 1) := by decide +kernel
theorem dX2_failTry_101 : decode cX2_failTry 101 = .ok (.aload_n 0, 1) := by decide +kernel
theorem dX2_failTry_102 : decode cX2_failTry 102 = .ok (.getfield 33, 3) := by decide +kernel
theorem dX2_failTry_105 : decode cX2_failTry 105 = .ok (.getfield 141, 3) := by decide +kernel
theorem dX2_failTry_108 : decode cX2_failTry 108 = .ok (.iconst 4, 1) := by decide +kernel
theorem dX2_failTry_109 : decode cX2_failTry 109 = .ok (.aaload, 1) := by decide +kernel
theorem dX2_failTry_110 : decode cX2_failTry 110 = .ok (.iload_n 1, 1) := by decide +kernel
theorem dX2_failTry_111 : decode cX2_failTry 111 = .ok (.iaload, 1) := by decide +kernel
theorem dX2_failTry_112 : decode cX2_failTry 112 = .ok (.aload_n 0, 1) := by decide +kernel
theorem dX2_failTry_113 : decode cX2_failTry 113 = .ok (.getfield 37, 3) := by decide +kernel
theorem dX2_failTry_116 : decode cX2_failTry 116 = .ok (.if_icmp .ge 4, 3) := by decide +kernel
theorem dX2_failTry_119 : decode cX2_failTry 119 = .ok (.return_, 1) := by decide +kernel
theorem dX2_failTry_120 : decode cX2_failTry 120 = .ok (.aload_n 2, 1) := by decide +kernel
theorem dX2_failTry_121 : decode cX2_failTry 121 = .ok (.dup, 1) := by decide +kernel
theorem dX2_failTry_122 : decode cX2_failTry 122 = .ok (.getfield 145, 3) := by decide +kernel
theorem dX2_failTry_125 : decode cX2_failTry 125 = .ok (.iconst 1, 1) := by decide +kernel
theorem dX2_failTry_126 : decode cX2_failTry 126 = .ok (.iadd, 1) := by decide +kernel
theorem dX2_failTry_127 : decode cX2_failTry 127 = .ok (.putfield 145, 3) := by decide +kernel
theorem dX2_failTry_130 : decode cX2_failTry 130 = .ok (.aload_n 0, 1) := by decide +kernel
theorem dX2_failTry_131 : decode cX2_failTry 131 = .ok (.iload_n 1, 1) := by decide +kernel
theorem dX2_failTry_132 : decode cX2_failTry 132 = .ok (.invokevirtual 148, 3) := by decide +kernel
theorem dX2_failTry_135 : decode cX2_failTry 135 = .ok (.return_, 1) := by decide +kernel
theorem dX2_settle_0 : decode cX2_settle 0 = .ok (.aload_n 0, 1) := by decide +kernel
theorem dX2_settle_1 : decode cX2_settle 1 = .ok (.getfield 26, 3) := by decide +kernel
theorem dX2_settle_4 : decode cX2_settle 4 = .ok (.aload_n 0, 1) := by decide +kernel
theorem dX2_settle_5 : decode cX2_settle 5 = .ok (.getfield 33, 3) := by decide +kernel
theorem dX2_settle_8 : decode cX2_settle 8 = .ok (.getfield 141, 3) := by decide +kernel
theorem dX2_settle_11 : decode cX2_settle 11 = .ok (.iconst 0, 1) := by decide +kernel
theorem dX2_settle_12 : decode cX2_settle 12 = .ok (.aaload, 1) := by decide +kernel
theorem dX2_settle_13 : decode cX2_settle 13 = .ok (.iload_n 1, 1) := by decide +kernel
theorem dX2_settle_14 : decode cX2_settle 14 = .ok (.iaload, 1) := by decide +kernel
theorem dX2_settle_15 : decode cX2_settle 15 = .ok (.aaload, 1) := by decide +kernel
theorem dX2_settle_16 : decode cX2_settle 16 = .ok (.astore_n 2, 1) := by decide +kernel
theorem dX2_settle_17 : decode cX2_settle 17 = .ok (.aload_n 2, 1) := by decide +kernel
theorem dX2_settle_18 : decode cX2_settle 18 = .ok (.dup, 1) := by decide +kernel
theorem dX2_settle_19 : decode cX2_settle 19 = .ok (.getfield 136, 3) := by decide +kernel
theorem dX2_settle_22 : decode cX2_settle 22 = .ok (.iconst 1, 1) := by decide +kernel
theorem dX2_settle_23 : decode cX2_settle 23 = .ok (.isub, 1) := by decide +kernel
theorem dX2_settle_24 : decode cX2_settle 24 = .ok (.putfield 136, 3) := by decide +kernel
theorem dX2_settle_27 : decode cX2_settle 27 = .ok (.aload_n 0, 1) := by decide +kernel
theorem dX2_settle_28 : decode cX2_settle 28 = .ok (.getfield 20, 3) := by decide +kernel
theorem dX2_settle_31 : decode cX2_settle 31 = .ok (.aload_n 2, 1) := by decide +kernel
theorem dX2_settle_32 : decode cX2_settle 32 = .ok (.getfield 221, 3) := by decide +kernel
theorem dX2_settle_35 : decode cX2_settle 35 = .ok (.aaload, 1) := by decide +kernel
theorem dX2_settle_36 : decode cX2_settle 36 = .ok (.dup, 1) := by decide +kernel
theorem dX2_settle_37 : decode cX2_settle 37 = .ok (.getfield 224, 3) := by decide +kernel
theorem dX2_settle_40 : decode cX2_settle 40 = .ok (.aload_n 0, 1) := by decide +kernel
theorem dX2_settle_41 : decode cX2_settle 41 = .ok (.getfield 33, 3) := by decide +kernel
theorem dX2_settle_44 : decode cX2_settle 44 = .ok (.getfield 141, 3) := by decide +kernel
theorem dX2_settle_47 : decode cX2_settle 47 = .ok (.iconst 1, 1) := by decide +kernel
theorem dX2_settle_48 : decode cX2_settle 48 = .ok (.aaload, 1) := by decide +kernel
theorem dX2_settle_49 : decode cX2_settle 49 = .ok (.iload_n 1, 1) := by decide +kernel
theorem dX2_settle_50 : decode cX2_settle 50 = .ok (.iaload, 1) := by decide +kernel
theorem dX2_settle_51 : decode cX2_settle 51 = .ok (.i2l, 1) := by decide +kernel
theorem dX2_settle_52 : decode cX2_settle 52 = .ok (.lsub, 1) := by decide +kernel
theorem dX2_settle_53 : decode cX2_settle 53 = .ok (.putfield 224, 3) := by decide +kernel
theorem dX2_settle_56 : decode cX2_settle 56 = .ok (.aload_n 0, 1) := by decide +kernel
theorem dX2_settle_57 : decode cX2_settle 57 = .ok (.getfield 33, 3) := by decide +kernel
theorem dX2_settle_60 : decode cX2_settle 60 = .ok (.getfield 141, 3) := by decide +kernel
theorem dX2_settle_63 : decode cX2_settle 63 = .ok (.iconst 1, 1) := by decide +kernel
theorem dX2_settle_64 : decode cX2_settle 64 = .ok (.aaload, 1) := by decide +kernel
theorem dX2_settle_65 : decode cX2_settle 65 = .ok (.iload_n 1, 1) := by decide +kernel
theorem dX2_settle_66 : decode cX2_settle 66 = .ok (.iconst 0, 1) := by decide +kernel
theorem dX2_settle_67 : decode cX2_settle 67 = .ok (.iastore, 1) := by decide +kernel
theorem dX2_settle_68 : decode cX2_settle 68 = .ok (.return_, 1) := by decide +kernel
theorem dX2_chargeInterest_0 : decode cX2_chargeInterest 0 = .ok (.aload_n 0, 1) := by decide +kernel
theorem dX2_chargeInterest_1 : decode cX2_chargeInterest 1 = .ok (.getfield 44, 3) := by decide +kernel
theorem dX2_chargeInterest_4 : decode cX2_chargeInterest 4 = .ok (.i2f, 1) := by decide +kernel
theorem dX2_chargeInterest_5 : decode cX2_chargeInterest 5 = .ok (.ldc_w 269, 3) := by decide +kernel
theorem dX2_chargeInterest_8 : decode cX2_chargeInterest 8 = .ok (.fdiv, 1) := by decide +kernel
theorem dX2_chargeInterest_9 : decode cX2_chargeInterest 9 = .ok (.fstore_n 1, 1) := by decide +kernel
theorem dX2_chargeInterest_10 : decode cX2_chargeInterest 10 = .ok (.aload_n 0, 1) := by decide +kernel
theorem dX2_chargeInterest_11 : decode cX2_chargeInterest 11 = .ok (.getfield 68, 3) := by decide +kernel
theorem dX2_chargeInterest_14 : decode cX2_chargeInterest 14 = .ok (.invokestatic 270, 3) := by decide +kernel
theorem dX2_chargeInterest_17 : decode cX2_chargeInterest 17 = .ok (.invokestatic 273, 3) := by decide +kernel
theorem dX2_chargeInterest_20 : decode cX2_chargeInterest 20 = .ok (.aload_n 0, 1) := by decide +kernel
theorem dX2_chargeInterest_21 : decode cX2_chargeInterest 21 = .ok (.getfield 68, 3) := by decide +kernel
theorem dX2_chargeInterest_24 : decode cX2_chargeInterest 24 = .ok (.if_icmp .ne 7, 3) := by decide +kernel
theorem dX2_chargeInterest_27 : decode cX2_chargeInterest 27 = .ok (.iconst 1, 1) := by decide +kernel
theorem dX2_chargeInterest_28 : decode cX2_chargeInterest 28 = .ok (.goto 4, 3) := by decide +kernel
theorem dX2_chargeInterest_31 : decode cX2_chargeInterest 31 = .ok (.iconst 0, 1) := by decide +kernel
theorem dX2_chargeInterest_32 : decode cX2_chargeInterest 32 = .ok (.istore_n 2, 1) := by decide +kernel
theorem dX2_chargeInterest_33 : decode cX2_chargeInterest 33 = .ok (.iconst 0, 1) := by decide +kernel
theorem dX2_chargeInterest_34 : decode cX2_chargeInterest 34 = .ok (.istore_n 3, 1) := by decide +kernel
theorem dX2_chargeInterest_35 : decode cX2_chargeInterest 35 = .ok (.iload_n 3, 1) := by decide +kernel
theorem dX2_chargeInterest_36 : decode cX2_chargeInterest 36 = .ok (.aload_n 0, 1) := by decide +kernel
theorem dX2_chargeInterest_37 : decode cX2_chargeInterest 37 = .ok (.getfield 53, 3) := by decide +kernel
theorem dX2_chargeInterest_40 : decode cX2_chargeInterest 40 = .ok (.if_icmp .ge 60, 3) := by decide +kernel
theorem dX2_chargeInterest_43 : decode cX2_chargeInterest 43 = .ok (.aload_n 0, 1) := by decide +kernel
theorem dX2_chargeInterest_44 : decode cX2_chargeInterest 44 = .ok (.getfield 20, 3) := by decide +kernel
theorem dX2_chargeInterest_47 : decode cX2_chargeInterest 47 = .ok (.iload_n 3, 1) := by decide +kernel
theorem dX2_chargeInterest_48 : decode cX2_chargeInterest 48 = .ok (.aaload, 1) := by decide +kernel
theorem dX2_chargeInterest_49 : decode cX2_chargeInterest 49 = .ok (.astore 4, 2) := by decide +kernel
theorem dX2_chargeInterest_51 : decode cX2_chargeInterest 51 = .ok (.aload 4, 2) := by decide +kernel
theorem dX2_chargeInterest_53 : decode cX2_chargeInterest 53 = .ok (.getfield 105, 3) := by decide +kernel
theorem dX2_chargeInterest_56 : decode cX2_chargeInterest 56 = .ok (.lconst 0, 1) := by decide +kernel
theorem dX2_chargeInterest_57 : decode cX2_chargeInterest 57 = .ok (.lcmp, 1) := by decide +kernel
theorem dX2_chargeInterest_58 : decode cX2_chargeInterest 58 = .ok (.ifCond .ge 27, 3) := by decide +kernel
theorem dX2_chargeInterest_61 : decode cX2_chargeInterest 61 = .ok (.aload 4, 2) := by decide +kernel
theorem dX2_chargeInterest_63 : decode cX2_chargeInterest 63 = .ok (.dup, 1) := by decide +kernel
theorem dX2_chargeInterest_64 : decode cX2_chargeInterest 64 = .ok (.getfield 276, 3) := by decide +kernel
theorem dX2_chargeInterest_67 : decode cX2_chargeInterest 67 = .ok (.aload 4, 2) := by decide +kernel
theorem dX2_chargeInterest_69 : decode cX2_chargeInterest 69 = .ok (.getfield 105, 3) := by decide +kernel
theorem dX2_chargeInterest_72 : decode cX2_chargeInterest 72 = .ok (.lneg, 1) := by decide +kernel
theorem dX2_chargeInterest_73 : decode cX2_chargeInterest 73 = .ok (.l2d, 1) := by decide +kernel
theorem dX2_chargeInterest_74 : decode cX2_chargeInterest 74 = .ok (.fload_n 1, 1) := by decide +kernel
theorem dX2_chargeInterest_75 : decode cX2_chargeInterest 75 = .ok (.f2d, 1) := by decide +kernel
theorem dX2_chargeInterest_76 : decode cX2_chargeInterest 76 = .ok (.dmul, 1) := by decide +kernel
theorem dX2_chargeInterest_77 : decode cX2_chargeInterest 77 = .ok (.ldc2_w 280, 3) := by decide +kernel
theorem dX2_chargeInterest_80 : decode cX2_chargeInterest 80 = .ok (.ddiv, 1) := by decide +kernel
theorem dX2_chargeInterest_81 : decode cX2_chargeInterest 81 = .ok (.dadd, 1) := by decide +kernel
theorem dX2_chargeInterest_82 : decode cX2_chargeInterest 82 = .ok (.putfield 276, 3) := by decide +kernel
theorem dX2_chargeInterest_85 : decode cX2_chargeInterest 85 = .ok (.iload_n 2, 1) := by decide +kernel
theorem dX2_chargeInterest_86 : decode cX2_chargeInterest 86 = .ok (.ifCond .eq 8, 3) := by decide +kernel
theorem dX2_chargeInterest_89 : decode cX2_chargeInterest 89 = .ok (.aload 4, 2) := by decide +kernel
theorem dX2_chargeInterest_91 : decode cX2_chargeInterest 91 = .ok (.invokevirtual 282, 3) := by decide +kernel
theorem dX2_chargeInterest_94 : decode cX2_chargeInterest 94 = .ok (.iinc 3 1, 3) := by decide +kernel
theorem dX2_chargeInterest_97 : decode cX2_chargeInterest 97 = .ok (.goto (-62), 3) := by decide +kernel
theorem dX2_chargeInterest_100 : decode cX2_chargeInterest 100 = .ok (.return_, 1) := by decide +kernel
theorem dX3_init_0 : decode cX3_init 0 = .ok (.aload_n 0, 1) := by decide +kernel
theorem dX3_init_1 : decode cX3_init 1 = .ok (.invokespecial 3, 3) := by decide +kernel
theorem dX3_init_4 : decode cX3_init 4 = .ok (.return_, 1) := by decide +kernel
theorem dX3_begin_0 : decode cX3_begin 0 = .ok (.aload_n 0, 1) := by decide +kernel
theorem dX3_begin_1 : decode cX3_begin 1 = .ok (.iload_n 1, 1) := by decide +kernel
theorem dX3_begin_2 : decode cX3_begin 2 = .ok (.bipush 9, 2) := by decide +kernel
theorem dX3_begin_4 : decode cX3_begin 4 = .ok (.idiv, 1) := by decide +kernel
theorem dX3_begin_5 : decode cX3_begin 5 = .ok (.putfield 9, 3) := by decide +kernel
theorem dX3_begin_8 : decode cX3_begin 8 = .ok (.aload_n 0, 1) := by decide +kernel
theorem dX3_begin_9 : decode cX3_begin 9 = .ok (.iload_n 1, 1) := by decide +kernel
theorem dX3_begin_10 : decode cX3_begin 10 = .ok (.bipush 9, 2) := by decide +kernel
theorem dX3_begin_12 : decode cX3_begin 12 = .ok (.irem, 1) := by decide +kernel
theorem dX3_begin_13 : decode cX3_begin 13 = .ok (.bipush 8, 2) := by decide +kernel
theorem dX3_begin_15 : decode cX3_begin 15 = .ok (.if_icmp .ne 8, 3) := by decide +kernel
theorem dX3_begin_18 : decode cX3_begin 18 = .ok (.bipush (-6), 2) := by decide +kernel
theorem dX3_begin_20 : decode cX3_begin 20 = .ok (.goto 7, 3) := by decide +kernel
theorem dX3_begin_23 : decode cX3_begin 23 = .ok (.iload_n 1, 1) := by decide +kernel
theorem dX3_begin_24 : decode cX3_begin 24 = .ok (.bipush 9, 2) := by decide +kernel
theorem dX3_begin_26 : decode cX3_begin 26 = .ok (.irem, 1) := by decide +kernel
theorem dX3_begin_27 : decode cX3_begin 27 = .ok (.putfield 15, 3) := by decide +kernel
theorem dX3_begin_30 : decode cX3_begin 30 = .ok (.aload_n 0, 1) := by decide +kernel
theorem dX3_begin_31 : decode cX3_begin 31 = .ok (.iload_n 2, 1) := by decide +kernel
theorem dX3_begin_32 : decode cX3_begin 32 = .ok (.putfield 18, 3) := by decide +kernel
theorem dX3_begin_35 : decode cX3_begin 35 = .ok (.aload_n 0, 1) := by decide +kernel
theorem dX3_begin_36 : decode cX3_begin 36 = .ok (.iload_n 3, 1) := by decide +kernel
theorem dX3_begin_37 : decode cX3_begin 37 = .ok (.sipush 10000, 3) := by decide +kernel
theorem dX3_begin_40 : decode cX3_begin 40 = .ok (.idiv, 1) := by decide +kernel
theorem dX3_begin_41 : decode cX3_begin 41 = .ok (.putfield 21, 3) := by decide +kernel
theorem dX3_begin_44 : decode cX3_begin 44 = .ok (.aload_n 0, 1) := by decide +kernel
theorem dX3_begin_45 : decode cX3_begin 45 = .ok (.iload_n 3, 1) := by decide +kernel
theorem dX3_begin_46 : decode cX3_begin 46 = .ok (.bipush 100, 2) := by decide +kernel
theorem dX3_begin_48 : decode cX3_begin 48 = .ok (.idiv, 1) := by decide +kernel
theorem dX3_begin_49 : decode cX3_begin 49 = .ok (.bipush 100, 2) := by decide +kernel
theorem dX3_begin_51 : decode cX3_begin 51 = .ok (.irem, 1) := by decide +kernel
theorem dX3_begin_52 : decode cX3_begin 52 = .ok (.putfield 24, 3) := by decide +kernel
theorem dX3_begin_55 : decode cX3_begin 55 = .ok (.aload_n 0, 1) := by decide +kernel
theorem dX3_begin_56 : decode cX3_begin 56 = .ok (.iload_n 3, 1) := by decide +kernel
theorem dX3_begin_57 : decode cX3_begin 57 = .ok (.bipush 100, 2) := by decide +kernel
theorem dX3_begin_59 : decode cX3_begin 59 = .ok (.irem, 1) := by decide +kernel
theorem dX3_begin_60 : decode cX3_begin 60 = .ok (.putfield 27, 3) := by decide +kernel
theorem dX3_begin_63 : decode cX3_begin 63 = .ok (.aload_n 0, 1) := by decide +kernel
theorem dX3_begin_64 : decode cX3_begin 64 = .ok (.iload 4, 2) := by decide +kernel
theorem dX3_begin_66 : decode cX3_begin 66 = .ok (.putfield 30, 3) := by decide +kernel
theorem dX3_begin_69 : decode cX3_begin 69 = .ok (.aload_n 0, 1) := by decide +kernel
theorem dX3_begin_70 : decode cX3_begin 70 = .ok (.iload 5, 2) := by decide +kernel
theorem dX3_begin_72 : decode cX3_begin 72 = .ok (.bipush 10, 2) := by decide +kernel
theorem dX3_begin_74 : decode cX3_begin 74 = .ok (.idiv, 1) := by decide +kernel
theorem dX3_begin_75 : decode cX3_begin 75 = .ok (.putfield 33, 3) := by decide +kernel
theorem dX3_begin_78 : decode cX3_begin 78 = .ok (.aload_n 0, 1) := by decide +kernel
theorem dX3_begin_79 : decode cX3_begin 79 = .ok (.iload 5, 2) := by decide +kernel
theorem dX3_begin_81 : decode cX3_begin 81 = .ok (.bipush 10, 2) := by decide +kernel
theorem dX3_begin_83 : decode cX3_begin 83 = .ok (.irem, 1) := by decide +kernel
theorem dX3_begin_84 : decode cX3_begin 84 = .ok (.putfield 36, 3) := by decide +kernel
theorem dX3_begin_87 : decode cX3_begin 87 = .ok (.aload_n 0, 1) := by decide +kernel
theorem dX3_begin_88 : decode cX3_begin 88 = .ok (.iload 6, 2) := by decide +kernel
theorem dX3_begin_90 : decode cX3_begin 90 = .ok (.ifCond .ne 7, 3) := by decide +kernel
theorem dX3_begin_93 : decode cX3_begin 93 = .ok (.iconst 1, 1) := by decide +kernel
theorem dX3_begin_94 : decode cX3_begin 94 = .ok (.goto 4, 3) := by decide +kernel
theorem dX3_begin_97 : decode cX3_begin 97 = .ok (.iconst 0, 1) := by decide +kernel
theorem dX3_begin_98 : decode cX3_begin 98 = .ok (.putfield 39, 3) := by decide +kernel
theorem dX3_begin_101 : decode cX3_begin 101 = .ok (.aload_n 0, 1) := by decide +kernel
theorem dX3_begin_102 : decode cX3_begin 102 = .ok (.iload 6, 2) := by decide +kernel
theorem dX3_begin_104 : decode cX3_begin 104 = .ok (.putfield 43, 3) := by decide +kernel
theorem dX3_begin_107 : decode cX3_begin 107 = .ok (.aload_n 0, 1) := by decide +kernel
theorem dX3_begin_108 : decode cX3_begin 108 = .ok (.iconst 0, 1) := by decide +kernel
theorem dX3_begin_109 : decode cX3_begin 109 = .ok (.putfield 46, 3) := by decide +kernel
theorem dX3_begin_112 : decode cX3_begin 112 = .ok (.aload_n 0, 1) := by decide +kernel
theorem dX3_begin_113 : decode cX3_begin 113 = .ok (.iconst 0, 1) := by decide +kernel
theorem dX3_begin_114 : decode cX3_begin 114 = .ok (.putfield 49, 3) := by decide +kernel
theorem dX3_begin_117 : decode cX3_begin 117 = .ok (.aload_n 0, 1) := by decide +kernel
theorem dX3_begin_118 : decode cX3_begin 118 = .ok (.iconst 0, 1) := by decide +kernel
theorem dX3_begin_119 : decode cX3_begin 119 = .ok (.putfield 52, 3) := by decide +kernel
theorem dX3_begin_122 : decode cX3_begin 122 = .ok (.aload_n 0, 1) := by decide +kernel
theorem dX3_begin_123 : decode cX3_begin 123 = .ok (.iconst 0, 1) := by decide +kernel
theorem dX3_begin_124 : decode cX3_begin 124 = .ok (.putfield 55, 3) := by decide +kernel
theorem dX3_begin_127 : decode cX3_begin 127 = .ok (.aload_n 0, 1) := by decide +kernel
theorem dX3_begin_128 : decode cX3_begin 128 = .ok (.iconst 0, 1) := by decide +kernel
theorem dX3_begin_129 : decode cX3_begin 129 = .ok (.putfield 58, 3) := by decide +kernel
theorem dX3_begin_132 : decode cX3_begin 132 = .ok (.aload_n 0, 1) := by decide +kernel
theorem dX3_begin_133 : decode cX3_begin 133 = .ok (.iconst 0, 1) := by decide +kernel
theorem dX3_begin_134 : decode cX3_begin 134 = .ok (.putfield 61, 3) := by decide +kernel
theorem dX3_begin_137 : decode cX3_begin 137 = .ok (.return_, 1) := by decide +kernel
theorem dX3_copyFrom_0 : decode cX3_copyFrom 0 = .ok (.aload_n 0, 1) := by decide +kernel
theorem dX3_copyFrom_1 : decode cX3_copyFrom 1 = .ok (.aload_n 1, 1) := by decide +kernel
theorem dX3_copyFrom_2 : decode cX3_copyFrom 2 = .ok (.getfield 9, 3) := by decide +kernel
theorem dX3_copyFrom_5 : decode cX3_copyFrom 5 = .ok (.putfield 9, 3) := by decide +kernel
theorem dX3_copyFrom_8 : decode cX3_copyFrom 8 = .ok (.aload_n 0, 1) := by decide +kernel
theorem dX3_copyFrom_9 : decode cX3_copyFrom 9 = .ok (.aload_n 1, 1) := by decide +kernel
theorem dX3_copyFrom_10 : decode cX3_copyFrom 10 = .ok (.getfield 15, 3) := by decide +kernel
theorem dX3_copyFrom_13 : decode cX3_copyFrom 13 = .ok (.putfield 15, 3) := by decide +kernel
theorem dX3_copyFrom_16 : decode cX3_copyFrom 16 = .ok (.aload_n 0, 1) := by decide +kernel
theorem dX3_copyFrom_17 : decode cX3_copyFrom 17 = .ok (.aload_n 1, 1) := by decide +kernel
theorem dX3_copyFrom_18 : decode cX3_copyFrom 18 = .ok (.getfield 18, 3) := by decide +kernel
theorem dX3_copyFrom_21 : decode cX3_copyFrom 21 = .ok (.putfield 18, 3) := by decide +kernel
theorem dX3_copyFrom_24 : decode cX3_copyFrom 24 = .ok (.aload_n 0, 1) := by decide +kernel
theorem dX3_copyFrom_25 : decode cX3_copyFrom 25 = .ok (.aload_n 1, 1) := by decide +kernel
theorem dX3_copyFrom_26 : decode cX3_copyFrom 26 = .ok (.getfield 21, 3) := by decide +kernel
theorem dX3_copyFrom_29 : decode cX3_copyFrom 29 = .ok (.putfield 21, 3) := by decide +kernel
theorem dX3_copyFrom_32 : decode cX3_copyFrom 32 = .ok (.aload_n 0, 1) := by decide +kernel
theorem dX3_copyFrom_33 : decode cX3_copyFrom 33 = .ok (.aload_n 1, 1) := by decide +kernel
theorem dX3_copyFrom_34 : decode cX3_copyFrom 34 = .ok (.getfield 24, 3) := by decide +kernel
theorem dX3_copyFrom_37 : decode cX3_copyFrom 37 = .ok (.putfield 24, 3) := by decide +kernel
theorem dX3_copyFrom_40 : decode cX3_copyFrom 40 = .ok (.aload_n 0, 1) := by decide +kernel
theorem dX3_copyFrom_41 : decode cX3_copyFrom 41 = .ok (.aload_n 1, 1) := by decide +kernel
theorem dX3_copyFrom_42 : decode cX3_copyFrom 42 = .ok (.getfield 27, 3) := by decide +kernel
theorem dX3_copyFrom_45 : decode cX3_copyFrom 45 = .ok (.putfield 27, 3) := by decide +kernel
theorem dX3_copyFrom_48 : decode cX3_copyFrom 48 = .ok (.aload_n 0, 1) := by decide +kernel
theorem dX3_copyFrom_49 : decode cX3_copyFrom 49 = .ok (.aload_n 1, 1) := by decide +kernel
theorem dX3_copyFrom_50 : decode cX3_copyFrom 50 = .ok (.getfield 30, 3) := by decide +kernel
theorem dX3_copyFrom_53 : decode cX3_copyFrom 53 = .ok (.putfield 30, 3) := by decide +kernel
theorem dX3_copyFrom_56 : decode cX3_copyFrom 56 = .ok (.aload_n 0, 1) := by decide +kernel
theorem dX3_copyFrom_57 : decode cX3_copyFrom 57 = .ok (.aload_n 1, 1) := by decide +kernel
theorem dX3_copyFrom_58 : decode cX3_copyFrom 58 = .ok (.getfield 33, 3) := by decide +kernel
theorem dX3_copyFrom_61 : decode cX3_copyFrom 61 = .ok (.putfield 33, 3) := by decide +kernel
theorem dX3_copyFrom_64 : decode cX3_copyFrom 64 = .ok (.aload_n 0, 1) := by decide +kernel
theorem dX3_copyFrom_65 : decode cX3_copyFrom 65 = .ok (.aload_n 1, 1) := by decide +kernel
theorem dX3_copyFrom_66 : decode cX3_copyFrom 66 = .ok (.getfield 36, 3) := by decide +kernel
theorem dX3_copyFrom_69 : decode cX3_copyFrom 69 = .ok (.putfield 36, 3) := by decide +kernel
theorem dX3_copyFrom_72 : decode cX3_copyFrom 72 = .ok (.aload_n 0, 1) := by decide +kernel
theorem dX3_copyFrom_73 : decode cX3_copyFrom 73 = .ok (.aload_n 1, 1) := by decide +kernel
theorem dX3_copyFrom_74 : decode cX3_copyFrom 74 = .ok (.getfield 39, 3) := by decide +kernel
theorem dX3_copyFrom_77 : decode cX3_copyFrom 77 = .ok (.putfield 39, 3) := by decide +kernel
theorem dX3_copyFrom_80 : decode cX3_copyFrom 80 = .ok (.aload_n 0, 1) := by decide +kernel
theorem dX3_copyFrom_81 : decode cX3_copyFrom 81 = .ok (.aload_n 1, 1) := by decide +kernel
theorem dX3_copyFrom_82 : decode cX3_copyFrom 82 = .ok (.getfield 43, 3) := by decide +kernel
theorem dX3_copyFrom_85 : decode cX3_copyFrom 85 = .ok (.putfield 43, 3) := by decide +kernel
theorem dX3_copyFrom_88 : decode cX3_copyFrom 88 = .ok (.aload_n 0, 1) := by decide +kernel
theorem dX3_copyFrom_89 : decode cX3_copyFrom 89 = .ok (.aload_n 1, 1) := by decide +kernel
theorem dX3_copyFrom_90 : decode cX3_copyFrom 90 = .ok (.getfield 46, 3) := by decide +kernel
theorem dX3_copyFrom_93 : decode cX3_copyFrom 93 = .ok (.putfield 46, 3) := by decide +kernel
theorem dX3_copyFrom_96 : decode cX3_copyFrom 96 = .ok (.aload_n 0, 1) := by decide +kernel
theorem dX3_copyFrom_97 : decode cX3_copyFrom 97 = .ok (.aload_n 1, 1) := by decide +kernel
theorem dX3_copyFrom_98 : decode cX3_copyFrom 98 = .ok (.getfield 49, 3) := by decide +kernel
theorem dX3_copyFrom_101 : decode cX3_copyFrom 101 = .ok (.putfield 49, 3) := by decide +kernel
theorem dX3_copyFrom_104 : decode cX3_copyFrom 104 = .ok (.aload_n 0, 1) := by decide +kernel
theorem dX3_copyFrom_105 : decode cX3_copyFrom 105 = .ok (.aload_n 1, 1) := by decide +kernel
theorem dX3_copyFrom_106 : decode cX3_copyFrom 106 = .ok (.getfield 52, 3) := by decide +kernel
theorem dX3_copyFrom_109 : decode cX3_copyFrom 109 = .ok (.putfield 52, 3) := by decide +kernel
theorem dX3_copyFrom_112 : decode cX3_copyFrom 112 = .ok (.aload_n 0, 1) := by decide +kernel
theorem dX3_copyFrom_113 : decode cX3_copyFrom 113 = .ok (.aload_n 1, 1) := by decide +kernel
theorem dX3_copyFrom_114 : decode cX3_copyFrom 114 = .ok (.getfield 55, 3) := by decide +kernel
theorem dX3_copyFrom_117 : decode cX3_copyFrom 117 = .ok (.putfield 55, 3) := by decide +kernel
theorem dX3_copyFrom_120 : decode cX3_copyFrom 120 = .ok (.aload_n 0, 1) := by decide +kernel
theorem dX3_copyFrom_121 : decode cX3_copyFrom 121 = .ok (.aload_n 1, 1) := by decide +kernel
theorem dX3_copyFrom_122 : decode cX3_copyFrom 122 = .ok (.getfield 58, 3) := by decide +kernel
theorem dX3_copyFrom_125 : decode cX3_copyFrom 125 = .ok (.putfield 58, 3) := by decide +kernel
theorem dX3_copyFrom_128 : decode cX3_copyFrom 128 = .ok (.aload_n 0, 1) := by decide +kernel
theorem dX3_copyFrom_129 : decode cX3_copyFrom 129 = .ok (.aload_n 1, 1) := by decide +kernel
theorem dX3_copyFrom_130 : decode cX3_copyFrom 130 = .ok (.getfield 61, 3) := by decide +kernel
theorem dX3_copyFrom_133 : decode cX3_copyFrom 133 = .ok (.putfield 61, 3) := by decide +kernel
theorem dX3_copyFrom_136 : decode cX3_copyFrom 136 = .ok (.return_, 1) := by decide +kernel
theorem dX3_nominalDay_0 : decode cX3_nominalDay 0 = .ok (.aload_n 0, 1) := by decide +kernel
theorem dX3_nominalDay_1 : decode cX3_nominalDay 1 = .ok (.getfield 21, 3) := by decide +kernel
theorem dX3_nominalDay_4 : decode cX3_nominalDay 4 = .ok (.ifCond .eq 11, 3) := by decide +kernel
theorem dX3_nominalDay_7 : decode cX3_nominalDay 7 = .ok (.aload_n 0, 1) := by decide +kernel
theorem dX3_nominalDay_8 : decode cX3_nominalDay 8 = .ok (.getfield 21, 3) := by decide +kernel
theorem dX3_nominalDay_11 : decode cX3_nominalDay 11 = .ok (.iconst 1, 1) := by decide +kernel
theorem dX3_nominalDay_12 : decode cX3_nominalDay 12 = .ok (.if_icmp .ne 43, 3) := by decide +kernel
theorem dX3_nominalDay_15 : decode cX3_nominalDay 15 = .ok (.aload_n 0, 1) := by decide +kernel
theorem dX3_nominalDay_16 : decode cX3_nominalDay 16 = .ok (.getfield 30, 3) := by decide +kernel
theorem dX3_nominalDay_19 : decode cX3_nominalDay 19 = .ok (.iload_n 1, 1) := by decide +kernel
theorem dX3_nominalDay_20 : decode cX3_nominalDay 20 = .ok (.aload_n 0, 1) := by decide +kernel
theorem dX3_nominalDay_21 : decode cX3_nominalDay 21 = .ok (.getfield 24, 3) := by decide +kernel
theorem dX3_nominalDay_24 : decode cX3_nominalDay 24 = .ok (.imul, 1) := by decide +kernel
theorem dX3_nominalDay_25 : decode cX3_nominalDay 25 = .ok (.aload_n 0, 1) := by decide +kernel
theorem dX3_nominalDay_26 : decode cX3_nominalDay 26 = .ok (.getfield 21, 3) := by decide +kernel
theorem dX3_nominalDay_29 : decode cX3_nominalDay 29 = .ok (.ifCond .ne 7, 3) := by decide +kernel
theorem dX3_nominalDay_32 : decode cX3_nominalDay 32 = .ok (.iconst 1, 1) := by decide +kernel
theorem dX3_nominalDay_33 : decode cX3_nominalDay 33 = .ok (.goto 5, 3) := by decide +kernel
theorem dX3_nominalDay_36 : decode cX3_nominalDay 36 = .ok (.bipush 7, 2) := by decide +kernel
theorem dX3_nominalDay_38 : decode cX3_nominalDay 38 = .ok (.imul, 1) := by decide +kernel
theorem dX3_nominalDay_39 : decode cX3_nominalDay 39 = .ok (.iadd, 1) := by decide +kernel
theorem dX3_nominalDay_40 : decode cX3_nominalDay 40 = .ok (.istore_n 3, 1) := by decide +kernel
theorem dX3_nominalDay_41 : decode cX3_nominalDay 41 = .ok (.iload_n 3, 1) := by decide +kernel
theorem dX3_nominalDay_42 : decode cX3_nominalDay 42 = .ok (.sipush 1094, 3) := by decide +kernel
theorem dX3_nominalDay_45 : decode cX3_nominalDay 45 = .ok (.if_icmp .gt 7, 3) := by decide +kernel
theorem dX3_nominalDay_48 : decode cX3_nominalDay 48 = .ok (.iload_n 3, 1) := by decide +kernel
theorem dX3_nominalDay_49 : decode cX3_nominalDay 49 = .ok (.goto 5, 3) := by decide +kernel
theorem dX3_nominalDay_52 : decode cX3_nominalDay 52 = .ok (.bipush (-6), 2) := by decide +kernel
theorem dX3_nominalDay_54 : decode cX3_nominalDay 54 = .ok (.ireturn, 1) := by decide +kernel
theorem dX3_nominalDay_55 : decode cX3_nominalDay 55 = .ok (.aload_n 0, 1) := by decide +kernel
theorem dX3_nominalDay_56 : decode cX3_nominalDay 56 = .ok (.getfield 30, 3) := by decide +kernel
theorem dX3_nominalDay_59 : decode cX3_nominalDay 59 = .ok (.invokestatic 64, 3) := by decide +kernel
theorem dX3_nominalDay_62 : decode cX3_nominalDay 62 = .ok (.iload_n 1, 1) := by decide +kernel
theorem dX3_nominalDay_63 : decode cX3_nominalDay 63 = .ok (.aload_n 0, 1) := by decide +kernel
theorem dX3_nominalDay_64 : decode cX3_nominalDay 64 = .ok (.getfield 24, 3) := by decide +kernel
theorem dX3_nominalDay_67 : decode cX3_nominalDay 67 = .ok (.imul, 1) := by decide +kernel
theorem dX3_nominalDay_68 : decode cX3_nominalDay 68 = .ok (.iadd, 1) := by decide +kernel
theorem dX3_nominalDay_69 : decode cX3_nominalDay 69 = .ok (.istore_n 3, 1) := by decide +kernel
theorem dX3_nominalDay_70 : decode cX3_nominalDay 70 = .ok (.iload_n 3, 1) := by decide +kernel
theorem dX3_nominalDay_71 : decode cX3_nominalDay 71 = .ok (.bipush 35, 2) := by decide +kernel
theorem dX3_nominalDay_73 : decode cX3_nominalDay 73 = .ok (.if_icmp .le 6, 3) := by decide +kernel
theorem dX3_nominalDay_76 : decode cX3_nominalDay 76 = .ok (.bipush (-6), 2) := by decide +kernel
theorem dX3_nominalDay_78 : decode cX3_nominalDay 78 = .ok (.ireturn, 1) := by decide +kernel
theorem dX3_nominalDay_79 : decode cX3_nominalDay 79 = .ok (.iload_n 3, 1) := by decide +kernel
theorem dX3_nominalDay_80 : decode cX3_nominalDay 80 = .ok (.invokestatic 70, 3) := by decide +kernel
theorem dX3_nominalDay_83 : decode cX3_nominalDay 83 = .ok (.istore 4, 2) := by decide +kernel
theorem dX3_nominalDay_85 : decode cX3_nominalDay 85 = .ok (.iload_n 3, 1) := by decide +kernel
theorem dX3_nominalDay_86 : decode cX3_nominalDay 86 = .ok (.invokestatic 73, 3) := by decide +kernel
theorem dX3_nominalDay_89 : decode cX3_nominalDay 89 = .ok (.istore 5, 2) := by decide +kernel
theorem dX3_nominalDay_91 : decode cX3_nominalDay 91 = .ok (.aload_n 0, 1) := by decide +kernel
theorem dX3_nominalDay_92 : decode cX3_nominalDay 92 = .ok (.getfield 21, 3) := by decide +kernel
theorem dX3_nominalDay_95 : decode cX3_nominalDay 95 = .ok (.iconst 2, 1) := by decide +kernel
theorem dX3_nominalDay_96 : decode cX3_nominalDay 96 = .ok (.if_icmp .ne 18, 3) := by decide +kernel
theorem dX3_nominalDay_99 : decode cX3_nominalDay 99 = .ok (.iload 4, 2) := by decide +kernel
theorem dX3_nominalDay_101 : decode cX3_nominalDay 101 = .ok (.aload_n 0, 1) := by decide +kernel
theorem dX3_nominalDay_102 : decode cX3_nominalDay 102 = .ok (.getfield 27, 3) := by decide +kernel
theorem dX3_nominalDay_105 : decode cX3_nominalDay 105 = .ok (.iadd, 1) := by decide +kernel
theorem dX3_nominalDay_106 : decode cX3_nominalDay 106 = .ok (.iconst 1, 1) := by decide +kernel
theorem dX3_nominalDay_107 : decode cX3_nominalDay 107 = .ok (.isub, 1) := by decide +kernel
theorem dX3_nominalDay_108 : decode cX3_nominalDay 108 = .ok (.iload 5, 2) := by decide +kernel
theorem dX3_nominalDay_110 : decode cX3_nominalDay 110 = .ok (.invokestatic 76, 3) := by decide +kernel
theorem dX3_nominalDay_113 : decode cX3_nominalDay 113 = .ok (.ireturn, 1) := by decide +kernel
theorem dX3_nominalDay_114 : decode cX3_nominalDay 114 = .ok (.aload_n 2, 1) := by decide +kernel
theorem dX3_nominalDay_115 : decode cX3_nominalDay 115 = .ok (.iload 5, 2) := by decide +kernel
theorem dX3_nominalDay_117 : decode cX3_nominalDay 117 = .ok (.invokevirtual 82, 3) := by decide +kernel
theorem dX3_nominalDay_120 : decode cX3_nominalDay 120 = .ok (.istore 6, 2) := by decide +kernel
theorem dX3_nominalDay_122 : decode cX3_nominalDay 122 = .ok (.iload 6, 2) := by decide +kernel
theorem dX3_nominalDay_124 : decode cX3_nominalDay 124 = .ok (.iload 4, 2) := by decide +kernel
theorem dX3_nominalDay_126 : decode cX3_nominalDay 126 = .ok (.if_icmp .lt 8, 3) := by decide +kernel
theorem dX3_nominalDay_129 : decode cX3_nominalDay 129 = .ok (.iload 6, 2) := by decide +kernel
theorem dX3_nominalDay_131 : decode cX3_nominalDay 131 = .ok (.goto 5, 3) := by decide +kernel
theorem dX3_nominalDay_134 : decode cX3_nominalDay 134 = .ok (.iload 5, 2) := by decide +kernel
theorem dX3_nominalDay_136 : decode cX3_nominalDay 136 = .ok (.ireturn, 1) := by decide +kernel
theorem dX3_aim_0 : decode cX3_aim 0 = .ok (.aload_n 0, 1) := by decide +kernel
theorem dX3_aim_1 : decode cX3_aim 1 = .ok (.aload_n 0, 1) := by decide +kernel
theorem dX3_aim_2 : decode cX3_aim 2 = .ok (.getfield 61, 3) := by decide +kernel
theorem dX3_aim_5 : decode cX3_aim 5 = .ok (.putfield 85, 3) := by decide +kernel
theorem dX3_aim_8 : decode cX3_aim 8 = .ok (.aload_n 0, 1) := by decide +kernel
theorem dX3_aim_9 : decode cX3_aim 9 = .ok (.aload_n 0, 1) := by decide +kernel
theorem dX3_aim_10 : decode cX3_aim 10 = .ok (.aload_n 0, 1) := by decide +kernel
theorem dX3_aim_11 : decode cX3_aim 11 = .ok (.getfield 61, 3) := by decide +kernel
theorem dX3_aim_14 : decode cX3_aim 14 = .ok (.aload_n 1, 1) := by decide +kernel
theorem dX3_aim_15 : decode cX3_aim 15 = .ok (.invokevirtual 88, 3) := by decide +kernel
theorem dX3_aim_18 : decode cX3_aim 18 = .ok (.putfield 92, 3) := by decide +kernel
theorem dX3_aim_21 : decode cX3_aim 21 = .ok (.aload_n 0, 1) := by decide +kernel
theorem dX3_aim_22 : decode cX3_aim 22 = .ok (.getfield 92, 3) := by decide +kernel
theorem dX3_aim_25 : decode cX3_aim 25 = .ok (.bipush (-6), 2) := by decide +kernel
theorem dX3_aim_27 : decode cX3_aim 27 = .ok (.if_icmp .eq 37, 3) := by decide +kernel
theorem dX3_aim_30 : decode cX3_aim 30 = .ok (.aload_n 0, 1) := by decide +kernel
theorem dX3_aim_31 : decode cX3_aim 31 = .ok (.getfield 92, 3) := by decide +kernel
theorem dX3_aim_34 : decode cX3_aim 34 = .ok (.aload_n 0, 1) := by decide +kernel
theorem dX3_aim_35 : decode cX3_aim 35 = .ok (.getfield 30, 3) := by decide +kernel
theorem dX3_aim_38 : decode cX3_aim 38 = .ok (.if_icmp .ge 26, 3) := by decide +kernel
theorem dX3_aim_41 : decode cX3_aim 41 = .ok (.aload_n 0, 1) := by decide +kernel
theorem dX3_aim_42 : decode cX3_aim 42 = .ok (.aload_n 0, 1) := by decide +kernel
theorem dX3_aim_43 : decode cX3_aim 43 = .ok (.getfield 61, 3) := by decide +kernel
theorem dX3_aim_46 : decode cX3_aim 46 = .ok (.iconst 1, 1) := by decide +kernel
theorem dX3_aim_47 : decode cX3_aim 47 = .ok (.iadd, 1) := by decide +kernel
theorem dX3_aim_48 : decode cX3_aim 48 = .ok (.putfield 85, 3) := by decide +kernel
theorem dX3_aim_51 : decode cX3_aim 51 = .ok (.aload_n 0, 1) := by decide +kernel
theorem dX3_aim_52 : decode cX3_aim 52 = .ok (.aload_n 0, 1) := by decide +kernel
theorem dX3_aim_53 : decode cX3_aim 53 = .ok (.aload_n 0, 1) := by decide +kernel
theorem dX3_aim_54 : decode cX3_aim 54 = .ok (.getfield 85, 3) := by decide +kernel
theorem dX3_aim_57 : decode cX3_aim 57 = .ok (.aload_n 1, 1) := by decide +kernel
theorem dX3_aim_58 : decode cX3_aim 58 = .ok (.invokevirtual 88, 3) := by decide +kernel
theorem dX3_aim_61 : decode cX3_aim 61 = .ok (.putfield 92, 3) := by decide +kernel
theorem dX3_aim_64 : decode cX3_aim 64 = .ok (.aload_n 0, 1) := by decide +kernel
theorem dX3_aim_65 : decode cX3_aim 65 = .ok (.aload_n 0, 1) := by decide +kernel
theorem dX3_aim_66 : decode cX3_aim 66 = .ok (.getfield 92, 3) := by decide +kernel
theorem dX3_aim_69 : decode cX3_aim 69 = .ok (.bipush (-6), 2) := by decide +kernel
theorem dX3_aim_71 : decode cX3_aim 71 = .ok (.if_icmp .ne 9, 3) := by decide +kernel
theorem dX3_aim_74 : decode cX3_aim 74 = .ok (.sipush 1095, 3) := by decide +kernel
theorem dX3_aim_77 : decode cX3_aim 77 = .ok (.goto 15, 3) := by decide +kernel
theorem dX3_aim_80 : decode cX3_aim 80 = .ok (.aload_n 1, 1) := by decide +kernel
theorem dX3_aim_81 : decode cX3_aim 81 = .ok (.aload_n 0, 1) := by decide +kernel
theorem dX3_aim_82 : decode cX3_aim 82 = .ok (.getfield 92, 3) := by decide +kernel
theorem dX3_aim_85 : decode cX3_aim 85 = .ok (.aload_n 0, 1) := by decide +kernel
theorem dX3_aim_86 : decode cX3_aim 86 = .ok (.getfield 33, 3) := by decide +kernel
theorem dX3_aim_89 : decode cX3_aim 89 = .ok (.invokevirtual 95, 3) := by decide +kernel
theorem dX3_aim_92 : decode cX3_aim 92 = .ok (.putfield 98, 3) := by decide +kernel
theorem dX3_aim_95 : decode cX3_aim 95 = .ok (.return_, 1) := by decide +kernel
theorem dX3_hasPaymentsLeft_0 : decode cX3_hasPaymentsLeft 0 = .ok (.aload_n 0, 1) := by decide +kernel
theorem dX3_hasPaymentsLeft_1 : decode cX3_hasPaymentsLeft 1 = .ok (.getfield 39, 3) := by decide +kernel
theorem dX3_hasPaymentsLeft_4 : decode cX3_hasPaymentsLeft 4 = .ok (.ifCond .ne 10, 3) := by decide +kernel
theorem dX3_hasPaymentsLeft_7 : decode cX3_hasPaymentsLeft 7 = .ok (.aload_n 0, 1) := by decide +kernel
theorem dX3_hasPaymentsLeft_8 : decode cX3_hasPaymentsLeft 8 = .ok (.getfield 43, 3) := by decide +kernel
theorem dX3_hasPaymentsLeft_11 : decode cX3_hasPaymentsLeft 11 = .ok (.ifCond .le 7, 3) := by decide +kernel
theorem dX3_hasPaymentsLeft_14 : decode cX3_hasPaymentsLeft 14 = .ok (.iconst 1, 1) := by decide +kernel
theorem dX3_hasPaymentsLeft_15 : decode cX3_hasPaymentsLeft 15 = .ok (.goto 4, 3) := by decide +kernel
theorem dX3_hasPaymentsLeft_18 : decode cX3_hasPaymentsLeft 18 = .ok (.iconst 0, 1) := by decide +kernel
theorem dX3_hasPaymentsLeft_19 : decode cX3_hasPaymentsLeft 19 = .ok (.ireturn, 1) := by decide +kernel
theorem dX3_leaveOutBefore_0 : decode cX3_leaveOutBefore 0 = .ok (.iconst 0, 1) := by decide +kernel
theorem dX3_leaveOutBefore_1 : decode cX3_leaveOutBefore 1 = .ok (.istore_n 3, 1) := by decide +kernel
theorem dX3_leaveOutBefore_2 : decode cX3_leaveOutBefore 2 = .ok (.aload_n 0, 1) := by decide +kernel
theorem dX3_leaveOutBefore_3 : decode cX3_leaveOutBefore 3 = .ok (.aload_n 2, 1) := by decide +kernel
theorem dX3_leaveOutBefore_4 : decode cX3_leaveOutBefore 4 = .ok (.invokevirtual 101, 3) := by decide +kernel
theorem dX3_leaveOutBefore_7 : decode cX3_leaveOutBefore 7 = .ok (.iconst 0, 1) := by decide +kernel
theorem dX3_leaveOutBefore_8 : decode cX3_leaveOutBefore 8 = .ok (.istore 4, 2) := by decide +kernel
theorem dX3_leaveOutBefore_10 : decode cX3_leaveOutBefore 10 = .ok (.iload 4, 2) := by decide +kernel
theorem dX3_leaveOutBefore_12 : decode cX3_leaveOutBefore 12 = .ok (.sipush 1094, 3) := by decide +kernel
theorem dX3_leaveOutBefore_15 : decode cX3_leaveOutBefore 15 = .ok (.if_icmp .gt 35, 3) := by decide +kernel
theorem dX3_leaveOutBefore_18 : decode cX3_leaveOutBefore 18 = .ok (.aload_n 0, 1) := by decide +kernel
theorem dX3_leaveOutBefore_19 : decode cX3_leaveOutBefore 19 = .ok (.getfield 98, 3) := by decide +kernel
theorem dX3_leaveOutBefore_22 : decode cX3_leaveOutBefore 22 = .ok (.iload_n 1, 1) := by decide +kernel
theorem dX3_leaveOutBefore_23 : decode cX3_leaveOutBefore 23 = .ok (.if_icmp .ge 27, 3) := by decide +kernel
theorem dX3_leaveOutBefore_26 : decode cX3_leaveOutBefore 26 = .ok (.iinc 3 1, 3) := by decide +kernel
theorem dX3_leaveOutBefore_29 : decode cX3_leaveOutBefore 29 = .ok (.aload_n 0, 1) := by decide +kernel
theorem dX3_leaveOutBefore_30 : decode cX3_leaveOutBefore 30 = .ok (.aload_n 0, 1) := by decide +kernel
theorem dX3_leaveOutBefore_31 : decode cX3_leaveOutBefore 31 = .ok (.getfield 85, 3) := by decide +kernel
theorem dX3_leaveOutBefore_34 : decode cX3_leaveOutBefore 34 = .ok (.iconst 1, 1) := by decide +kernel
theorem dX3_leaveOutBefore_35 : decode cX3_leaveOutBefore 35 = .ok (.iadd, 1) := by decide +kernel
theorem dX3_leaveOutBefore_36 : decode cX3_leaveOutBefore 36 = .ok (.putfield 61, 3) := by decide +kernel
theorem dX3_leaveOutBefore_39 : decode cX3_leaveOutBefore 39 = .ok (.aload_n 0, 1) := by decide +kernel
theorem dX3_leaveOutBefore_40 : decode cX3_leaveOutBefore 40 = .ok (.aload_n 2, 1) := by decide +kernel
theorem dX3_leaveOutBefore_41 : decode cX3_leaveOutBefore 41 = .ok (.invokevirtual 101, 3) := by decide +kernel
theorem dX3_leaveOutBefore_44 : decode cX3_leaveOutBefore 44 = .ok (.iinc 4 1, 3) := by decide +kernel
theorem dX3_leaveOutBefore_47 : decode cX3_leaveOutBefore 47 = .ok (.goto (-37), 3) := by decide +kernel
theorem dX3_leaveOutBefore_50 : decode cX3_leaveOutBefore 50 = .ok (.iload_n 3, 1) := by decide +kernel
theorem dX3_leaveOutBefore_51 : decode cX3_leaveOutBefore 51 = .ok (.ireturn, 1) := by decide +kernel
theorem dX3_dateBehindNext_0 : decode cX3_dateBehindNext 0 = .ok (.aload_n 0, 1) := by decide +kernel
theorem dX3_dateBehindNext_1 : decode cX3_dateBehindNext 1 = .ok (.getfield 46, 3) := by decide +kernel
theorem dX3_dateBehindNext_4 : decode cX3_dateBehindNext 4 = .ok (.iconst 2, 1) := by decide +kernel
theorem dX3_dateBehindNext_5 : decode cX3_dateBehindNext 5 = .ok (.if_icmp .eq 18, 3) := by decide +kernel
theorem dX3_dateBehindNext_8 : decode cX3_dateBehindNext 8 = .ok (.aload_n 0, 1) := by decide +kernel
theorem dX3_dateBehindNext_9 : decode cX3_dateBehindNext 9 = .ok (.getfield 39, 3) := by decide +kernel
theorem dX3_dateBehindNext_12 : decode cX3_dateBehindNext 12 = .ok (.ifCond .ne 14, 3) := by decide +kernel
theorem dX3_dateBehindNext_15 : decode cX3_dateBehindNext 15 = .ok (.iload_n 1, 1) := by decide +kernel
theorem dX3_dateBehindNext_16 : decode cX3_dateBehindNext 16 = .ok (.aload_n 0, 1) := by decide +kernel
theorem dX3_dateBehindNext_17 : decode cX3_dateBehindNext 17 = .ok (.getfield 43, 3) := by decide +kernel
theorem dX3_dateBehindNext_20 : decode cX3_dateBehindNext 20 = .ok (.if_icmp .lt 6, 3) := by decide +kernel
theorem dX3_dateBehindNext_23 : decode cX3_dateBehindNext 23 = .ok (.bipush (-6), 2) := by decide +kernel
theorem dX3_dateBehindNext_25 : decode cX3_dateBehindNext 25 = .ok (.ireturn, 1) := by decide +kernel
theorem dX3_dateBehindNext_26 : decode cX3_dateBehindNext 26 = .ok (.aload_n 0, 1) := by decide +kernel
theorem dX3_dateBehindNext_27 : decode cX3_dateBehindNext 27 = .ok (.aload_n 2, 1) := by decide +kernel
theorem dX3_dateBehindNext_28 : decode cX3_dateBehindNext 28 = .ok (.invokevirtual 101, 3) := by decide +kernel
theorem dX3_dateBehindNext_31 : decode cX3_dateBehindNext 31 = .ok (.aload_n 0, 1) := by decide +kernel
theorem dX3_dateBehindNext_32 : decode cX3_dateBehindNext 32 = .ok (.aload_n 0, 1) := by decide +kernel
theorem dX3_dateBehindNext_33 : decode cX3_dateBehindNext 33 = .ok (.getfield 85, 3) := by decide +kernel
theorem dX3_dateBehindNext_36 : decode cX3_dateBehindNext 36 = .ok (.iload_n 1, 1) := by decide +kernel
theorem dX3_dateBehindNext_37 : decode cX3_dateBehindNext 37 = .ok (.iadd, 1) := by decide +kernel
theorem dX3_dateBehindNext_38 : decode cX3_dateBehindNext 38 = .ok (.aload_n 2, 1) := by decide +kernel
theorem dX3_dateBehindNext_39 : decode cX3_dateBehindNext 39 = .ok (.invokevirtual 88, 3) := by decide +kernel
theorem dX3_dateBehindNext_42 : decode cX3_dateBehindNext 42 = .ok (.istore_n 3, 1) := by decide +kernel
theorem dX3_dateBehindNext_43 : decode cX3_dateBehindNext 43 = .ok (.iload_n 3, 1) := by decide +kernel
theorem dX3_dateBehindNext_44 : decode cX3_dateBehindNext 44 = .ok (.bipush (-6), 2) := by decide +kernel
theorem dX3_dateBehindNext_46 : decode cX3_dateBehindNext 46 = .ok (.if_icmp .ne 8, 3) := by decide +kernel
theorem dX3_dateBehindNext_49 : decode cX3_dateBehindNext 49 = .ok (.bipush (-6), 2) := by decide +kernel
theorem dX3_dateBehindNext_51 : decode cX3_dateBehindNext 51 = .ok (.goto 12, 3) := by decide +kernel
theorem dX3_dateBehindNext_54 : decode cX3_dateBehindNext 54 = .ok (.aload_n 2, 1) := by decide +kernel
theorem dX3_dateBehindNext_55 : decode cX3_dateBehindNext 55 = .ok (.iload_n 3, 1) := by decide +kernel
theorem dX3_dateBehindNext_56 : decode cX3_dateBehindNext 56 = .ok (.aload_n 0, 1) := by decide +kernel
theorem dX3_dateBehindNext_57 : decode cX3_dateBehindNext 57 = .ok (.getfield 33, 3) := by decide +kernel
theorem dX3_dateBehindNext_60 : decode cX3_dateBehindNext 60 = .ok (.invokevirtual 95, 3) := by decide +kernel
theorem dX3_dateBehindNext_63 : decode cX3_dateBehindNext 63 = .ok (.ireturn, 1) := by decide +kernel
theorem dX3_numberOf_0 : decode cX3_numberOf 0 = .ok (.iload_n 1, 1) := by decide +kernel
theorem dX3_numberOf_1 : decode cX3_numberOf 1 = .ok (.tableswitch 162 0 14 #[75, 80, 85, 90, 95, 100, 105, 110, 115, 120, 137, 142, 147, 152, 157], 75) := by decide +kernel
theorem dX3_numberOf_76 : decode cX3_numberOf 76 = .ok (.aload_n 0, 1) := by decide +kernel
theorem dX3_numberOf_77 : decode cX3_numberOf 77 = .ok (.getfield 9, 3) := by decide +kernel
theorem dX3_numberOf_80 : decode cX3_numberOf 80 = .ok (.ireturn, 1) := by decide +kernel
theorem dX3_numberOf_81 : decode cX3_numberOf 81 = .ok (.aload_n 0, 1) := by decide +kernel
theorem dX3_numberOf_82 : decode cX3_numberOf 82 = .ok (.getfield 15, 3) := by decide +kernel
theorem dX3_numberOf_85 : decode cX3_numberOf 85 = .ok (.ireturn, 1) := by decide +kernel
theorem dX3_numberOf_86 : decode cX3_numberOf 86 = .ok (.aload_n 0, 1) := by decide +kernel
theorem dX3_numberOf_87 : decode cX3_numberOf 87 = .ok (.getfield 18, 3) := by decide +kernel
theorem dX3_numberOf_90 : decode cX3_numberOf 90 = .ok (.ireturn, 1) := by decide +kernel
theorem dX3_numberOf_91 : decode cX3_numberOf 91 = .ok (.aload_n 0, 1) := by decide +kernel
theorem dX3_numberOf_92 : decode cX3_numberOf 92 = .ok (.getfield 21, 3) := by decide +kernel
theorem dX3_numberOf_95 : decode cX3_numberOf 95 = .ok (.ireturn, 1) := by decide +kernel
theorem dX3_numberOf_96 : decode cX3_numberOf 96 = .ok (.aload_n 0, 1) := by decide +kernel
theorem dX3_numberOf_97 : decode cX3_numberOf 97 = .ok (.getfield 24, 3) := by decide +kernel
theorem dX3_numberOf_100 : decode cX3_numberOf 100 = .ok (.ireturn, 1) := by decide +kernel
theorem dX3_numberOf_101 : decode cX3_numberOf 101 = .ok (.aload_n 0, 1) := by decide +kernel
theorem dX3_numberOf_102 : decode cX3_numberOf 102 = .ok (.getfield 27, 3) := by decide +kernel
theorem dX3_numberOf_105 : decode cX3_numberOf 105 = .ok (.ireturn, 1) := by decide +kernel
theorem dX3_numberOf_106 : decode cX3_numberOf 106 = .ok (.aload_n 0, 1) := by decide +kernel
theorem dX3_numberOf_107 : decode cX3_numberOf 107 = .ok (.getfield 30, 3) := by decide +kernel
theorem dX3_numberOf_110 : decode cX3_numberOf 110 = .ok (.ireturn, 1) := by decide +kernel
theorem dX3_numberOf_111 : decode cX3_numberOf 111 = .ok (.aload_n 0, 1) := by decide +kernel
theorem dX3_numberOf_112 : decode cX3_numberOf 112 = .ok (.getfield 33, 3) := by decide +kernel
theorem dX3_numberOf_115 : decode cX3_numberOf 115 = .ok (.ireturn, 1) := by decide +kernel
theorem dX3_numberOf_116 : decode cX3_numberOf 116 = .ok (.aload_n 0, 1) := by decide +kernel
theorem dX3_numberOf_117 : decode cX3_numberOf 117 = .ok (.getfield 36, 3) := by decide +kernel
theorem dX3_numberOf_120 : decode cX3_numberOf 120 = .ok (.ireturn, 1) := by decide +kernel
theorem dX3_numberOf_121 : decode cX3_numberOf 121 = .ok (.aload_n 0, 1) := by decide +kernel
theorem dX3_numberOf_122 : decode cX3_numberOf 122 = .ok (.getfield 46, 3) := by decide +kernel
theorem dX3_numberOf_125 : decode cX3_numberOf 125 = .ok (.iconst 2, 1) := by decide +kernel
theorem dX3_numberOf_126 : decode cX3_numberOf 126 = .ok (.if_icmp .ne 7, 3) := by decide +kernel
theorem dX3_numberOf_129 : decode cX3_numberOf 129 = .ok (.iconst 0, 1) := by decide +kernel
theorem dX3_numberOf_130 : decode cX3_numberOf 130 = .ok (.goto 7, 3) := by decide +kernel
theorem dX3_numberOf_133 : decode cX3_numberOf 133 = .ok (.aload_n 0, 1) := by decide +kernel
theorem dX3_numberOf_134 : decode cX3_numberOf 134 = .ok (.getfield 43, 3) := by decide +kernel
theorem dX3_numberOf_137 : decode cX3_numberOf 137 = .ok (.ireturn, 1) := by decide +kernel
theorem dX3_numberOf_138 : decode cX3_numberOf 138 = .ok (.aload_n 0, 1) := by decide +kernel
theorem dX3_numberOf_139 : decode cX3_numberOf 139 = .ok (.getfield 46, 3) := by decide +kernel
theorem dX3_numberOf_142 : decode cX3_numberOf 142 = .ok (.ireturn, 1) := by decide +kernel
theorem dX3_numberOf_143 : decode cX3_numberOf 143 = .ok (.aload_n 0, 1) := by decide +kernel
theorem dX3_numberOf_144 : decode cX3_numberOf 144 = .ok (.getfield 49, 3) := by decide +kernel
theorem dX3_numberOf_147 : decode cX3_numberOf 147 = .ok (.ireturn, 1) := by decide +kernel
theorem dX3_numberOf_148 : decode cX3_numberOf 148 = .ok (.aload_n 0, 1) := by decide +kernel
theorem dX3_numberOf_149 : decode cX3_numberOf 149 = .ok (.getfield 52, 3) := by decide +kernel
theorem dX3_numberOf_152 : decode cX3_numberOf 152 = .ok (.ireturn, 1) := by decide +kernel
theorem dX3_numberOf_153 : decode cX3_numberOf 153 = .ok (.aload_n 0, 1) := by decide +kernel
theorem dX3_numberOf_154 : decode cX3_numberOf 154 = .ok (.getfield 55, 3) := by decide +kernel
theorem dX3_numberOf_157 : decode cX3_numberOf 157 = .ok (.ireturn, 1) := by decide +kernel
theorem dX3_numberOf_158 : decode cX3_numberOf 158 = .ok (.aload_n 0, 1) := by decide +kernel
theorem dX3_numberOf_159 : decode cX3_numberOf 159 = .ok (.getfield 58, 3) := by decide +kernel
theorem dX3_numberOf_162 : decode cX3_numberOf 162 = .ok (.ireturn, 1) := by decide +kernel
theorem dX3_numberOf_163 : decode cX3_numberOf 163 = .ok (.bipush (-2), 2) := by decide +kernel
theorem dX3_numberOf_165 : decode cX3_numberOf 165 = .ok (.ireturn, 1) := by decide +kernel
theorem dX4_init_0 : decode cX4_init 0 = .ok (.aload_n 0, 1) := by decide +kernel
theorem dX4_init_1 : decode cX4_init 1 = .ok (.invokespecial 3, 3) := by decide +kernel
theorem dX4_init_4 : decode cX4_init 4 = .ok (.aload_n 0, 1) := by decide +kernel
theorem dX4_init_5 : decode cX4_init 5 = .ok (.bipush 80, 2) := by decide +kernel
theorem dX4_init_7 : decode cX4_init 7 = .ok (.newarray .char, 2) := by decide +kernel
theorem dX4_init_9 : decode cX4_init 9 = .ok (.putfield 11, 3) := by decide +kernel
theorem dX4_init_12 : decode cX4_init 12 = .ok (.return_, 1) := by decide +kernel
theorem dX5_init_0 : decode cX5_init 0 = .ok (.aload_n 0, 1) := by decide +kernel
theorem dX5_init_1 : decode cX5_init 1 = .ok (.invokespecial 3, 3) := by decide +kernel
theorem dX5_init_4 : decode cX5_init 4 = .ok (.aload_n 0, 1) := by decide +kernel
theorem dX5_init_5 : decode cX5_init 5 = .ok (.iconst 5, 1) := by decide +kernel
theorem dX5_init_6 : decode cX5_init 6 = .ok (.bipush 64, 2) := by decide +kernel
theorem dX5_init_8 : decode cX5_init 8 = .ok (.multianewarray 11 2, 4) := by decide +kernel
theorem dX5_init_12 : decode cX5_init 12 = .ok (.putfield 13, 3) := by decide +kernel
theorem dX5_init_15 : decode cX5_init 15 = .ok (.aload_n 0, 1) := by decide +kernel
theorem dX5_init_16 : decode cX5_init 16 = .ok (.bipush 64, 2) := by decide +kernel
theorem dX5_init_18 : decode cX5_init 18 = .ok (.putfield 16, 3) := by decide +kernel
theorem dX5_init_21 : decode cX5_init 21 = .ok (.return_, 1) := by decide +kernel
theorem dX5_copyFrom_0 : decode cX5_copyFrom 0 = .ok (.aload_n 0, 1) := by decide +kernel
theorem dX5_copyFrom_1 : decode cX5_copyFrom 1 = .ok (.getfield 16, 3) := by decide +kernel
theorem dX5_copyFrom_4 : decode cX5_copyFrom 4 = .ok (.aload_n 1, 1) := by decide +kernel
theorem dX5_copyFrom_5 : decode cX5_copyFrom 5 = .ok (.getfield 20, 3) := by decide +kernel
theorem dX5_copyFrom_8 : decode cX5_copyFrom 8 = .ok (.if_icmp .ge 11, 3) := by decide +kernel
theorem dX5_copyFrom_11 : decode cX5_copyFrom 11 = .ok (.aload_n 0, 1) := by decide +kernel
theorem dX5_copyFrom_12 : decode cX5_copyFrom 12 = .ok (.aload_n 1, 1) := by decide +kernel
theorem dX5_copyFrom_13 : decode cX5_copyFrom 13 = .ok (.getfield 16, 3) := by decide +kernel
theorem dX5_copyFrom_16 : decode cX5_copyFrom 16 = .ok (.invokevirtual 23, 3) := by decide +kernel
theorem dX5_copyFrom_19 : decode cX5_copyFrom 19 = .ok (.iconst 0, 1) := by decide +kernel
theorem dX5_copyFrom_20 : decode cX5_copyFrom 20 = .ok (.istore_n 2, 1) := by decide +kernel
theorem dX5_copyFrom_21 : decode cX5_copyFrom 21 = .ok (.iload_n 2, 1) := by decide +kernel
theorem dX5_copyFrom_22 : decode cX5_copyFrom 22 = .ok (.iconst 5, 1) := by decide +kernel
theorem dX5_copyFrom_23 : decode cX5_copyFrom 23 = .ok (.if_icmp .ge 30, 3) := by decide +kernel
theorem dX5_copyFrom_26 : decode cX5_copyFrom 26 = .ok (.aload_n 1, 1) := by decide +kernel
theorem dX5_copyFrom_27 : decode cX5_copyFrom 27 = .ok (.getfield 13, 3) := by decide +kernel
theorem dX5_copyFrom_30 : decode cX5_copyFrom 30 = .ok (.iload_n 2, 1) := by decide +kernel
theorem dX5_copyFrom_31 : decode cX5_copyFrom 31 = .ok (.aaload, 1) := by decide +kernel
theorem dX5_copyFrom_32 : decode cX5_copyFrom 32 = .ok (.iconst 0, 1) := by decide +kernel
theorem dX5_copyFrom_33 : decode cX5_copyFrom 33 = .ok (.aload_n 0, 1) := by decide +kernel
theorem dX5_copyFrom_34 : decode cX5_copyFrom 34 = .ok (.getfield 13, 3) := by decide +kernel
theorem dX5_copyFrom_37 : decode cX5_copyFrom 37 = .ok (.iload_n 2, 1) := by decide +kernel
theorem dX5_copyFrom_38 : decode cX5_copyFrom 38 = .ok (.aaload, 1) := by decide +kernel
theorem dX5_copyFrom_39 : decode cX5_copyFrom 39 = .ok (.iconst 0, 1) := by decide +kernel
theorem dX5_copyFrom_40 : decode cX5_copyFrom 40 = .ok (.aload_n 1, 1) := by decide +kernel
theorem dX5_copyFrom_41 : decode cX5_copyFrom 41 = .ok (.getfield 20, 3) := by decide +kernel
theorem dX5_copyFrom_44 : decode cX5_copyFrom 44 = .ok (.invokestatic 27, 3) := by decide +kernel
theorem dX5_copyFrom_47 : decode cX5_copyFrom 47 = .ok (.iinc 2 1, 3) := by decide +kernel
theorem dX5_copyFrom_50 : decode cX5_copyFrom 50 = .ok (.goto (-29), 3) := by decide +kernel
theorem dX5_copyFrom_53 : decode cX5_copyFrom 53 = .ok (.aload_n 0, 1) := by decide +kernel
theorem dX5_copyFrom_54 : decode cX5_copyFrom 54 = .ok (.aload_n 1, 1) := by decide +kernel
theorem dX5_copyFrom_55 : decode cX5_copyFrom 55 = .ok (.getfield 20, 3) := by decide +kernel
theorem dX5_copyFrom_58 : decode cX5_copyFrom 58 = .ok (.putfield 20, 3) := by decide +kernel
theorem dX5_copyFrom_61 : decode cX5_copyFrom 61 = .ok (.return_, 1) := by decide +kernel
theorem dX5_makeRoom_0 : decode cX5_makeRoom 0 = .ok (.iload_n 1, 1) := by decide +kernel
theorem dX5_makeRoom_1 : decode cX5_makeRoom 1 = .ok (.aload_n 0, 1) := by decide +kernel
theorem dX5_makeRoom_2 : decode cX5_makeRoom 2 = .ok (.getfield 16, 3) := by decide +kernel
theorem dX5_makeRoom_5 : decode cX5_makeRoom 5 = .ok (.if_icmp .gt 4, 3) := by decide +kernel
theorem dX5_makeRoom_8 : decode cX5_makeRoom 8 = .ok (.return_, 1) := by decide +kernel
theorem dX5_makeRoom_9 : decode cX5_makeRoom 9 = .ok (.iconst 0, 1) := by decide +kernel
theorem dX5_makeRoom_10 : decode cX5_makeRoom 10 = .ok (.istore_n 2, 1) := by decide +kernel
theorem dX5_makeRoom_11 : decode cX5_makeRoom 11 = .ok (.iload_n 2, 1) := by decide +kernel
theorem dX5_makeRoom_12 : decode cX5_makeRoom 12 = .ok (.iconst 5, 1) := by decide +kernel
theorem dX5_makeRoom_13 : decode cX5_makeRoom 13 = .ok (.if_icmp .ge 25, 3) := by decide +kernel
theorem dX5_makeRoom_16 : decode cX5_makeRoom 16 = .ok (.aload_n 0, 1) := by decide +kernel
theorem dX5_makeRoom_17 : decode cX5_makeRoom 17 = .ok (.getfield 13, 3) := by decide +kernel
theorem dX5_makeRoom_20 : decode cX5_makeRoom 20 = .ok (.iload_n 2, 1) := by decide +kernel
theorem dX5_makeRoom_21 : decode cX5_makeRoom 21 = .ok (.aload_n 0, 1) := by decide +kernel
theorem dX5_makeRoom_22 : decode cX5_makeRoom 22 = .ok (.getfield 13, 3) := by decide +kernel
theorem dX5_makeRoom_25 : decode cX5_makeRoom 25 = .ok (.iload_n 2, 1) := by decide +kernel
theorem dX5_makeRoom_26 : decode cX5_makeRoom 26 = .ok (.aaload, 1) := by decide +kernel
theorem dX5_makeRoom_27 : decode cX5_makeRoom 27 = .ok (.iload_n 1, 1) := by decide +kernel
theorem dX5_makeRoom_28 : decode cX5_makeRoom 28 = .ok (.invokestatic 33, 3) := by decide +kernel
theorem dX5_makeRoom_31 : decode cX5_makeRoom 31 = .ok (.aastore, 1) := by decide +kernel
theorem dX5_makeRoom_32 : decode cX5_makeRoom 32 = .ok (.iinc 2 1, 3) := by decide +kernel
theorem dX5_makeRoom_35 : decode cX5_makeRoom 35 = .ok (.goto (-24), 3) := by decide +kernel
theorem dX5_makeRoom_38 : decode cX5_makeRoom 38 = .ok (.aload_n 0, 1) := by decide +kernel
theorem dX5_makeRoom_39 : decode cX5_makeRoom 39 = .ok (.iload_n 1, 1) := by decide +kernel
theorem dX5_makeRoom_40 : decode cX5_makeRoom 40 = .ok (.putfield 16, 3) := by decide +kernel
theorem dX5_makeRoom_43 : decode cX5_makeRoom 43 = .ok (.return_, 1) := by decide +kernel
theorem dX5_add_0 : decode cX5_add 0 = .ok (.aload_n 0, 1) := by decide +kernel
theorem dX5_add_1 : decode cX5_add 1 = .ok (.getfield 20, 3) := by decide +kernel
theorem dX5_add_4 : decode cX5_add 4 = .ok (.sipush 17520, 3) := by decide +kernel
theorem dX5_add_7 : decode cX5_add 7 = .ok (.if_icmp .lt 5, 3) := by decide +kernel
theorem dX5_add_10 : decode cX5_add 10 = .ok (.iconst 0, 1) := by decide +kernel
theorem dX5_add_11 : decode cX5_add 11 = .ok (.ireturn, 1) := by decide +kernel
theorem dX5_add_12 : decode cX5_add 12 = .ok (.aload_n 0, 1) := by decide +kernel
theorem dX5_add_13 : decode cX5_add 13 = .ok (.getfield 20, 3) := by decide +kernel
theorem dX5_add_16 : decode cX5_add 16 = .ok (.aload_n 0, 1) := by decide +kernel
theorem dX5_add_17 : decode cX5_add 17 = .ok (.getfield 16, 3) := by decide +kernel
theorem dX5_add_20 : decode cX5_add 20 = .ok (.if_icmp .lt 19, 3) := by decide +kernel
theorem dX5_add_23 : decode cX5_add 23 = .ok (.aload_n 0, 1) := by decide +kernel
theorem dX5_add_24 : decode cX5_add 24 = .ok (.iconst 2, 1) := by decide +kernel
theorem dX5_add_25 : decode cX5_add 25 = .ok (.aload_n 0, 1) := by decide +kernel
theorem dX5_add_26 : decode cX5_add 26 = .ok (.getfield 16, 3) := by decide +kernel
theorem dX5_add_29 : decode cX5_add 29 = .ok (.imul, 1) := by decide +kernel
theorem dX5_add_30 : decode cX5_add 30 = .ok (.sipush 17520, 3) := by decide +kernel
theorem dX5_add_33 : decode cX5_add 33 = .ok (.invokestatic 39, 3) := by decide +kernel
theorem dX5_add_36 : decode cX5_add 36 = .ok (.invokevirtual 23, 3) := by decide +kernel
theorem dX5_add_39 : decode cX5_add 39 = .ok (.aload_n 0, 1) := by decide +kernel
theorem dX5_add_40 : decode cX5_add 40 = .ok (.getfield 13, 3) := by decide +kernel
theorem dX5_add_43 : decode cX5_add 43 = .ok (.iconst 0, 1) := by decide +kernel
theorem dX5_add_44 : decode cX5_add 44 = .ok (.aaload, 1) := by decide +kernel
theorem dX5_add_45 : decode cX5_add 45 = .ok (.aload_n 0, 1) := by decide +kernel
theorem dX5_add_46 : decode cX5_add 46 = .ok (.getfield 20, 3) := by decide +kernel
theorem dX5_add_49 : decode cX5_add 49 = .ok (.iload_n 1, 1) := by decide +kernel
theorem dX5_add_50 : decode cX5_add 50 = .ok (.iastore, 1) := by decide +kernel
theorem dX5_add_51 : decode cX5_add 51 = .ok (.aload_n 0, 1) := by decide +kernel
theorem dX5_add_52 : decode cX5_add 52 = .ok (.getfield 13, 3) := by decide +kernel
theorem dX5_add_55 : decode cX5_add 55 = .ok (.iconst 1, 1) := by decide +kernel
theorem dX5_add_56 : decode cX5_add 56 = .ok (.aaload, 1) := by decide +kernel
theorem dX5_add_57 : decode cX5_add 57 = .ok (.aload_n 0, 1) := by decide +kernel
theorem dX5_add_58 : decode cX5_add 58 = .ok (.getfield 20, 3) := by decide +kernel
theorem dX5_add_61 : decode cX5_add 61 = .ok (.iload_n 2, 1) := by decide +kernel
theorem dX5_add_62 : decode cX5_add 62 = .ok (.iastore, 1) := by decide +kernel
theorem dX5_add_63 : decode cX5_add 63 = .ok (.aload_n 0, 1) := by decide +kernel
theorem dX5_add_64 : decode cX5_add 64 = .ok (.getfield 13, 3) := by decide +kernel
theorem dX5_add_67 : decode cX5_add 67 = .ok (.iconst 2, 1) := by decide +kernel
theorem dX5_add_68 : decode cX5_add 68 = .ok (.aaload, 1) := by decide +kernel
theorem dX5_add_69 : decode cX5_add 69 = .ok (.aload_n 0, 1) := by decide +kernel
theorem dX5_add_70 : decode cX5_add 70 = .ok (.getfield 20, 3) := by decide +kernel
theorem dX5_add_73 : decode cX5_add 73 = .ok (.iload_n 3, 1) := by decide +kernel
theorem dX5_add_74 : decode cX5_add 74 = .ok (.iastore, 1) := by decide +kernel
theorem dX5_add_75 : decode cX5_add 75 = .ok (.aload_n 0, 1) := by decide +kernel
theorem dX5_add_76 : decode cX5_add 76 = .ok (.getfield 13, 3) := by decide +kernel
theorem dX5_add_79 : decode cX5_add 79 = .ok (.iconst 3, 1) := by decide +kernel
theorem dX5_add_80 : decode cX5_add 80 = .ok (.aaload, 1) := by decide +kernel
theorem dX5_add_81 : decode cX5_add 81 = .ok (.aload_n 0, 1) := by decide +kernel
theorem dX5_add_82 : decode cX5_add 82 = .ok (.getfield 20, 3) := by decide +kernel
theorem dX5_add_85 : decode cX5_add 85 = .ok (.iload 4, 2) := by decide +kernel
theorem dX5_add_87 : decode cX5_add 87 = .ok (.iastore, 1) := by decide +kernel
theorem dX5_add_88 : decode cX5_add 88 = .ok (.aload_n 0, 1) := by decide +kernel
theorem dX5_add_89 : decode cX5_add 89 = .ok (.getfield 13, 3) := by decide +kernel
theorem dX5_add_92 : decode cX5_add 92 = .ok (.iconst 4, 1) := by decide +kernel
theorem dX5_add_93 : decode cX5_add 93 = .ok (.aaload, 1) := by decide +kernel
theorem dX5_add_94 : decode cX5_add 94 = .ok (.aload_n 0, 1) := by decide +kernel
theorem dX5_add_95 : decode cX5_add 95 = .ok (.getfield 20, 3) := by decide +kernel
theorem dX5_add_98 : decode cX5_add 98 = .ok (.iconst 0, 1) := by decide +kernel
theorem dX5_add_99 : decode cX5_add 99 = .ok (.iastore, 1) := by decide +kernel
theorem dX5_add_100 : decode cX5_add 100 = .ok (.aload_n 0, 1) := by decide +kernel
theorem dX5_add_101 : decode cX5_add 101 = .ok (.dup, 1) := by decide +kernel
theorem dX5_add_102 : decode cX5_add 102 = .ok (.getfield 20, 3) := by decide +kernel
theorem dX5_add_105 : decode cX5_add 105 = .ok (.iconst 1, 1) := by decide +kernel
theorem dX5_add_106 : decode cX5_add 106 = .ok (.iadd, 1) := by decide +kernel
theorem dX5_add_107 : decode cX5_add 107 = .ok (.putfield 20, 3) := by decide +kernel
theorem dX5_add_110 : decode cX5_add 110 = .ok (.iconst 1, 1) := by decide +kernel
theorem dX5_add_111 : decode cX5_add 111 = .ok (.ireturn, 1) := by decide +kernel
theorem dX5_dropSettled_0 : decode cX5_dropSettled 0 = .ok (.iconst 0, 1) := by decide +kernel
theorem dX5_dropSettled_1 : decode cX5_dropSettled 1 = .ok (.istore_n 1, 1) := by decide +kernel
theorem dX5_dropSettled_2 : decode cX5_dropSettled 2 = .ok (.iconst 0, 1) := by decide +kernel
theorem dX5_dropSettled_3 : decode cX5_dropSettled 3 = .ok (.istore_n 2, 1) := by decide +kernel
theorem dX5_dropSettled_4 : decode cX5_dropSettled 4 = .ok (.iload_n 2, 1) := by decide +kernel
theorem dX5_dropSettled_5 : decode cX5_dropSettled 5 = .ok (.aload_n 0, 1) := by decide +kernel
theorem dX5_dropSettled_6 : decode cX5_dropSettled 6 = .ok (.getfield 20, 3) := by decide +kernel
theorem dX5_dropSettled_9 : decode cX5_dropSettled 9 = .ok (.if_icmp .ge 55, 3) := by decide +kernel
theorem dX5_dropSettled_12 : decode cX5_dropSettled 12 = .ok (.aload_n 0, 1) := by decide +kernel
theorem dX5_dropSettled_13 : decode cX5_dropSettled 13 = .ok (.getfield 13, 3) := by decide +kernel
theorem dX5_dropSettled_16 : decode cX5_dropSettled 16 = .ok (.iconst 1, 1) := by decide +kernel
theorem dX5_dropSettled_17 : decode cX5_dropSettled 17 = .ok (.aaload, 1) := by decide +kernel
theorem dX5_dropSettled_18 : decode cX5_dropSettled 18 = .ok (.iload_n 2, 1) := by decide +kernel
theorem dX5_dropSettled_19 : decode cX5_dropSettled 19 = .ok (.iaload, 1) := by decide +kernel
theorem dX5_dropSettled_20 : decode cX5_dropSettled 20 = .ok (.ifCond .ne 6, 3) := by decide +kernel
theorem dX5_dropSettled_23 : decode cX5_dropSettled 23 = .ok (.goto 35, 3) := by decide +kernel
theorem dX5_dropSettled_26 : decode cX5_dropSettled 26 = .ok (.iconst 0, 1) := by decide +kernel
theorem dX5_dropSettled_27 : decode cX5_dropSettled 27 = .ok (.istore_n 3, 1) := by decide +kernel
theorem dX5_dropSettled_28 : decode cX5_dropSettled 28 = .ok (.iload_n 3, 1) := by decide +kernel
theorem dX5_dropSettled_29 : decode cX5_dropSettled 29 = .ok (.iconst 5, 1) := by decide +kernel
theorem dX5_dropSettled_30 : decode cX5_dropSettled 30 = .ok (.if_icmp .ge 25, 3) := by decide +kernel
theorem dX5_dropSettled_33 : decode cX5_dropSettled 33 = .ok (.aload_n 0, 1) := by decide +kernel
theorem dX5_dropSettled_34 : decode cX5_dropSettled 34 = .ok (.getfield 13, 3) := by decide +kernel
theorem dX5_dropSettled_37 : decode cX5_dropSettled 37 = .ok (.iload_n 3, 1) := by decide +kernel
theorem dX5_dropSettled_38 : decode cX5_dropSettled 38 = .ok (.aaload, 1) := by decide +kernel
theorem dX5_dropSettled_39 : decode cX5_dropSettled 39 = .ok (.iload_n 1, 1) := by decide +kernel
theorem dX5_dropSettled_40 : decode cX5_dropSettled 40 = .ok (.aload_n 0, 1) := by decide +kernel
theorem dX5_dropSettled_41 : decode cX5_dropSettled 41 = .ok (.getfield 13, 3) := by decide +kernel
theorem dX5_dropSettled_44 : decode cX5_dropSettled 44 = .ok (.iload_n 3, 1) := by decide +kernel
theorem dX5_dropSettled_45 : decode cX5_dropSettled 45 = .ok (.aaload, 1) := by decide +kernel
theorem dX5_dropSettled_46 : decode cX5_dropSettled 46 = .ok (.iload_n 2, 1) := by decide +kernel
theorem dX5_dropSettled_47 : decode cX5_dropSettled 47 = .ok (.iaload, 1) := by decide +kernel
theorem dX5_dropSettled_48 : decode cX5_dropSettled 48 = .ok (.iastore, 1) := by decide +kernel
theorem dX5_dropSettled_49 : decode cX5_dropSettled 49 = .ok (.iinc 3 1, 3) := by decide +kernel
theorem dX5_dropSettled_52 : decode cX5_dropSettled 52 = .ok (.goto (-24), 3) := by decide +kernel
theorem dX5_dropSettled_55 : decode cX5_dropSettled 55 = .ok (.iinc 1 1, 3) := by decide +kernel
theorem dX5_dropSettled_58 : decode cX5_dropSettled 58 = .ok (.iinc 2 1, 3) := by decide +kernel
theorem dX5_dropSettled_61 : decode cX5_dropSettled 61 = .ok (.goto (-57), 3) := by decide +kernel
theorem dX5_dropSettled_64 : decode cX5_dropSettled 64 = .ok (.aload_n 0, 1) := by decide +kernel
theorem dX5_dropSettled_65 : decode cX5_dropSettled 65 = .ok (.iload_n 1, 1) := by decide +kernel
theorem dX5_dropSettled_66 : decode cX5_dropSettled 66 = .ok (.putfield 20, 3) := by decide +kernel
theorem dX5_dropSettled_69 : decode cX5_dropSettled 69 = .ok (.return_, 1) := by decide +kernel
theorem dX6_init_0 : decode cX6_init 0 = .ok (.aload_n 0, 1) := by decide +kernel
theorem dX6_init_1 : decode cX6_init 1 = .ok (.invokespecial 3, 3) := by decide +kernel
theorem dX6_init_4 : decode cX6_init 4 = .ok (.aload_n 0, 1) := by decide +kernel
theorem dX6_init_5 : decode cX6_init 5 = .ok (.new 9, 3) := by decide +kernel
theorem dX6_init_8 : decode cX6_init 8 = .ok (.dup, 1) := by decide +kernel
theorem dX6_init_9 : decode cX6_init 9 = .ok (.invokespecial 11, 3) := by decide +kernel
theorem dX6_init_12 : decode cX6_init 12 = .ok (.putfield 12, 3) := by decide +kernel
theorem dX6_init_15 : decode cX6_init 15 = .ok (.aload_n 0, 1) := by decide +kernel
theorem dX6_init_16 : decode cX6_init 16 = .ok (.new 9, 3) := by decide +kernel
theorem dX6_init_19 : decode cX6_init 19 = .ok (.dup, 1) := by decide +kernel
theorem dX6_init_20 : decode cX6_init 20 = .ok (.invokespecial 11, 3) := by decide +kernel
theorem dX6_init_23 : decode cX6_init 23 = .ok (.putfield 16, 3) := by decide +kernel
theorem dX6_init_26 : decode cX6_init 26 = .ok (.aload_n 0, 1) := by decide +kernel
theorem dX6_init_27 : decode cX6_init 27 = .ok (.bipush 7, 2) := by decide +kernel
theorem dX6_init_29 : decode cX6_init 29 = .ok (.anewarray 9, 3) := by decide +kernel
theorem dX6_init_32 : decode cX6_init 32 = .ok (.putfield 19, 3) := by decide +kernel
theorem dX6_init_35 : decode cX6_init 35 = .ok (.aload_n 0, 1) := by decide +kernel
theorem dX6_init_36 : decode cX6_init 36 = .ok (.iconst 2, 1) := by decide +kernel
theorem dX6_init_37 : decode cX6_init 37 = .ok (.anewarray 9, 3) := by decide +kernel
theorem dX6_init_40 : decode cX6_init 40 = .ok (.putfield 23, 3) := by decide +kernel
theorem dX6_init_43 : decode cX6_init 43 = .ok (.aload_n 0, 1) := by decide +kernel
theorem dX6_init_44 : decode cX6_init 44 = .ok (.iconst 2, 1) := by decide +kernel
theorem dX6_init_45 : decode cX6_init 45 = .ok (.newarray .boolean, 2) := by decide +kernel
theorem dX6_init_47 : decode cX6_init 47 = .ok (.putfield 26, 3) := by decide +kernel
theorem dX6_init_50 : decode cX6_init 50 = .ok (.aload_n 0, 1) := by decide +kernel
theorem dX6_init_51 : decode cX6_init 51 = .ok (.new 30, 3) := by decide +kernel
theorem dX6_init_54 : decode cX6_init 54 = .ok (.dup, 1) := by decide +kernel
theorem dX6_init_55 : decode cX6_init 55 = .ok (.invokespecial 32, 3) := by decide +kernel
theorem dX6_init_58 : decode cX6_init 58 = .ok (.putfield 33, 3) := by decide +kernel
theorem dX6_init_61 : decode cX6_init 61 = .ok (.iconst 0, 1) := by decide +kernel
theorem dX6_init_62 : decode cX6_init 62 = .ok (.istore_n 1, 1) := by decide +kernel
theorem dX6_init_63 : decode cX6_init 63 = .ok (.iload_n 1, 1) := by decide +kernel
theorem dX6_init_64 : decode cX6_init 64 = .ok (.bipush 7, 2) := by decide +kernel
theorem dX6_init_66 : decode cX6_init 66 = .ok (.if_icmp .ge 22, 3) := by decide +kernel
theorem dX6_init_69 : decode cX6_init 69 = .ok (.aload_n 0, 1) := by decide +kernel
theorem dX6_init_70 : decode cX6_init 70 = .ok (.getfield 19, 3) := by decide +kernel
theorem dX6_init_73 : decode cX6_init 73 = .ok (.iload_n 1, 1) := by decide +kernel
theorem dX6_init_74 : decode cX6_init 74 = .ok (.new 9, 3) := by decide +kernel
theorem dX6_init_77 : decode cX6_init 77 = .ok (.dup, 1) := by decide +kernel
theorem dX6_init_78 : decode cX6_init 78 = .ok (.invokespecial 11, 3) := by decide +kernel
theorem dX6_init_81 : decode cX6_init 81 = .ok (.aastore, 1) := by decide +kernel
theorem dX6_init_82 : decode cX6_init 82 = .ok (.iinc 1 1, 3) := by decide +kernel
theorem dX6_init_85 : decode cX6_init 85 = .ok (.goto (-22), 3) := by decide +kernel
theorem dX6_init_88 : decode cX6_init 88 = .ok (.iconst 0, 1) := by decide +kernel
theorem dX6_init_89 : decode cX6_init 89 = .ok (.istore_n 1, 1) := by decide +kernel
theorem dX6_init_90 : decode cX6_init 90 = .ok (.iload_n 1, 1) := by decide +kernel
theorem dX6_init_91 : decode cX6_init 91 = .ok (.iconst 2, 1) := by decide +kernel
theorem dX6_init_92 : decode cX6_init 92 = .ok (.if_icmp .ge 22, 3) := by decide +kernel
theorem dX6_init_95 : decode cX6_init 95 = .ok (.aload_n 0, 1) := by decide +kernel
theorem dX6_init_96 : decode cX6_init 96 = .ok (.getfield 23, 3) := by decide +kernel
theorem dX6_init_99 : decode cX6_init 99 = .ok (.iload_n 1, 1) := by decide +kernel
theorem dX6_init_100 : decode cX6_init 100 = .ok (.new 9, 3) := by decide +kernel
theorem dX6_init_103 : decode cX6_init 103 = .ok (.dup, 1) := by decide +kernel
theorem dX6_init_104 : decode cX6_init 104 = .ok (.invokespecial 11, 3) := by decide +kernel
theorem dX6_init_107 : decode cX6_init 107 = .ok (.aastore, 1) := by decide +kernel
theorem dX6_init_108 : decode cX6_init 108 = .ok (.iinc 1 1, 3) := by decide +kernel
theorem dX6_init_111 : decode cX6_init 111 = .ok (.goto (-21), 3) := by decide +kernel
theorem dX6_init_114 : decode cX6_init 114 = .ok (.return_, 1) := by decide +kernel
theorem dX6_set_0 : decode cX6_set 0 = .ok (.aload_n 0, 1) := by decide +kernel
theorem dX6_set_1 : decode cX6_set 1 = .ok (.invokevirtual 37, 3) := by decide +kernel
theorem dX6_set_4 : decode cX6_set 4 = .ok (.aload_n 0, 1) := by decide +kernel
theorem dX6_set_5 : decode cX6_set 5 = .ok (.aload_n 0, 1) := by decide +kernel
theorem dX6_set_6 : decode cX6_set 6 = .ok (.getfield 12, 3) := by decide +kernel
theorem dX6_set_9 : decode cX6_set 9 = .ok (.iload_n 1, 1) := by decide +kernel
theorem dX6_set_10 : decode cX6_set 10 = .ok (.iload_n 2, 1) := by decide +kernel
theorem dX6_set_11 : decode cX6_set 11 = .ok (.invokevirtual 40, 3) := by decide +kernel
theorem dX6_set_14 : decode cX6_set 14 = .ok (.invokevirtual 44, 3) := by decide +kernel
theorem dX6_set_17 : decode cX6_set 17 = .ok (.ireturn, 1) := by decide +kernel
theorem dX6_holiday_0 : decode cX6_holiday 0 = .ok (.aload_n 0, 1) := by decide +kernel
theorem dX6_holiday_1 : decode cX6_holiday 1 = .ok (.invokevirtual 37, 3) := by decide +kernel
theorem dX6_holiday_4 : decode cX6_holiday 4 = .ok (.aload_n 0, 1) := by decide +kernel
theorem dX6_holiday_5 : decode cX6_holiday 5 = .ok (.aload_n 0, 1) := by decide +kernel
theorem dX6_holiday_6 : decode cX6_holiday 6 = .ok (.getfield 12, 3) := by decide +kernel
theorem dX6_holiday_9 : decode cX6_holiday 9 = .ok (.getfield 48, 3) := by decide +kernel
theorem dX6_holiday_12 : decode cX6_holiday 12 = .ok (.iload_n 1, 1) := by decide +kernel
theorem dX6_holiday_13 : decode cX6_holiday 13 = .ok (.iload_n 2, 1) := by decide +kernel
theorem dX6_holiday_14 : decode cX6_holiday 14 = .ok (.invokevirtual 52, 3) := by decide +kernel
theorem dX6_holiday_17 : decode cX6_holiday 17 = .ok (.invokevirtual 44, 3) := by decide +kernel
theorem dX6_holiday_20 : decode cX6_holiday 20 = .ok (.ireturn, 1) := by decide +kernel
theorem dX6_account_0 : decode cX6_account 0 = .ok (.aload_n 0, 1) := by decide +kernel
theorem dX6_account_1 : decode cX6_account 1 = .ok (.invokevirtual 37, 3) := by decide +kernel
theorem dX6_account_4 : decode cX6_account 4 = .ok (.aload_n 0, 1) := by decide +kernel
theorem dX6_account_5 : decode cX6_account 5 = .ok (.aload_n 0, 1) := by decide +kernel
theorem dX6_account_6 : decode cX6_account 6 = .ok (.getfield 12, 3) := by decide +kernel
theorem dX6_account_9 : decode cX6_account 9 = .ok (.iload_n 1, 1) := by decide +kernel
theorem dX6_account_10 : decode cX6_account 10 = .ok (.iload_n 2, 1) := by decide +kernel
theorem dX6_account_11 : decode cX6_account 11 = .ok (.invokevirtual 57, 3) := by decide +kernel
theorem dX6_account_14 : decode cX6_account 14 = .ok (.invokevirtual 44, 3) := by decide +kernel
theorem dX6_account_17 : decode cX6_account 17 = .ok (.ireturn, 1) := by decide +kernel
theorem dX6_feed_0 : decode cX6_feed 0 = .ok (.aload_n 0, 1) := by decide +kernel
theorem dX6_feed_1 : decode cX6_feed 1 = .ok (.invokevirtual 37, 3) := by decide +kernel
theorem dX6_feed_4 : decode cX6_feed 4 = .ok (.aload_n 0, 1) := by decide +kernel
theorem dX6_feed_5 : decode cX6_feed 5 = .ok (.aload_n 0, 1) := by decide +kernel
theorem dX6_feed_6 : decode cX6_feed 6 = .ok (.getfield 12, 3) := by decide +kernel
theorem dX6_feed_9 : decode cX6_feed 9 = .ok (.iload_n 1, 1) := by decide +kernel
theorem dX6_feed_10 : decode cX6_feed 10 = .ok (.iload_n 2, 1) := by decide +kernel
theorem dX6_feed_11 : decode cX6_feed 11 = .ok (.invokevirtual 60, 3) := by decide +kernel
theorem dX6_feed_14 : decode cX6_feed 14 = .ok (.invokevirtual 44, 3) := by decide +kernel
theorem dX6_feed_17 : decode cX6_feed 17 = .ok (.ireturn, 1) := by decide +kernel
theorem dX6_deposit_0 : decode cX6_deposit 0 = .ok (.aload_n 0, 1) := by decide +kernel
theorem dX6_deposit_1 : decode cX6_deposit 1 = .ok (.invokevirtual 37, 3) := by decide +kernel
theorem dX6_deposit_4 : decode cX6_deposit 4 = .ok (.aload_n 0, 1) := by decide +kernel
theorem dX6_deposit_5 : decode cX6_deposit 5 = .ok (.aload_n 0, 1) := by decide +kernel
theorem dX6_deposit_6 : decode cX6_deposit 6 = .ok (.getfield 12, 3) := by decide +kernel
theorem dX6_deposit_9 : decode cX6_deposit 9 = .ok (.iload_n 1, 1) := by decide +kernel
theorem dX6_deposit_10 : decode cX6_deposit 10 = .ok (.iload_n 2, 1) := by decide +kernel
theorem dX6_deposit_11 : decode cX6_deposit 11 = .ok (.invokevirtual 63, 3) := by decide +kernel
theorem dX6_deposit_14 : decode cX6_deposit 14 = .ok (.invokevirtual 44, 3) := by decide +kernel
theorem dX6_deposit_17 : decode cX6_deposit 17 = .ok (.ireturn, 1) := by decide +kernel
theorem dX6_order_0 : decode cX6_order 0 = .ok (.aload_n 0, 1) := by decide +kernel
theorem dX6_order_1 : decode cX6_order 1 = .ok (.invokevirtual 37, 3) := by decide +kernel
theorem dX6_order_4 : decode cX6_order 4 = .ok (.aload_n 0, 1) := by decide +kernel
theorem dX6_order_5 : decode cX6_order 5 = .ok (.aload_n 0, 1) := by decide +kernel
theorem dX6_order_6 : decode cX6_order 6 = .ok (.getfield 12, 3) := by decide +kernel
theorem dX6_order_9 : decode cX6_order 9 = .ok (.iload_n 1, 1) := by decide +kernel
theorem dX6_order_10 : decode cX6_order 10 = .ok (.iload_n 2, 1) := by decide +kernel
theorem dX6_order_11 : decode cX6_order 11 = .ok (.iload_n 3, 1) := by decide +kernel
theorem dX6_order_12 : decode cX6_order 12 = .ok (.iload 4, 2) := by decide +kernel
theorem dX6_order_14 : decode cX6_order 14 = .ok (.iload 5, 2) := by decide +kernel
theorem dX6_order_16 : decode cX6_order 16 = .ok (.iload 6, 2) := by decide +kernel
theorem dX6_order_18 : decode cX6_order 18 = .ok (.invokevirtual 66, 3) := by decide +kernel
theorem dX6_order_21 : decode cX6_order 21 = .ok (.invokevirtual 44, 3) := by decide +kernel
theorem dX6_order_24 : decode cX6_order 24 = .ok (.ireturn, 1) := by decide +kernel
theorem dX6_change_0 : decode cX6_change 0 = .ok (.aload_n 0, 1) := by decide +kernel
theorem dX6_change_1 : decode cX6_change 1 = .ok (.invokevirtual 37, 3) := by decide +kernel
theorem dX6_change_4 : decode cX6_change 4 = .ok (.aload_n 0, 1) := by decide +kernel
theorem dX6_change_5 : decode cX6_change 5 = .ok (.aload_n 0, 1) := by decide +kernel
theorem dX6_change_6 : decode cX6_change 6 = .ok (.getfield 12, 3) := by decide +kernel
theorem dX6_change_9 : decode cX6_change 9 = .ok (.iload_n 1, 1) := by decide +kernel
theorem dX6_change_10 : decode cX6_change 10 = .ok (.iload_n 2, 1) := by decide +kernel
theorem dX6_change_11 : decode cX6_change 11 = .ok (.iload_n 3, 1) := by decide +kernel
theorem dX6_change_12 : decode cX6_change 12 = .ok (.invokevirtual 70, 3) := by decide +kernel
theorem dX6_change_15 : decode cX6_change 15 = .ok (.invokevirtual 44, 3) := by decide +kernel
theorem dX6_change_18 : decode cX6_change 18 = .ok (.ireturn, 1) := by decide +kernel
theorem dX6_stop_0 : decode cX6_stop 0 = .ok (.aload_n 0, 1) := by decide +kernel
theorem dX6_stop_1 : decode cX6_stop 1 = .ok (.invokevirtual 37, 3) := by decide +kernel
theorem dX6_stop_4 : decode cX6_stop 4 = .ok (.aload_n 0, 1) := by decide +kernel
theorem dX6_stop_5 : decode cX6_stop 5 = .ok (.aload_n 0, 1) := by decide +kernel
theorem dX6_stop_6 : decode cX6_stop 6 = .ok (.getfield 12, 3) := by decide +kernel
theorem dX6_stop_9 : decode cX6_stop 9 = .ok (.iload_n 1, 1) := by decide +kernel
theorem dX6_stop_10 : decode cX6_stop 10 = .ok (.invokevirtual 74, 3) := by decide +kernel
theorem dX6_stop_13 : decode cX6_stop 13 = .ok (.invokevirtual 44, 3) := by decide +kernel
theorem dX6_stop_16 : decode cX6_stop 16 = .ok (.ireturn, 1) := by decide +kernel
theorem dX6_goOn_0 : decode cX6_goOn 0 = .ok (.aload_n 0, 1) := by decide +kernel
theorem dX6_goOn_1 : decode cX6_goOn 1 = .ok (.invokevirtual 37, 3) := by decide +kernel
theorem dX6_goOn_4 : decode cX6_goOn 4 = .ok (.aload_n 0, 1) := by decide +kernel
theorem dX6_goOn_5 : decode cX6_goOn 5 = .ok (.aload_n 0, 1) := by decide +kernel
theorem dX6_goOn_6 : decode cX6_goOn 6 = .ok (.getfield 12, 3) := by decide +kernel
theorem dX6_goOn_9 : decode cX6_goOn 9 = .ok (.iload_n 1, 1) := by decide +kernel
theorem dX6_goOn_10 : decode cX6_goOn 10 = .ok (.invokevirtual 77, 3) := by decide +kernel
theorem dX6_goOn_13 : decode cX6_goOn 13 = .ok (.invokevirtual 44, 3) := by decide +kernel
theorem dX6_goOn_16 : decode cX6_goOn 16 = .ok (.ireturn, 1) := by decide +kernel
theorem dX6_giveUp_0 : decode cX6_giveUp 0 = .ok (.aload_n 0, 1) := by decide +kernel
theorem dX6_giveUp_1 : decode cX6_giveUp 1 = .ok (.invokevirtual 37, 3) := by decide +kernel
theorem dX6_giveUp_4 : decode cX6_giveUp 4 = .ok (.aload_n 0, 1) := by decide +kernel
theorem dX6_giveUp_5 : decode cX6_giveUp 5 = .ok (.aload_n 0, 1) := by decide +kernel
theorem dX6_giveUp_6 : decode cX6_giveUp 6 = .ok (.getfield 12, 3) := by decide +kernel
theorem dX6_giveUp_9 : decode cX6_giveUp 9 = .ok (.iload_n 1, 1) := by decide +kernel
theorem dX6_giveUp_10 : decode cX6_giveUp 10 = .ok (.invokevirtual 80, 3) := by decide +kernel
theorem dX6_giveUp_13 : decode cX6_giveUp 13 = .ok (.invokevirtual 44, 3) := by decide +kernel
theorem dX6_giveUp_16 : decode cX6_giveUp 16 = .ok (.ireturn, 1) := by decide +kernel
theorem dX6_days_0 : decode cX6_days 0 = .ok (.aload_n 0, 1) := by decide +kernel
theorem dX6_days_1 : decode cX6_days 1 = .ok (.getfield 12, 3) := by decide +kernel
theorem dX6_days_4 : decode cX6_days 4 = .ok (.iload_n 1, 1) := by decide +kernel
theorem dX6_days_5 : decode cX6_days 5 = .ok (.invokevirtual 83, 3) := by decide +kernel
theorem dX6_days_8 : decode cX6_days 8 = .ok (.istore_n 2, 1) := by decide +kernel
theorem dX6_days_9 : decode cX6_days 9 = .ok (.iload_n 2, 1) := by decide +kernel
theorem dX6_days_10 : decode cX6_days 10 = .ok (.ifCond .eq 5, 3) := by decide +kernel
theorem dX6_days_13 : decode cX6_days 13 = .ok (.iload_n 2, 1) := by decide +kernel
theorem dX6_days_14 : decode cX6_days 14 = .ok (.ireturn, 1) := by decide +kernel
theorem dX6_days_15 : decode cX6_days 15 = .ok (.aload_n 0, 1) := by decide +kernel
theorem dX6_days_16 : decode cX6_days 16 = .ok (.invokevirtual 37, 3) := by decide +kernel
theorem dX6_days_19 : decode cX6_days 19 = .ok (.aload_n 0, 1) := by decide +kernel
theorem dX6_days_20 : decode cX6_days 20 = .ok (.getfield 12, 3) := by decide +kernel
theorem dX6_days_23 : decode cX6_days 23 = .ok (.iload_n 1, 1) := by decide +kernel
theorem dX6_days_24 : decode cX6_days 24 = .ok (.iconst 0, 1) := by decide +kernel
theorem dX6_days_25 : decode cX6_days 25 = .ok (.invokevirtual 86, 3) := by decide +kernel
theorem dX6_days_28 : decode cX6_days 28 = .ok (.pop, 1) := by decide +kernel
theorem dX6_days_29 : decode cX6_days 29 = .ok (.aload_n 0, 1) := by decide +kernel
theorem dX6_days_30 : decode cX6_days 30 = .ok (.aload_n 0, 1) := by decide +kernel
theorem dX6_days_31 : decode cX6_days 31 = .ok (.getfield 12, 3) := by decide +kernel
theorem dX6_days_34 : decode cX6_days 34 = .ok (.getfield 89, 3) := by decide +kernel
theorem dX6_days_37 : decode cX6_days 37 = .ok (.invokevirtual 44, 3) := by decide +kernel
theorem dX6_days_40 : decode cX6_days 40 = .ok (.ireturn, 1) := by decide +kernel
theorem dX6_money_0 : decode cX6_money 0 = .ok (.aload_n 0, 1) := by decide +kernel
theorem dX6_money_1 : decode cX6_money 1 = .ok (.getfield 12, 3) := by decide +kernel
theorem dX6_money_4 : decode cX6_money 4 = .ok (.iload_n 1, 1) := by decide +kernel
theorem dX6_money_5 : decode cX6_money 5 = .ok (.invokevirtual 100, 3) := by decide +kernel
theorem dX6_money_8 : decode cX6_money 8 = .ok (.ifCond .ne 7, 3) := by decide +kernel
theorem dX6_money_11 : decode cX6_money 11 = .ok (.ldc2_w 104, 3) := by decide +kernel
theorem dX6_money_14 : decode cX6_money 14 = .ok (.lreturn, 1) := by decide +kernel
theorem dX6_money_15 : decode cX6_money 15 = .ok (.aload_n 0, 1) := by decide +kernel
theorem dX6_money_16 : decode cX6_money 16 = .ok (.getfield 12, 3) := by decide +kernel
theorem dX6_money_19 : decode cX6_money 19 = .ok (.getfield 106, 3) := by decide +kernel
theorem dX6_money_22 : decode cX6_money 22 = .ok (.iload_n 1, 1) := by decide +kernel
theorem dX6_money_23 : decode cX6_money 23 = .ok (.aaload, 1) := by decide +kernel
theorem dX6_money_24 : decode cX6_money 24 = .ok (.iload_n 2, 1) := by decide +kernel
theorem dX6_money_25 : decode cX6_money 25 = .ok (.invokevirtual 110, 3) := by decide +kernel
theorem dX6_money_28 : decode cX6_money 28 = .ok (.lreturn, 1) := by decide +kernel
theorem dX6_owedBits_0 : decode cX6_owedBits 0 = .ok (.aload_n 0, 1) := by decide +kernel
theorem dX6_owedBits_1 : decode cX6_owedBits 1 = .ok (.getfield 12, 3) := by decide +kernel
theorem dX6_owedBits_4 : decode cX6_owedBits 4 = .ok (.iload_n 1, 1) := by decide +kernel
theorem dX6_owedBits_5 : decode cX6_owedBits 5 = .ok (.invokevirtual 100, 3) := by decide +kernel
theorem dX6_owedBits_8 : decode cX6_owedBits 8 = .ok (.ifCond .ne 7, 3) := by decide +kernel
theorem dX6_owedBits_11 : decode cX6_owedBits 11 = .ok (.ldc2_w 104, 3) := by decide +kernel
theorem dX6_owedBits_14 : decode cX6_owedBits 14 = .ok (.lreturn, 1) := by decide +kernel
theorem dX6_owedBits_15 : decode cX6_owedBits 15 = .ok (.aload_n 0, 1) := by decide +kernel
theorem dX6_owedBits_16 : decode cX6_owedBits 16 = .ok (.getfield 12, 3) := by decide +kernel
theorem dX6_owedBits_19 : decode cX6_owedBits 19 = .ok (.getfield 106, 3) := by decide +kernel
theorem dX6_owedBits_22 : decode cX6_owedBits 22 = .ok (.iload_n 1, 1) := by decide +kernel
theorem dX6_owedBits_23 : decode cX6_owedBits 23 = .ok (.aaload, 1) := by decide +kernel
theorem dX6_owedBits_24 : decode cX6_owedBits 24 = .ok (.getfield 116, 3) := by decide +kernel
theorem dX6_owedBits_27 : decode cX6_owedBits 27 = .ok (.invokestatic 120, 3) := by decide +kernel
theorem dX6_owedBits_30 : decode cX6_owedBits 30 = .ok (.lreturn, 1) := by decide +kernel
theorem dX6_ofOrder_0 : decode cX6_ofOrder 0 = .ok (.aload_n 0, 1) := by decide +kernel
theorem dX6_ofOrder_1 : decode cX6_ofOrder 1 = .ok (.getfield 12, 3) := by decide +kernel
theorem dX6_ofOrder_4 : decode cX6_ofOrder 4 = .ok (.iload_n 1, 1) := by decide +kernel
theorem dX6_ofOrder_5 : decode cX6_ofOrder 5 = .ok (.invokevirtual 124, 3) := by decide +kernel
theorem dX6_ofOrder_8 : decode cX6_ofOrder 8 = .ok (.ifCond .ne 5, 3) := by decide +kernel
theorem dX6_ofOrder_11 : decode cX6_ofOrder 11 = .ok (.iconst (-1), 1) := by decide +kernel
theorem dX6_ofOrder_12 : decode cX6_ofOrder 12 = .ok (.ireturn, 1) := by decide +kernel
theorem dX6_ofOrder_13 : decode cX6_ofOrder 13 = .ok (.iload_n 2, 1) := by decide +kernel
theorem dX6_ofOrder_14 : decode cX6_ofOrder 14 = .ok (.bipush 15, 2) := by decide +kernel
theorem dX6_ofOrder_16 : decode cX6_ofOrder 16 = .ok (.if_icmp .ne 12, 3) := by decide +kernel
theorem dX6_ofOrder_19 : decode cX6_ofOrder 19 = .ok (.aload_n 0, 1) := by decide +kernel
theorem dX6_ofOrder_20 : decode cX6_ofOrder 20 = .ok (.getfield 12, 3) := by decide +kernel
theorem dX6_ofOrder_23 : decode cX6_ofOrder 23 = .ok (.iload_n 1, 1) := by decide +kernel
theorem dX6_ofOrder_24 : decode cX6_ofOrder 24 = .ok (.invokevirtual 127, 3) := by decide +kernel
theorem dX6_ofOrder_27 : decode cX6_ofOrder 27 = .ok (.ireturn, 1) := by decide +kernel
theorem dX6_ofOrder_28 : decode cX6_ofOrder 28 = .ok (.aload_n 0, 1) := by decide +kernel
theorem dX6_ofOrder_29 : decode cX6_ofOrder 29 = .ok (.getfield 12, 3) := by decide +kernel
theorem dX6_ofOrder_32 : decode cX6_ofOrder 32 = .ok (.getfield 130, 3) := by decide +kernel
theorem dX6_ofOrder_35 : decode cX6_ofOrder 35 = .ok (.iload_n 1, 1) := by decide +kernel
theorem dX6_ofOrder_36 : decode cX6_ofOrder 36 = .ok (.aaload, 1) := by decide +kernel
theorem dX6_ofOrder_37 : decode cX6_ofOrder 37 = .ok (.iload_n 2, 1) := by decide +kernel
theorem dX6_ofOrder_38 : decode cX6_ofOrder 38 = .ok (.invokevirtual 134, 3) := by decide +kernel
theorem dX6_ofOrder_41 : decode cX6_ofOrder 41 = .ok (.ireturn, 1) := by decide +kernel
theorem dX6_ofPayment_0 : decode cX6_ofPayment 0 = .ok (.iload_n 1, 1) := by decide +kernel
theorem dX6_ofPayment_1 : decode cX6_ofPayment 1 = .ok (.iconst 0, 1) := by decide +kernel
theorem dX6_ofPayment_2 : decode cX6_ofPayment 2 = .ok (.aload_n 0, 1) := by decide +kernel
theorem dX6_ofPayment_3 : decode cX6_ofPayment 3 = .ok (.getfield 12, 3) := by decide +kernel
theorem dX6_ofPayment_6 : decode cX6_ofPayment 6 = .ok (.getfield 138, 3) := by decide +kernel
theorem dX6_ofPayment_9 : decode cX6_ofPayment 9 = .ok (.getfield 142, 3) := by decide +kernel
theorem dX6_ofPayment_12 : decode cX6_ofPayment 12 = .ok (.iconst 1, 1) := by decide +kernel
theorem dX6_ofPayment_13 : decode cX6_ofPayment 13 = .ok (.isub, 1) := by decide +kernel
theorem dX6_ofPayment_14 : decode cX6_ofPayment 14 = .ok (.invokestatic 93, 3) := by decide +kernel
theorem dX6_ofPayment_17 : decode cX6_ofPayment 17 = .ok (.ifCond .ne 5, 3) := by decide +kernel
theorem dX6_ofPayment_20 : decode cX6_ofPayment 20 = .ok (.iconst (-1), 1) := by decide +kernel
theorem dX6_ofPayment_21 : decode cX6_ofPayment 21 = .ok (.ireturn, 1) := by decide +kernel
theorem dX6_ofPayment_22 : decode cX6_ofPayment 22 = .ok (.iload_n 2, 1) := by decide +kernel
theorem dX6_ofPayment_23 : decode cX6_ofPayment 23 = .ok (.iconst 0, 1) := by decide +kernel
theorem dX6_ofPayment_24 : decode cX6_ofPayment 24 = .ok (.iconst 4, 1) := by decide +kernel
theorem dX6_ofPayment_25 : decode cX6_ofPayment 25 = .ok (.invokestatic 93, 3) := by decide +kernel
theorem dX6_ofPayment_28 : decode cX6_ofPayment 28 = .ok (.ifCond .ne 6, 3) := by decide +kernel
theorem dX6_ofPayment_31 : decode cX6_ofPayment 31 = .ok (.bipush (-2), 2) := by decide +kernel
theorem dX6_ofPayment_33 : decode cX6_ofPayment 33 = .ok (.ireturn, 1) := by decide +kernel
theorem dX6_ofPayment_34 : decode cX6_ofPayment 34 = .ok (.aload_n 0, 1) := by decide +kernel
theorem dX6_ofPayment_35 : decode cX6_ofPayment 35 = .ok (.getfield 12, 3) := by decide +kernel
theorem dX6_ofPayment_38 : decode cX6_ofPayment 38 = .ok (.getfield 138, 3) := by decide +kernel
theorem dX6_ofPayment_41 : decode cX6_ofPayment 41 = .ok (.getfield 147, 3) := by decide +kernel
theorem dX6_ofPayment_44 : decode cX6_ofPayment 44 = .ok (.iload_n 2, 1) := by decide +kernel
theorem dX6_ofPayment_45 : decode cX6_ofPayment 45 = .ok (.aaload, 1) := by decide +kernel
theorem dX6_ofPayment_46 : decode cX6_ofPayment 46 = .ok (.iload_n 1, 1) := by decide +kernel
theorem dX6_ofPayment_47 : decode cX6_ofPayment 47 = .ok (.iaload, 1) := by decide +kernel
theorem dX6_ofPayment_48 : decode cX6_ofPayment 48 = .ok (.ireturn, 1) := by decide +kernel
theorem dX6_count_0 : decode cX6_count 0 = .ok (.iload_n 1, 1) := by decide +kernel
theorem dX6_count_1 : decode cX6_count 1 = .ok (.bipush 9, 2) := by decide +kernel
theorem dX6_count_3 : decode cX6_count 3 = .ok (.if_icmp .ne 11, 3) := by decide +kernel
theorem dX6_count_6 : decode cX6_count 6 = .ok (.aload_n 0, 1) := by decide +kernel
theorem dX6_count_7 : decode cX6_count 7 = .ok (.getfield 33, 3) := by decide +kernel
theorem dX6_count_10 : decode cX6_count 10 = .ok (.getfield 151, 3) := by decide +kernel
theorem dX6_count_13 : decode cX6_count 13 = .ok (.ireturn, 1) := by decide +kernel
theorem dX6_count_14 : decode cX6_count 14 = .ok (.iload_n 1, 1) := by decide +kernel
theorem dX6_count_15 : decode cX6_count 15 = .ok (.bipush 10, 2) := by decide +kernel
theorem dX6_count_17 : decode cX6_count 17 = .ok (.if_icmp .ne 8, 3) := by decide +kernel
theorem dX6_count_20 : decode cX6_count 20 = .ok (.aload_n 0, 1) := by decide +kernel
theorem dX6_count_21 : decode cX6_count 21 = .ok (.getfield 154, 3) := by decide +kernel
theorem dX6_count_24 : decode cX6_count 24 = .ok (.ireturn, 1) := by decide +kernel
theorem dX6_count_25 : decode cX6_count 25 = .ok (.aload_n 0, 1) := by decide +kernel
theorem dX6_count_26 : decode cX6_count 26 = .ok (.getfield 12, 3) := by decide +kernel
theorem dX6_count_29 : decode cX6_count 29 = .ok (.iload_n 1, 1) := by decide +kernel
theorem dX6_count_30 : decode cX6_count 30 = .ok (.invokevirtual 157, 3) := by decide +kernel
theorem dX6_count_33 : decode cX6_count 33 = .ok (.ireturn, 1) := by decide +kernel
theorem dX6_dateOf_0 : decode cX6_dateOf 0 = .ok (.aload_n 0, 1) := by decide +kernel
theorem dX6_dateOf_1 : decode cX6_dateOf 1 = .ok (.getfield 12, 3) := by decide +kernel
theorem dX6_dateOf_4 : decode cX6_dateOf 4 = .ok (.iload_n 1, 1) := by decide +kernel
theorem dX6_dateOf_5 : decode cX6_dateOf 5 = .ok (.invokevirtual 124, 3) := by decide +kernel
theorem dX6_dateOf_8 : decode cX6_dateOf 8 = .ok (.ifCond .ne 5, 3) := by decide +kernel
theorem dX6_dateOf_11 : decode cX6_dateOf 11 = .ok (.iconst (-1), 1) := by decide +kernel
theorem dX6_dateOf_12 : decode cX6_dateOf 12 = .ok (.ireturn, 1) := by decide +kernel
theorem dX6_dateOf_13 : decode cX6_dateOf 13 = .ok (.iload_n 2, 1) := by decide +kernel
theorem dX6_dateOf_14 : decode cX6_dateOf 14 = .ok (.iconst 0, 1) := by decide +kernel
theorem dX6_dateOf_15 : decode cX6_dateOf 15 = .ok (.bipush 99, 2) := by decide +kernel
theorem dX6_dateOf_17 : decode cX6_dateOf 17 = .ok (.invokestatic 93, 3) := by decide +kernel
theorem dX6_dateOf_20 : decode cX6_dateOf 20 = .ok (.ifCond .ne 6, 3) := by decide +kernel
theorem dX6_dateOf_23 : decode cX6_dateOf 23 = .ok (.bipush (-2), 2) := by decide +kernel
theorem dX6_dateOf_25 : decode cX6_dateOf 25 = .ok (.ireturn, 1) := by decide +kernel
theorem dX6_dateOf_26 : decode cX6_dateOf 26 = .ok (.aload_n 0, 1) := by decide +kernel
theorem dX6_dateOf_27 : decode cX6_dateOf 27 = .ok (.getfield 12, 3) := by decide +kernel
theorem dX6_dateOf_30 : decode cX6_dateOf 30 = .ok (.getfield 130, 3) := by decide +kernel
theorem dX6_dateOf_33 : decode cX6_dateOf 33 = .ok (.iload_n 1, 1) := by decide +kernel
theorem dX6_dateOf_34 : decode cX6_dateOf 34 = .ok (.aaload, 1) := by decide +kernel
theorem dX6_dateOf_35 : decode cX6_dateOf 35 = .ok (.iload_n 2, 1) := by decide +kernel
theorem dX6_dateOf_36 : decode cX6_dateOf 36 = .ok (.aload_n 0, 1) := by decide +kernel
theorem dX6_dateOf_37 : decode cX6_dateOf 37 = .ok (.getfield 12, 3) := by decide +kernel
theorem dX6_dateOf_40 : decode cX6_dateOf 40 = .ok (.getfield 48, 3) := by decide +kernel
theorem dX6_dateOf_43 : decode cX6_dateOf 43 = .ok (.invokevirtual 158, 3) := by decide +kernel
theorem dX6_dateOf_46 : decode cX6_dateOf 46 = .ok (.ireturn, 1) := by decide +kernel
theorem dX6_balanceIn_0 : decode cX6_balanceIn 0 = .ok (.aload_n 0, 1) := by decide +kernel
theorem dX6_balanceIn_1 : decode cX6_balanceIn 1 = .ok (.getfield 12, 3) := by decide +kernel
theorem dX6_balanceIn_4 : decode cX6_balanceIn 4 = .ok (.iload_n 1, 1) := by decide +kernel
theorem dX6_balanceIn_5 : decode cX6_balanceIn 5 = .ok (.invokevirtual 100, 3) := by decide +kernel
theorem dX6_balanceIn_8 : decode cX6_balanceIn 8 = .ok (.ifCond .ne 7, 3) := by decide +kernel
theorem dX6_balanceIn_11 : decode cX6_balanceIn 11 = .ok (.ldc2_w 104, 3) := by decide +kernel
theorem dX6_balanceIn_14 : decode cX6_balanceIn 14 = .ok (.lreturn, 1) := by decide +kernel
theorem dX6_balanceIn_15 : decode cX6_balanceIn 15 = .ok (.iload_n 2, 1) := by decide +kernel
theorem dX6_balanceIn_16 : decode cX6_balanceIn 16 = .ok (.iconst 1, 1) := by decide +kernel
theorem dX6_balanceIn_17 : decode cX6_balanceIn 17 = .ok (.sipush 400, 3) := by decide +kernel
theorem dX6_balanceIn_20 : decode cX6_balanceIn 20 = .ok (.invokestatic 93, 3) := by decide +kernel
theorem dX6_balanceIn_23 : decode cX6_balanceIn 23 = .ok (.ifCond .ne 7, 3) := by decide +kernel
theorem dX6_balanceIn_26 : decode cX6_balanceIn 26 = .ok (.ldc2_w 165, 3) := by decide +kernel
theorem dX6_balanceIn_29 : decode cX6_balanceIn 29 = .ok (.lreturn, 1) := by decide +kernel
theorem dX6_balanceIn_30 : decode cX6_balanceIn 30 = .ok (.aload_n 0, 1) := by decide +kernel
theorem dX6_balanceIn_31 : decode cX6_balanceIn 31 = .ok (.getfield 16, 3) := by decide +kernel
theorem dX6_balanceIn_34 : decode cX6_balanceIn 34 = .ok (.aload_n 0, 1) := by decide +kernel
theorem dX6_balanceIn_35 : decode cX6_balanceIn 35 = .ok (.getfield 12, 3) := by decide +kernel
theorem dX6_balanceIn_38 : decode cX6_balanceIn 38 = .ok (.invokevirtual 167, 3) := by decide +kernel
theorem dX6_balanceIn_41 : decode cX6_balanceIn 41 = .ok (.aload_n 0, 1) := by decide +kernel
theorem dX6_balanceIn_42 : decode cX6_balanceIn 42 = .ok (.getfield 16, 3) := by decide +kernel
theorem dX6_balanceIn_45 : decode cX6_balanceIn 45 = .ok (.iload_n 2, 1) := by decide +kernel
theorem dX6_balanceIn_46 : decode cX6_balanceIn 46 = .ok (.iconst 0, 1) := by decide +kernel
theorem dX6_balanceIn_47 : decode cX6_balanceIn 47 = .ok (.invokevirtual 86, 3) := by decide +kernel
theorem dX6_balanceIn_50 : decode cX6_balanceIn 50 = .ok (.pop, 1) := by decide +kernel
theorem dX6_balanceIn_51 : decode cX6_balanceIn 51 = .ok (.aload_n 0, 1) := by decide +kernel
theorem dX6_balanceIn_52 : decode cX6_balanceIn 52 = .ok (.getfield 16, 3) := by decide +kernel
theorem dX6_balanceIn_55 : decode cX6_balanceIn 55 = .ok (.getfield 106, 3) := by decide +kernel
theorem dX6_balanceIn_58 : decode cX6_balanceIn 58 = .ok (.iload_n 1, 1) := by decide +kernel
theorem dX6_balanceIn_59 : decode cX6_balanceIn 59 = .ok (.aaload, 1) := by decide +kernel
theorem dX6_balanceIn_60 : decode cX6_balanceIn 60 = .ok (.getfield 171, 3) := by decide +kernel
theorem dX6_balanceIn_63 : decode cX6_balanceIn 63 = .ok (.lreturn, 1) := by decide +kernel
theorem dX6_leastDeposit_0 : decode cX6_leastDeposit 0 = .ok (.aload_n 0, 1) := by decide +kernel
theorem dX6_leastDeposit_1 : decode cX6_leastDeposit 1 = .ok (.getfield 12, 3) := by decide +kernel
theorem dX6_leastDeposit_4 : decode cX6_leastDeposit 4 = .ok (.iload_n 1, 1) := by decide +kernel
theorem dX6_leastDeposit_5 : decode cX6_leastDeposit 5 = .ok (.invokevirtual 100, 3) := by decide +kernel
theorem dX6_leastDeposit_8 : decode cX6_leastDeposit 8 = .ok (.ifCond .ne 5, 3) := by decide +kernel
theorem dX6_leastDeposit_11 : decode cX6_leastDeposit 11 = .ok (.iconst (-1), 1) := by decide +kernel
theorem dX6_leastDeposit_12 : decode cX6_leastDeposit 12 = .ok (.ireturn, 1) := by decide +kernel
theorem dX6_leastDeposit_13 : decode cX6_leastDeposit 13 = .ok (.iload_n 2, 1) := by decide +kernel
theorem dX6_leastDeposit_14 : decode cX6_leastDeposit 14 = .ok (.iconst 1, 1) := by decide +kernel
theorem dX6_leastDeposit_15 : decode cX6_leastDeposit 15 = .ok (.bipush 100, 2) := by decide +kernel
theorem dX6_leastDeposit_17 : decode cX6_leastDeposit 17 = .ok (.invokestatic 93, 3) := by decide +kernel
theorem dX6_leastDeposit_20 : decode cX6_leastDeposit 20 = .ok (.ifCond .ne 6, 3) := by decide +kernel
theorem dX6_leastDeposit_23 : decode cX6_leastDeposit 23 = .ok (.bipush (-2), 2) := by decide +kernel
theorem dX6_leastDeposit_25 : decode cX6_leastDeposit 25 = .ok (.ireturn, 1) := by decide +kernel
theorem dX6_leastDeposit_26 : decode cX6_leastDeposit 26 = .ok (.iconst 0, 1) := by decide +kernel
theorem dX6_leastDeposit_27 : decode cX6_leastDeposit 27 = .ok (.istore_n 3, 1) := by decide +kernel
theorem dX6_leastDeposit_28 : decode cX6_leastDeposit 28 = .ok (.iload_n 3, 1) := by decide +kernel
theorem dX6_leastDeposit_29 : decode cX6_leastDeposit 29 = .ok (.ldc 175, 2) := by decide +kernel
theorem dX6_leastDeposit_31 : decode cX6_leastDeposit 31 = .ok (.if_icmp .gt 60, 3) := by decide +kernel
theorem dX6_leastDeposit_34 : decode cX6_leastDeposit 34 = .ok (.aload_n 0, 1) := by decide +kernel
theorem dX6_leastDeposit_35 : decode cX6_leastDeposit 35 = .ok (.getfield 16, 3) := by decide +kernel
theorem dX6_leastDeposit_38 : decode cX6_leastDeposit 38 = .ok (.aload_n 0, 1) := by decide +kernel
theorem dX6_leastDeposit_39 : decode cX6_leastDeposit 39 = .ok (.getfield 12, 3) := by decide +kernel
theorem dX6_leastDeposit_42 : decode cX6_leastDeposit 42 = .ok (.invokevirtual 167, 3) := by decide +kernel
theorem dX6_leastDeposit_45 : decode cX6_leastDeposit 45 = .ok (.aload_n 0, 1) := by decide +kernel
theorem dX6_leastDeposit_46 : decode cX6_leastDeposit 46 = .ok (.getfield 16, 3) := by decide +kernel
theorem dX6_leastDeposit_49 : decode cX6_leastDeposit 49 = .ok (.getfield 106, 3) := by decide +kernel
theorem dX6_leastDeposit_52 : decode cX6_leastDeposit 52 = .ok (.iload_n 1, 1) := by decide +kernel
theorem dX6_leastDeposit_53 : decode cX6_leastDeposit 53 = .ok (.aaload, 1) := by decide +kernel
theorem dX6_leastDeposit_54 : decode cX6_leastDeposit 54 = .ok (.dup, 1) := by decide +kernel
theorem dX6_leastDeposit_55 : decode cX6_leastDeposit 55 = .ok (.getfield 171, 3) := by decide +kernel
theorem dX6_leastDeposit_58 : decode cX6_leastDeposit 58 = .ok (.iload_n 3, 1) := by decide +kernel
theorem dX6_leastDeposit_59 : decode cX6_leastDeposit 59 = .ok (.i2l, 1) := by decide +kernel
theorem dX6_leastDeposit_60 : decode cX6_leastDeposit 60 = .ok (.ladd, 1) := by decide +kernel
theorem dX6_leastDeposit_61 : decode cX6_leastDeposit 61 = .ok (.putfield 171, 3) := by decide +kernel
theorem dX6_leastDeposit_64 : decode cX6_leastDeposit 64 = .ok (.aload_n 0, 1) := by decide +kernel
theorem dX6_leastDeposit_65 : decode cX6_leastDeposit 65 = .ok (.getfield 16, 3) := by decide +kernel
theorem dX6_leastDeposit_68 : decode cX6_leastDeposit 68 = .ok (.iload_n 2, 1) := by decide +kernel
theorem dX6_leastDeposit_69 : decode cX6_leastDeposit 69 = .ok (.iconst 1, 1) := by decide +kernel
theorem dX6_leastDeposit_70 : decode cX6_leastDeposit 70 = .ok (.iload_n 1, 1) := by decide +kernel
theorem dX6_leastDeposit_71 : decode cX6_leastDeposit 71 = .ok (.ishl, 1) := by decide +kernel
theorem dX6_leastDeposit_72 : decode cX6_leastDeposit 72 = .ok (.invokevirtual 86, 3) := by decide +kernel
theorem dX6_leastDeposit_75 : decode cX6_leastDeposit 75 = .ok (.bipush (-6), 2) := by decide +kernel
theorem dX6_leastDeposit_77 : decode cX6_leastDeposit 77 = .ok (.if_icmp .ne 5, 3) := by decide +kernel
theorem dX6_leastDeposit_80 : decode cX6_leastDeposit 80 = .ok (.iload_n 3, 1) := by decide +kernel
theorem dX6_leastDeposit_81 : decode cX6_leastDeposit 81 = .ok (.ireturn, 1) := by decide +kernel
theorem dX6_leastDeposit_82 : decode cX6_leastDeposit 82 = .ok (.iinc 3 5000, 6) := by decide +kernel
theorem dX6_leastDeposit_88 : decode cX6_leastDeposit 88 = .ok (.goto (-60), 3) := by decide +kernel
theorem dX6_leastDeposit_91 : decode cX6_leastDeposit 91 = .ok (.bipush (-6), 2) := by decide +kernel
theorem dX6_leastDeposit_93 : decode cX6_leastDeposit 93 = .ok (.ireturn, 1) := by decide +kernel
theorem dX6_ahead_0 : decode cX6_ahead 0 = .ok (.aload_n 0, 1) := by decide +kernel
theorem dX6_ahead_1 : decode cX6_ahead 1 = .ok (.getfield 12, 3) := by decide +kernel
theorem dX6_ahead_4 : decode cX6_ahead 4 = .ok (.iload_n 1, 1) := by decide +kernel
theorem dX6_ahead_5 : decode cX6_ahead 5 = .ok (.invokevirtual 124, 3) := by decide +kernel
theorem dX6_ahead_8 : decode cX6_ahead 8 = .ok (.ifCond .ne 5, 3) := by decide +kernel
theorem dX6_ahead_11 : decode cX6_ahead 11 = .ok (.iconst (-1), 1) := by decide +kernel
theorem dX6_ahead_12 : decode cX6_ahead 12 = .ok (.ireturn, 1) := by decide +kernel
theorem dX6_ahead_13 : decode cX6_ahead 13 = .ok (.iload_n 2, 1) := by decide +kernel
theorem dX6_ahead_14 : decode cX6_ahead 14 = .ok (.iconst 1, 1) := by decide +kernel
theorem dX6_ahead_15 : decode cX6_ahead 15 = .ok (.sipush 400, 3) := by decide +kernel
theorem dX6_ahead_18 : decode cX6_ahead 18 = .ok (.invokestatic 93, 3) := by decide +kernel
theorem dX6_ahead_21 : decode cX6_ahead 21 = .ok (.ifCond .eq 12, 3) := by decide +kernel
theorem dX6_ahead_24 : decode cX6_ahead 24 = .ok (.iload_n 3, 1) := by decide +kernel
theorem dX6_ahead_25 : decode cX6_ahead 25 = .ok (.iconst 0, 1) := by decide +kernel
theorem dX6_ahead_26 : decode cX6_ahead 26 = .ok (.iconst 3, 1) := by decide +kernel
theorem dX6_ahead_27 : decode cX6_ahead 27 = .ok (.invokestatic 93, 3) := by decide +kernel
theorem dX6_ahead_30 : decode cX6_ahead 30 = .ok (.ifCond .ne 6, 3) := by decide +kernel
theorem dX6_ahead_33 : decode cX6_ahead 33 = .ok (.bipush (-2), 2) := by decide +kernel
theorem dX6_ahead_35 : decode cX6_ahead 35 = .ok (.ireturn, 1) := by decide +kernel
theorem dX6_ahead_36 : decode cX6_ahead 36 = .ok (.aload_n 0, 1) := by decide +kernel
theorem dX6_ahead_37 : decode cX6_ahead 37 = .ok (.getfield 16, 3) := by decide +kernel
theorem dX6_ahead_40 : decode cX6_ahead 40 = .ok (.aload_n 0, 1) := by decide +kernel
theorem dX6_ahead_41 : decode cX6_ahead 41 = .ok (.getfield 12, 3) := by decide +kernel
theorem dX6_ahead_44 : decode cX6_ahead 44 = .ok (.invokevirtual 167, 3) := by decide +kernel
theorem dX6_ahead_47 : decode cX6_ahead 47 = .ok (.aload_n 0, 1) := by decide +kernel
theorem dX6_ahead_48 : decode cX6_ahead 48 = .ok (.getfield 16, 3) := by decide +kernel
theorem dX6_ahead_51 : decode cX6_ahead 51 = .ok (.iload_n 2, 1) := by decide +kernel
theorem dX6_ahead_52 : decode cX6_ahead 52 = .ok (.iconst 0, 1) := by decide +kernel
theorem dX6_ahead_53 : decode cX6_ahead 53 = .ok (.invokevirtual 86, 3) := by decide +kernel
theorem dX6_ahead_56 : decode cX6_ahead 56 = .ok (.pop, 1) := by decide +kernel
theorem dX6_ahead_57 : decode cX6_ahead 57 = .ok (.aload_n 0, 1) := by decide +kernel
theorem dX6_ahead_58 : decode cX6_ahead 58 = .ok (.getfield 12, 3) := by decide +kernel
theorem dX6_ahead_61 : decode cX6_ahead 61 = .ok (.getfield 130, 3) := by decide +kernel
theorem dX6_ahead_64 : decode cX6_ahead 64 = .ok (.iload_n 1, 1) := by decide +kernel
theorem dX6_ahead_65 : decode cX6_ahead 65 = .ok (.aaload, 1) := by decide +kernel
theorem dX6_ahead_66 : decode cX6_ahead 66 = .ok (.astore 4, 2) := by decide +kernel
theorem dX6_ahead_68 : decode cX6_ahead 68 = .ok (.aload_n 0, 1) := by decide +kernel
theorem dX6_ahead_69 : decode cX6_ahead 69 = .ok (.getfield 16, 3) := by decide +kernel
theorem dX6_ahead_72 : decode cX6_ahead 72 = .ok (.getfield 130, 3) := by decide +kernel
theorem dX6_ahead_75 : decode cX6_ahead 75 = .ok (.iload_n 1, 1) := by decide +kernel
theorem dX6_ahead_76 : decode cX6_ahead 76 = .ok (.aaload, 1) := by decide +kernel
theorem dX6_ahead_77 : decode cX6_ahead 77 = .ok (.astore 5, 2) := by decide +kernel
theorem dX6_ahead_79 : decode cX6_ahead 79 = .ok (.iload_n 3, 1) := by decide +kernel
theorem dX6_ahead_80 : decode cX6_ahead 80 = .ok (.tableswitch 64 0 2 #[28, 40, 52], 28) := by decide +kernel
theorem dX6_ahead_108 : decode cX6_ahead 108 = .ok (.aload 5, 2) := by decide +kernel
theorem dX6_ahead_110 : decode cX6_ahead 110 = .ok (.getfield 176, 3) := by decide +kernel
theorem dX6_ahead_113 : decode cX6_ahead 113 = .ok (.aload 4, 2) := by decide +kernel
theorem dX6_ahead_115 : decode cX6_ahead 115 = .ok (.getfield 176, 3) := by decide +kernel
theorem dX6_ahead_118 : decode cX6_ahead 118 = .ok (.isub, 1) := by decide +kernel
theorem dX6_ahead_119 : decode cX6_ahead 119 = .ok (.ireturn, 1) := by decide +kernel
theorem dX6_ahead_120 : decode cX6_ahead 120 = .ok (.aload 5, 2) := by decide +kernel
theorem dX6_ahead_122 : decode cX6_ahead 122 = .ok (.getfield 179, 3) := by decide +kernel
theorem dX6_ahead_125 : decode cX6_ahead 125 = .ok (.aload 4, 2) := by decide +kernel
theorem dX6_ahead_127 : decode cX6_ahead 127 = .ok (.getfield 179, 3) := by decide +kernel
theorem dX6_ahead_130 : decode cX6_ahead 130 = .ok (.isub, 1) := by decide +kernel
theorem dX6_ahead_131 : decode cX6_ahead 131 = .ok (.ireturn, 1) := by decide +kernel
theorem dX6_ahead_132 : decode cX6_ahead 132 = .ok (.aload 5, 2) := by decide +kernel
theorem dX6_ahead_134 : decode cX6_ahead 134 = .ok (.getfield 182, 3) := by decide +kernel
theorem dX6_ahead_137 : decode cX6_ahead 137 = .ok (.aload 4, 2) := by decide +kernel
theorem dX6_ahead_139 : decode cX6_ahead 139 = .ok (.getfield 182, 3) := by decide +kernel
theorem dX6_ahead_142 : decode cX6_ahead 142 = .ok (.isub, 1) := by decide +kernel
theorem dX6_ahead_143 : decode cX6_ahead 143 = .ok (.ireturn, 1) := by decide +kernel
theorem dX6_ahead_144 : decode cX6_ahead 144 = .ok (.aload 5, 2) := by decide +kernel
theorem dX6_ahead_146 : decode cX6_ahead 146 = .ok (.getfield 185, 3) := by decide +kernel
theorem dX6_ahead_149 : decode cX6_ahead 149 = .ok (.ireturn, 1) := by decide +kernel
theorem dX6_undo_0 : decode cX6_undo 0 = .ok (.aload_n 0, 1) := by decide +kernel
theorem dX6_undo_1 : decode cX6_undo 1 = .ok (.getfield 154, 3) := by decide +kernel
theorem dX6_undo_4 : decode cX6_undo 4 = .ok (.ifCond .ne 6, 3) := by decide +kernel
theorem dX6_undo_7 : decode cX6_undo 7 = .ok (.bipush (-5), 2) := by decide +kernel
theorem dX6_undo_9 : decode cX6_undo 9 = .ok (.ireturn, 1) := by decide +kernel
theorem dX6_undo_10 : decode cX6_undo 10 = .ok (.aload_n 0, 1) := by decide +kernel
theorem dX6_undo_11 : decode cX6_undo 11 = .ok (.dup, 1) := by decide +kernel
theorem dX6_undo_12 : decode cX6_undo 12 = .ok (.getfield 154, 3) := by decide +kernel
theorem dX6_undo_15 : decode cX6_undo 15 = .ok (.iconst 1, 1) := by decide +kernel
theorem dX6_undo_16 : decode cX6_undo 16 = .ok (.isub, 1) := by decide +kernel
theorem dX6_undo_17 : decode cX6_undo 17 = .ok (.putfield 154, 3) := by decide +kernel
theorem dX6_undo_20 : decode cX6_undo 20 = .ok (.aload_n 0, 1) := by decide +kernel
theorem dX6_undo_21 : decode cX6_undo 21 = .ok (.getfield 12, 3) := by decide +kernel
theorem dX6_undo_24 : decode cX6_undo 24 = .ok (.aload_n 0, 1) := by decide +kernel
theorem dX6_undo_25 : decode cX6_undo 25 = .ok (.getfield 19, 3) := by decide +kernel
theorem dX6_undo_28 : decode cX6_undo 28 = .ok (.aload_n 0, 1) := by decide +kernel
theorem dX6_undo_29 : decode cX6_undo 29 = .ok (.invokevirtual 212, 3) := by decide +kernel
theorem dX6_undo_32 : decode cX6_undo 32 = .ok (.aaload, 1) := by decide +kernel
theorem dX6_undo_33 : decode cX6_undo 33 = .ok (.invokevirtual 167, 3) := by decide +kernel
theorem dX6_undo_36 : decode cX6_undo 36 = .ok (.aload_n 0, 1) := by decide +kernel
theorem dX6_undo_37 : decode cX6_undo 37 = .ok (.getfield 154, 3) := by decide +kernel
theorem dX6_undo_40 : decode cX6_undo 40 = .ok (.ireturn, 1) := by decide +kernel
theorem dX6_save_0 : decode cX6_save 0 = .ok (.iload_n 1, 1) := by decide +kernel
theorem dX6_save_1 : decode cX6_save 1 = .ok (.iconst 0, 1) := by decide +kernel
theorem dX6_save_2 : decode cX6_save 2 = .ok (.iconst 1, 1) := by decide +kernel
theorem dX6_save_3 : decode cX6_save 3 = .ok (.invokestatic 93, 3) := by decide +kernel
theorem dX6_save_6 : decode cX6_save 6 = .ok (.ifCond .ne 6, 3) := by decide +kernel
theorem dX6_save_9 : decode cX6_save 9 = .ok (.bipush (-2), 2) := by decide +kernel
theorem dX6_save_11 : decode cX6_save 11 = .ok (.ireturn, 1) := by decide +kernel
theorem dX6_save_12 : decode cX6_save 12 = .ok (.aload_n 0, 1) := by decide +kernel
theorem dX6_save_13 : decode cX6_save 13 = .ok (.getfield 23, 3) := by decide +kernel
theorem dX6_save_16 : decode cX6_save 16 = .ok (.iload_n 1, 1) := by decide +kernel
theorem dX6_save_17 : decode cX6_save 17 = .ok (.aaload, 1) := by decide +kernel
theorem dX6_save_18 : decode cX6_save 18 = .ok (.aload_n 0, 1) := by decide +kernel
theorem dX6_save_19 : decode cX6_save 19 = .ok (.getfield 12, 3) := by decide +kernel
theorem dX6_save_22 : decode cX6_save 22 = .ok (.invokevirtual 167, 3) := by decide +kernel
theorem dX6_save_25 : decode cX6_save 25 = .ok (.aload_n 0, 1) := by decide +kernel
theorem dX6_save_26 : decode cX6_save 26 = .ok (.getfield 26, 3) := by decide +kernel
theorem dX6_save_29 : decode cX6_save 29 = .ok (.iload_n 1, 1) := by decide +kernel
theorem dX6_save_30 : decode cX6_save 30 = .ok (.iconst 1, 1) := by decide +kernel
theorem dX6_save_31 : decode cX6_save 31 = .ok (.bastore, 1) := by decide +kernel
theorem dX6_save_32 : decode cX6_save 32 = .ok (.aload_n 0, 1) := by decide +kernel
theorem dX6_save_33 : decode cX6_save 33 = .ok (.getfield 12, 3) := by decide +kernel
theorem dX6_save_36 : decode cX6_save 36 = .ok (.getfield 89, 3) := by decide +kernel
theorem dX6_save_39 : decode cX6_save 39 = .ok (.ireturn, 1) := by decide +kernel
theorem dX6_restore_0 : decode cX6_restore 0 = .ok (.iload_n 1, 1) := by decide +kernel
theorem dX6_restore_1 : decode cX6_restore 1 = .ok (.iconst 0, 1) := by decide +kernel
theorem dX6_restore_2 : decode cX6_restore 2 = .ok (.iconst 1, 1) := by decide +kernel
theorem dX6_restore_3 : decode cX6_restore 3 = .ok (.invokestatic 93, 3) := by decide +kernel
theorem dX6_restore_6 : decode cX6_restore 6 = .ok (.ifCond .ne 6, 3) := by decide +kernel
theorem dX6_restore_9 : decode cX6_restore 9 = .ok (.bipush (-2), 2) := by decide +kernel
theorem dX6_restore_11 : decode cX6_restore 11 = .ok (.ireturn, 1) := by decide +kernel
theorem dX6_restore_12 : decode cX6_restore 12 = .ok (.aload_n 0, 1) := by decide +kernel
theorem dX6_restore_13 : decode cX6_restore 13 = .ok (.getfield 26, 3) := by decide +kernel
theorem dX6_restore_16 : decode cX6_restore 16 = .ok (.iload_n 1, 1) := by decide +kernel
theorem dX6_restore_17 : decode cX6_restore 17 = .ok (.baload, 1) := by decide +kernel
theorem dX6_restore_18 : decode cX6_restore 18 = .ok (.ifCond .ne 6, 3) := by decide +kernel
theorem dX6_restore_21 : decode cX6_restore 21 = .ok (.bipush (-5), 2) := by decide +kernel
theorem dX6_restore_23 : decode cX6_restore 23 = .ok (.ireturn, 1) := by decide +kernel
theorem dX6_restore_24 : decode cX6_restore 24 = .ok (.aload_n 0, 1) := by decide +kernel
theorem dX6_restore_25 : decode cX6_restore 25 = .ok (.invokevirtual 37, 3) := by decide +kernel
theorem dX6_restore_28 : decode cX6_restore 28 = .ok (.aload_n 0, 1) := by decide +kernel
theorem dX6_restore_29 : decode cX6_restore 29 = .ok (.getfield 12, 3) := by decide +kernel
theorem dX6_restore_32 : decode cX6_restore 32 = .ok (.aload_n 0, 1) := by decide +kernel
theorem dX6_restore_33 : decode cX6_restore 33 = .ok (.getfield 23, 3) := by decide +kernel
theorem dX6_restore_36 : decode cX6_restore 36 = .ok (.iload_n 1, 1) := by decide +kernel
theorem dX6_restore_37 : decode cX6_restore 37 = .ok (.aaload, 1) := by decide +kernel
theorem dX6_restore_38 : decode cX6_restore 38 = .ok (.invokevirtual 167, 3) := by decide +kernel
theorem dX6_restore_41 : decode cX6_restore 41 = .ok (.aload_n 0, 1) := by decide +kernel
theorem dX6_restore_42 : decode cX6_restore 42 = .ok (.aload_n 0, 1) := by decide +kernel
theorem dX6_restore_43 : decode cX6_restore 43 = .ok (.getfield 12, 3) := by decide +kernel
theorem dX6_restore_46 : decode cX6_restore 46 = .ok (.getfield 89, 3) := by decide +kernel
theorem dX6_restore_49 : decode cX6_restore 49 = .ok (.invokevirtual 44, 3) := by decide +kernel
theorem dX6_restore_52 : decode cX6_restore 52 = .ok (.ireturn, 1) := by decide +kernel
theorem dX6_remember_0 : decode cX6_remember 0 = .ok (.aload_n 0, 1) := by decide +kernel
theorem dX6_remember_1 : decode cX6_remember 1 = .ok (.getfield 19, 3) := by decide +kernel
theorem dX6_remember_4 : decode cX6_remember 4 = .ok (.aload_n 0, 1) := by decide +kernel
theorem dX6_remember_5 : decode cX6_remember 5 = .ok (.invokevirtual 212, 3) := by decide +kernel
theorem dX6_remember_8 : decode cX6_remember 8 = .ok (.aaload, 1) := by decide +kernel
theorem dX6_remember_9 : decode cX6_remember 9 = .ok (.aload_n 0, 1) := by decide +kernel
theorem dX6_remember_10 : decode cX6_remember 10 = .ok (.getfield 12, 3) := by decide +kernel
theorem dX6_remember_13 : decode cX6_remember 13 = .ok (.invokevirtual 167, 3) := by decide +kernel
theorem dX6_remember_16 : decode cX6_remember 16 = .ok (.return_, 1) := by decide +kernel
theorem dX6_recorded_0 : decode cX6_recorded 0 = .ok (.iload_n 1, 1) := by decide +kernel
theorem dX6_recorded_1 : decode cX6_recorded 1 = .ok (.invokestatic 209, 3) := by decide +kernel
theorem dX6_recorded_4 : decode cX6_recorded 4 = .ok (.ifCond .eq 5, 3) := by decide +kernel
theorem dX6_recorded_7 : decode cX6_recorded 7 = .ok (.iload_n 1, 1) := by decide +kernel
theorem dX6_recorded_8 : decode cX6_recorded 8 = .ok (.ireturn, 1) := by decide +kernel
theorem dX6_recorded_9 : decode cX6_recorded 9 = .ok (.aload_n 0, 1) := by decide +kernel
theorem dX6_recorded_10 : decode cX6_recorded 10 = .ok (.getfield 154, 3) := by decide +kernel
theorem dX6_recorded_13 : decode cX6_recorded 13 = .ok (.bipush 6, 2) := by decide +kernel
theorem dX6_recorded_15 : decode cX6_recorded 15 = .ok (.if_icmp .ge 16, 3) := by decide +kernel
theorem dX6_recorded_18 : decode cX6_recorded 18 = .ok (.aload_n 0, 1) := by decide +kernel
theorem dX6_recorded_19 : decode cX6_recorded 19 = .ok (.dup, 1) := by decide +kernel
theorem dX6_recorded_20 : decode cX6_recorded 20 = .ok (.getfield 154, 3) := by decide +kernel
theorem dX6_recorded_23 : decode cX6_recorded 23 = .ok (.iconst 1, 1) := by decide +kernel
theorem dX6_recorded_24 : decode cX6_recorded 24 = .ok (.iadd, 1) := by decide +kernel
theorem dX6_recorded_25 : decode cX6_recorded 25 = .ok (.putfield 154, 3) := by decide +kernel
theorem dX6_recorded_28 : decode cX6_recorded 28 = .ok (.goto 16, 3) := by decide +kernel
theorem dX6_recorded_31 : decode cX6_recorded 31 = .ok (.aload_n 0, 1) := by decide +kernel
theorem dX6_recorded_32 : decode cX6_recorded 32 = .ok (.aload_n 0, 1) := by decide +kernel
theorem dX6_recorded_33 : decode cX6_recorded 33 = .ok (.getfield 216, 3) := by decide +kernel
theorem dX6_recorded_36 : decode cX6_recorded 36 = .ok (.iconst 1, 1) := by decide +kernel
theorem dX6_recorded_37 : decode cX6_recorded 37 = .ok (.iadd, 1) := by decide +kernel
theorem dX6_recorded_38 : decode cX6_recorded 38 = .ok (.bipush 7, 2) := by decide +kernel
theorem dX6_recorded_40 : decode cX6_recorded 40 = .ok (.irem, 1) := by decide +kernel
theorem dX6_recorded_41 : decode cX6_recorded 41 = .ok (.putfield 216, 3) := by decide +kernel
theorem dX6_recorded_44 : decode cX6_recorded 44 = .ok (.iload_n 1, 1) := by decide +kernel
theorem dX6_recorded_45 : decode cX6_recorded 45 = .ok (.ireturn, 1) := by decide +kernel
theorem dX6_rowBehindLatest_0 : decode cX6_rowBehindLatest 0 = .ok (.aload_n 0, 1) := by decide +kernel
theorem dX6_rowBehindLatest_1 : decode cX6_rowBehindLatest 1 = .ok (.getfield 216, 3) := by decide +kernel
theorem dX6_rowBehindLatest_4 : decode cX6_rowBehindLatest 4 = .ok (.aload_n 0, 1) := by decide +kernel
theorem dX6_rowBehindLatest_5 : decode cX6_rowBehindLatest 5 = .ok (.getfield 154, 3) := by decide +kernel
theorem dX6_rowBehindLatest_8 : decode cX6_rowBehindLatest 8 = .ok (.iadd, 1) := by decide +kernel
theorem dX6_rowBehindLatest_9 : decode cX6_rowBehindLatest 9 = .ok (.bipush 7, 2) := by decide +kernel
theorem dX6_rowBehindLatest_11 : decode cX6_rowBehindLatest 11 = .ok (.irem, 1) := by decide +kernel
theorem dX6_rowBehindLatest_12 : decode cX6_rowBehindLatest 12 = .ok (.ireturn, 1) := by decide +kernel
theorem dX6_isBetween_0 : decode cX6_isBetween 0 = .ok (.iload_n 0, 1) := by decide +kernel
theorem dX6_isBetween_1 : decode cX6_isBetween 1 = .ok (.iload_n 1, 1) := by decide +kernel
theorem dX6_isBetween_2 : decode cX6_isBetween 2 = .ok (.if_icmp .lt 12, 3) := by decide +kernel
theorem dX6_isBetween_5 : decode cX6_isBetween 5 = .ok (.iload_n 0, 1) := by decide +kernel
theorem dX6_isBetween_6 : decode cX6_isBetween 6 = .ok (.iload_n 2, 1) := by decide +kernel
theorem dX6_isBetween_7 : decode cX6_isBetween 7 = .ok (.if_icmp .gt 7, 3) := by decide +kernel
theorem dX6_isBetween_10 : decode cX6_isBetween 10 = .ok (.iconst 1, 1) := by decide +kernel
theorem dX6_isBetween_11 : decode cX6_isBetween 11 = .ok (.goto 4, 3) := by decide +kernel
theorem dX6_isBetween_14 : decode cX6_isBetween 14 = .ok (.iconst 0, 1) := by decide +kernel
theorem dX6_isBetween_15 : decode cX6_isBetween 15 = .ok (.ireturn, 1) := by decide +kernel
theorem dX6_isError_0 : decode cX6_isError 0 = .ok (.iload_n 0, 1) := by decide +kernel
theorem dX6_isError_1 : decode cX6_isError 1 = .ok (.bipush (-5), 2) := by decide +kernel
theorem dX6_isError_3 : decode cX6_isError 3 = .ok (.iconst (-1), 1) := by decide +kernel
theorem dX6_isError_4 : decode cX6_isError 4 = .ok (.invokestatic 93, 3) := by decide +kernel
theorem dX6_isError_7 : decode cX6_isError 7 = .ok (.ireturn, 1) := by decide +kernel
theorem dX6_bitsOf_0 : decode cX6_bitsOf 0 = .ok (.dload_n 0, 1) := by decide +kernel
theorem dX6_bitsOf_1 : decode cX6_bitsOf 1 = .ok (.dconst 0, 1) := by decide +kernel
theorem dX6_bitsOf_2 : decode cX6_bitsOf 2 = .ok (.dcmp .l, 1) := by decide +kernel
theorem dX6_bitsOf_3 : decode cX6_bitsOf 3 = .ok (.ifCond .gt 5, 3) := by decide +kernel
theorem dX6_bitsOf_6 : decode cX6_bitsOf 6 = .ok (.lconst 0, 1) := by decide +kernel
theorem dX6_bitsOf_7 : decode cX6_bitsOf 7 = .ok (.lreturn, 1) := by decide +kernel
theorem dX6_bitsOf_8 : decode cX6_bitsOf 8 = .ok (.dload_n 0, 1) := by decide +kernel
theorem dX6_bitsOf_9 : decode cX6_bitsOf 9 = .ok (.dstore_n 2, 1) := by decide +kernel
theorem dX6_bitsOf_10 : decode cX6_bitsOf 10 = .ok (.ldc2_w 244, 3) := by decide +kernel
theorem dX6_bitsOf_13 : decode cX6_bitsOf 13 = .ok (.lstore 4, 2) := by decide +kernel
theorem dX6_bitsOf_15 : decode cX6_bitsOf 15 = .ok (.iconst 0, 1) := by decide +kernel
theorem dX6_bitsOf_16 : decode cX6_bitsOf 16 = .ok (.istore 6, 2) := by decide +kernel
theorem dX6_bitsOf_18 : decode cX6_bitsOf 18 = .ok (.iload 6, 2) := by decide +kernel
theorem dX6_bitsOf_20 : decode cX6_bitsOf 20 = .ok (.sipush 1023, 3) := by decide +kernel
theorem dX6_bitsOf_23 : decode cX6_bitsOf 23 = .ok (.if_icmp .ge 29, 3) := by decide +kernel
theorem dX6_bitsOf_26 : decode cX6_bitsOf 26 = .ok (.dload_n 2, 1) := by decide +kernel
theorem dX6_bitsOf_27 : decode cX6_bitsOf 27 = .ok (.ldc2_w 246, 3) := by decide +kernel
theorem dX6_bitsOf_30 : decode cX6_bitsOf 30 = .ok (.dcmp .l, 1) := by decide +kernel
theorem dX6_bitsOf_31 : decode cX6_bitsOf 31 = .ok (.ifCond .lt 21, 3) := by decide +kernel
theorem dX6_bitsOf_34 : decode cX6_bitsOf 34 = .ok (.dload_n 2, 1) := by decide +kernel
theorem dX6_bitsOf_35 : decode cX6_bitsOf 35 = .ok (.ldc2_w 246, 3) := by decide +kernel
theorem dX6_bitsOf_38 : decode cX6_bitsOf 38 = .ok (.ddiv, 1) := by decide +kernel
theorem dX6_bitsOf_39 : decode cX6_bitsOf 39 = .ok (.dstore_n 2, 1) := by decide +kernel
theorem dX6_bitsOf_40 : decode cX6_bitsOf 40 = .ok (.lload 4, 2) := by decide +kernel
theorem dX6_bitsOf_42 : decode cX6_bitsOf 42 = .ok (.lconst 1, 1) := by decide +kernel
theorem dX6_bitsOf_43 : decode cX6_bitsOf 43 = .ok (.ladd, 1) := by decide +kernel
theorem dX6_bitsOf_44 : decode cX6_bitsOf 44 = .ok (.lstore 4, 2) := by decide +kernel
theorem dX6_bitsOf_46 : decode cX6_bitsOf 46 = .ok (.iinc 6 1, 3) := by decide +kernel
theorem dX6_bitsOf_49 : decode cX6_bitsOf 49 = .ok (.goto (-31), 3) := by decide +kernel
theorem dX6_bitsOf_52 : decode cX6_bitsOf 52 = .ok (.iconst 0, 1) := by decide +kernel
theorem dX6_bitsOf_53 : decode cX6_bitsOf 53 = .ok (.istore 6, 2) := by decide +kernel
theorem dX6_bitsOf_55 : decode cX6_bitsOf 55 = .ok (.iload 6, 2) := by decide +kernel
theorem dX6_bitsOf_57 : decode cX6_bitsOf 57 = .ok (.sipush 1022, 3) := by decide +kernel
theorem dX6_bitsOf_60 : decode cX6_bitsOf 60 = .ok (.if_icmp .ge 27, 3) := by decide +kernel
theorem dX6_bitsOf_63 : decode cX6_bitsOf 63 = .ok (.dload_n 2, 1) := by decide +kernel
theorem dX6_bitsOf_64 : decode cX6_bitsOf 64 = .ok (.dconst 1, 1) := by decide +kernel
theorem dX6_bitsOf_65 : decode cX6_bitsOf 65 = .ok (.dcmp .g, 1) := by decide +kernel
theorem dX6_bitsOf_66 : decode cX6_bitsOf 66 = .ok (.ifCond .ge 21, 3) := by decide +kernel
theorem dX6_bitsOf_69 : decode cX6_bitsOf 69 = .ok (.dload_n 2, 1) := by decide +kernel
theorem dX6_bitsOf_70 : decode cX6_bitsOf 70 = .ok (.ldc2_w 246, 3) := by decide +kernel
theorem dX6_bitsOf_73 : decode cX6_bitsOf 73 = .ok (.dmul, 1) := by decide +kernel
theorem dX6_bitsOf_74 : decode cX6_bitsOf 74 = .ok (.dstore_n 2, 1) := by decide +kernel
theorem dX6_bitsOf_75 : decode cX6_bitsOf 75 = .ok (.lload 4, 2) := by decide +kernel
theorem dX6_bitsOf_77 : decode cX6_bitsOf 77 = .ok (.lconst 1, 1) := by decide +kernel
theorem dX6_bitsOf_78 : decode cX6_bitsOf 78 = .ok (.lsub, 1) := by decide +kernel
theorem dX6_bitsOf_79 : decode cX6_bitsOf 79 = .ok (.lstore 4, 2) := by decide +kernel
theorem dX6_bitsOf_81 : decode cX6_bitsOf 81 = .ok (.iinc 6 1, 3) := by decide +kernel
theorem dX6_bitsOf_84 : decode cX6_bitsOf 84 = .ok (.goto (-29), 3) := by decide +kernel
theorem dX6_bitsOf_87 : decode cX6_bitsOf 87 = .ok (.lload 4, 2) := by decide +kernel
theorem dX6_bitsOf_89 : decode cX6_bitsOf 89 = .ok (.bipush 52, 2) := by decide +kernel
theorem dX6_bitsOf_91 : decode cX6_bitsOf 91 = .ok (.lshl, 1) := by decide +kernel
theorem dX6_bitsOf_92 : decode cX6_bitsOf 92 = .ok (.dload_n 2, 1) := by decide +kernel
theorem dX6_bitsOf_93 : decode cX6_bitsOf 93 = .ok (.dconst 1, 1) := by decide +kernel
theorem dX6_bitsOf_94 : decode cX6_bitsOf 94 = .ok (.dsub, 1) := by decide +kernel
theorem dX6_bitsOf_95 : decode cX6_bitsOf 95 = .ok (.ldc2_w 248, 3) := by decide +kernel
theorem dX6_bitsOf_98 : decode cX6_bitsOf 98 = .ok (.dmul, 1) := by decide +kernel
theorem dX6_bitsOf_99 : decode cX6_bitsOf 99 = .ok (.d2l, 1) := by decide +kernel
theorem dX6_bitsOf_100 : decode cX6_bitsOf 100 = .ok (.ladd, 1) := by decide +kernel
theorem dX6_bitsOf_101 : decode cX6_bitsOf 101 = .ok (.lreturn, 1) := by decide +kernel
theorem dJ9_min_7cf53_0 : decode cJ9_min_7cf53 0 = .ok (.iload_n 0, 1) := by decide +kernel
theorem dJ9_min_7cf53_1 : decode cJ9_min_7cf53 1 = .ok (.iload_n 1, 1) := by decide +kernel
theorem dJ9_min_7cf53_2 : decode cJ9_min_7cf53 2 = .ok (.if_icmp .gt 7, 3) := by decide +kernel
theorem dJ9_min_7cf53_5 : decode cJ9_min_7cf53 5 = .ok (.iload_n 0, 1) := by decide +kernel
theorem dJ9_min_7cf53_6 : decode cJ9_min_7cf53 6 = .ok (.goto 4, 3) := by decide +kernel
theorem dJ9_min_7cf53_9 : decode cJ9_min_7cf53 9 = .ok (.iload_n 1, 1) := by decide +kernel
theorem dJ9_min_7cf53_10 : decode cJ9_min_7cf53 10 = .ok (.ireturn, 1) := by decide +kernel
theorem dJ9_min_f86c9_0 : decode cJ9_min_f86c9 0 = .ok (.lload_n 0, 1) := by decide +kernel
theorem dJ9_min_f86c9_1 : decode cJ9_min_f86c9 1 = .ok (.lload_n 2, 1) := by decide +kernel
theorem dJ9_min_f86c9_2 : decode cJ9_min_f86c9 2 = .ok (.lcmp, 1) := by decide +kernel
theorem dJ9_min_f86c9_3 : decode cJ9_min_f86c9 3 = .ok (.ifCond .gt 7, 3) := by decide +kernel
theorem dJ9_min_f86c9_6 : decode cJ9_min_f86c9 6 = .ok (.lload_n 0, 1) := by decide +kernel
theorem dJ9_min_f86c9_7 : decode cJ9_min_f86c9 7 = .ok (.goto 4, 3) := by decide +kernel
theorem dJ9_min_f86c9_10 : decode cJ9_min_f86c9 10 = .ok (.lload_n 2, 1) := by decide +kernel
theorem dJ9_min_f86c9_11 : decode cJ9_min_f86c9 11 = .ok (.lreturn, 1) := by decide +kernel
theorem dJ7_copyOf_59c91_0 : decode cJ7_copyOf_59c91 0 = .ok (.iload_n 1, 1) := by decide +kernel
theorem dJ7_copyOf_59c91_1 : decode cJ7_copyOf_59c91 1 = .ok (.aload_n 0, 1) := by decide +kernel
theorem dJ7_copyOf_59c91_2 : decode cJ7_copyOf_59c91 2 = .ok (.arraylength, 1) := by decide +kernel
theorem dJ7_copyOf_59c91_3 : decode cJ7_copyOf_59c91 3 = .ok (.if_icmp .ne 11, 3) := by decide +kernel
theorem dJ7_copyOf_59c91_6 : decode cJ7_copyOf_59c91 6 = .ok (.aload_n 0, 1) := by decide +kernel
theorem dJ7_copyOf_59c91_7 : decode cJ7_copyOf_59c91 7 = .ok (.invokevirtual 316, 3) := by decide +kernel
theorem dJ7_copyOf_59c91_10 : decode cJ7_copyOf_59c91 10 = .ok (.checkcast 317, 3) := by decide +kernel
theorem dJ7_copyOf_59c91_13 : decode cJ7_copyOf_59c91 13 = .ok (.areturn, 1) := by decide +kernel
theorem dJ7_copyOf_59c91_14 : decode cJ7_copyOf_59c91 14 = .ok (.iload_n 1, 1) := by decide +kernel
theorem dJ7_copyOf_59c91_15 : decode cJ7_copyOf_59c91 15 = .ok (.newarray .int, 2) := by decide +kernel
theorem dJ7_copyOf_59c91_17 : decode cJ7_copyOf_59c91 17 = .ok (.astore_n 2, 1) := by decide +kernel
theorem dJ7_copyOf_59c91_18 : decode cJ7_copyOf_59c91 18 = .ok (.aload_n 0, 1) := by decide +kernel
theorem dJ7_copyOf_59c91_19 : decode cJ7_copyOf_59c91 19 = .ok (.iconst 0, 1) := by decide +kernel
theorem dJ7_copyOf_59c91_20 : decode cJ7_copyOf_59c91 20 = .ok (.aload_n 2, 1) := by decide +kernel
theorem dJ7_copyOf_59c91_21 : decode cJ7_copyOf_59c91 21 = .ok (.iconst 0, 1) := by decide +kernel
theorem dJ7_copyOf_59c91_22 : decode cJ7_copyOf_59c91 22 = .ok (.aload_n 0, 1) := by decide +kernel
theorem dJ7_copyOf_59c91_23 : decode cJ7_copyOf_59c91 23 = .ok (.arraylength, 1) := by decide +kernel
theorem dJ7_copyOf_59c91_24 : decode cJ7_copyOf_59c91 24 = .ok (.iload_n 1, 1) := by decide +kernel
theorem dJ7_copyOf_59c91_25 : decode cJ7_copyOf_59c91 25 = .ok (.invokestatic 304, 3) := by decide +kernel
theorem dJ7_copyOf_59c91_28 : decode cJ7_copyOf_59c91 28 = .ok (.invokestatic 150, 3) := by decide +kernel
theorem dJ7_copyOf_59c91_31 : decode cJ7_copyOf_59c91 31 = .ok (.aload_n 2, 1) := by decide +kernel
theorem dJ7_copyOf_59c91_32 : decode cJ7_copyOf_59c91 32 = .ok (.areturn, 1) := by decide +kernel
