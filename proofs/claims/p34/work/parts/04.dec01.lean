theorem dX3_tell_44 : decode cX3_tell 44 = .ok (.iload_n 1, 1) := by decide +kernel
theorem dX3_tell_45 : decode cX3_tell 45 = .ok (.istore 4, 2) := by decide +kernel
theorem dX3_tell_47 : decode cX3_tell 47 = .ok (.aload_n 0, 1) := by decide +kernel
theorem dX3_tell_48 : decode cX3_tell 48 = .ok (.getfield 18, 3) := by decide +kernel
theorem dX3_tell_51 : decode cX3_tell 51 = .ok (.aload_n 0, 1) := by decide +kernel
theorem dX3_tell_52 : decode cX3_tell 52 = .ok (.getfield 54, 3) := by decide +kernel
theorem dX3_tell_55 : decode cX3_tell 55 = .ok (.iload_n 1, 1) := by decide +kernel
theorem dX3_tell_56 : decode cX3_tell 56 = .ok (.iastore, 1) := by decide +kernel
theorem dX3_tell_57 : decode cX3_tell 57 = .ok (.aload_n 0, 1) := by decide +kernel
theorem dX3_tell_58 : decode cX3_tell 58 = .ok (.getfield 22, 3) := by decide +kernel
theorem dX3_tell_61 : decode cX3_tell 61 = .ok (.aload_n 0, 1) := by decide +kernel
theorem dX3_tell_62 : decode cX3_tell 62 = .ok (.getfield 54, 3) := by decide +kernel
theorem dX3_tell_65 : decode cX3_tell 65 = .ok (.iload 4, 2) := by decide +kernel
theorem dX3_tell_67 : decode cX3_tell 67 = .ok (.iastore, 1) := by decide +kernel
theorem dX3_tell_68 : decode cX3_tell 68 = .ok (.aload_n 0, 1) := by decide +kernel
theorem dX3_tell_69 : decode cX3_tell 69 = .ok (.dup, 1) := by decide +kernel
theorem dX3_tell_70 : decode cX3_tell 70 = .ok (.getfield 54, 3) := by decide +kernel
theorem dX3_tell_73 : decode cX3_tell 73 = .ok (.iconst 1, 1) := by decide +kernel
theorem dX3_tell_74 : decode cX3_tell 74 = .ok (.iadd, 1) := by decide +kernel
theorem dX3_tell_75 : decode cX3_tell 75 = .ok (.putfield 54, 3) := by decide +kernel
theorem dX3_tell_78 : decode cX3_tell 78 = .ok (.aload_n 0, 1) := by decide +kernel
theorem dX3_tell_79 : decode cX3_tell 79 = .ok (.getfield 25, 3) := by decide +kernel
theorem dX3_tell_82 : decode cX3_tell 82 = .ok (.iload_n 1, 1) := by decide +kernel
theorem dX3_tell_83 : decode cX3_tell 83 = .ok (.aload_n 0, 1) := by decide +kernel
theorem dX3_tell_84 : decode cX3_tell 84 = .ok (.getfield 54, 3) := by decide +kernel
theorem dX3_tell_87 : decode cX3_tell 87 = .ok (.iastore, 1) := by decide +kernel
theorem dX3_tell_88 : decode cX3_tell 88 = .ok (.aload_n 0, 1) := by decide +kernel
theorem dX3_tell_89 : decode cX3_tell 89 = .ok (.getfield 28, 3) := by decide +kernel
theorem dX3_tell_92 : decode cX3_tell 92 = .ok (.iload 4, 2) := by decide +kernel
theorem dX3_tell_94 : decode cX3_tell 94 = .ok (.dup2, 1) := by decide +kernel
theorem dX3_tell_95 : decode cX3_tell 95 = .ok (.iaload, 1) := by decide +kernel
theorem dX3_tell_96 : decode cX3_tell 96 = .ok (.iconst 1, 1) := by decide +kernel
theorem dX3_tell_97 : decode cX3_tell 97 = .ok (.iadd, 1) := by decide +kernel
theorem dX3_tell_98 : decode cX3_tell 98 = .ok (.iastore, 1) := by decide +kernel
theorem dX3_tell_99 : decode cX3_tell 99 = .ok (.aload_n 0, 1) := by decide +kernel
theorem dX3_tell_100 : decode cX3_tell 100 = .ok (.dup, 1) := by decide +kernel
theorem dX3_tell_101 : decode cX3_tell 101 = .ok (.getfield 57, 3) := by decide +kernel
theorem dX3_tell_104 : decode cX3_tell 104 = .ok (.iload_n 3, 1) := by decide +kernel
theorem dX3_tell_105 : decode cX3_tell 105 = .ok (.ifCond .eq 7, 3) := by decide +kernel
theorem dX3_tell_108 : decode cX3_tell 108 = .ok (.iconst 1, 1) := by decide +kernel
theorem dX3_tell_109 : decode cX3_tell 109 = .ok (.goto 4, 3) := by decide +kernel
theorem dX3_tell_112 : decode cX3_tell 112 = .ok (.iconst 0, 1) := by decide +kernel
theorem dX3_tell_113 : decode cX3_tell 113 = .ok (.iadd, 1) := by decide +kernel
theorem dX3_tell_114 : decode cX3_tell 114 = .ok (.putfield 57, 3) := by decide +kernel
theorem dX3_tell_117 : decode cX3_tell 117 = .ok (.return_, 1) := by decide +kernel
theorem dX4_init_0 : decode cX4_init 0 = .ok (.aload_n 0, 1) := by decide +kernel
theorem dX4_init_1 : decode cX4_init 1 = .ok (.invokespecial 3, 3) := by decide +kernel
theorem dX4_init_4 : decode cX4_init 4 = .ok (.aload_n 0, 1) := by decide +kernel
theorem dX4_init_5 : decode cX4_init 5 = .ok (.bipush 6, 2) := by decide +kernel
theorem dX4_init_7 : decode cX4_init 7 = .ok (.newarray .int, 2) := by decide +kernel
theorem dX4_init_9 : decode cX4_init 9 = .ok (.putfield 9, 3) := by decide +kernel
theorem dX4_init_12 : decode cX4_init 12 = .ok (.aload_n 0, 1) := by decide +kernel
theorem dX4_init_13 : decode cX4_init 13 = .ok (.bipush 6, 2) := by decide +kernel
theorem dX4_init_15 : decode cX4_init 15 = .ok (.newarray .int, 2) := by decide +kernel
theorem dX4_init_17 : decode cX4_init 17 = .ok (.putfield 15, 3) := by decide +kernel
theorem dX4_init_20 : decode cX4_init 20 = .ok (.return_, 1) := by decide +kernel
theorem dX4_copyFrom_0 : decode cX4_copyFrom 0 = .ok (.aload_n 1, 1) := by decide +kernel
theorem dX4_copyFrom_1 : decode cX4_copyFrom 1 = .ok (.getfield 9, 3) := by decide +kernel
theorem dX4_copyFrom_4 : decode cX4_copyFrom 4 = .ok (.iconst 0, 1) := by decide +kernel
theorem dX4_copyFrom_5 : decode cX4_copyFrom 5 = .ok (.aload_n 0, 1) := by decide +kernel
theorem dX4_copyFrom_6 : decode cX4_copyFrom 6 = .ok (.getfield 9, 3) := by decide +kernel
theorem dX4_copyFrom_9 : decode cX4_copyFrom 9 = .ok (.iconst 0, 1) := by decide +kernel
theorem dX4_copyFrom_10 : decode cX4_copyFrom 10 = .ok (.bipush 6, 2) := by decide +kernel
theorem dX4_copyFrom_12 : decode cX4_copyFrom 12 = .ok (.invokestatic 18, 3) := by decide +kernel
theorem dX4_copyFrom_15 : decode cX4_copyFrom 15 = .ok (.aload_n 1, 1) := by decide +kernel
theorem dX4_copyFrom_16 : decode cX4_copyFrom 16 = .ok (.getfield 15, 3) := by decide +kernel
theorem dX4_copyFrom_19 : decode cX4_copyFrom 19 = .ok (.iconst 0, 1) := by decide +kernel
theorem dX4_copyFrom_20 : decode cX4_copyFrom 20 = .ok (.aload_n 0, 1) := by decide +kernel
theorem dX4_copyFrom_21 : decode cX4_copyFrom 21 = .ok (.getfield 15, 3) := by decide +kernel
theorem dX4_copyFrom_24 : decode cX4_copyFrom 24 = .ok (.iconst 0, 1) := by decide +kernel
theorem dX4_copyFrom_25 : decode cX4_copyFrom 25 = .ok (.bipush 6, 2) := by decide +kernel
theorem dX4_copyFrom_27 : decode cX4_copyFrom 27 = .ok (.invokestatic 18, 3) := by decide +kernel
theorem dX4_copyFrom_30 : decode cX4_copyFrom 30 = .ok (.aload_n 0, 1) := by decide +kernel
theorem dX4_copyFrom_31 : decode cX4_copyFrom 31 = .ok (.aload_n 1, 1) := by decide +kernel
theorem dX4_copyFrom_32 : decode cX4_copyFrom 32 = .ok (.getfield 24, 3) := by decide +kernel
theorem dX4_copyFrom_35 : decode cX4_copyFrom 35 = .ok (.putfield 24, 3) := by decide +kernel
theorem dX4_copyFrom_38 : decode cX4_copyFrom 38 = .ok (.aload_n 0, 1) := by decide +kernel
theorem dX4_copyFrom_39 : decode cX4_copyFrom 39 = .ok (.aload_n 1, 1) := by decide +kernel
theorem dX4_copyFrom_40 : decode cX4_copyFrom 40 = .ok (.getfield 28, 3) := by decide +kernel
theorem dX4_copyFrom_43 : decode cX4_copyFrom 43 = .ok (.putfield 28, 3) := by decide +kernel
theorem dX4_copyFrom_46 : decode cX4_copyFrom 46 = .ok (.aload_n 0, 1) := by decide +kernel
theorem dX4_copyFrom_47 : decode cX4_copyFrom 47 = .ok (.aload_n 1, 1) := by decide +kernel
theorem dX4_copyFrom_48 : decode cX4_copyFrom 48 = .ok (.getfield 31, 3) := by decide +kernel
theorem dX4_copyFrom_51 : decode cX4_copyFrom 51 = .ok (.putfield 31, 3) := by decide +kernel
theorem dX4_copyFrom_54 : decode cX4_copyFrom 54 = .ok (.aload_n 0, 1) := by decide +kernel
theorem dX4_copyFrom_55 : decode cX4_copyFrom 55 = .ok (.aload_n 1, 1) := by decide +kernel
theorem dX4_copyFrom_56 : decode cX4_copyFrom 56 = .ok (.getfield 34, 3) := by decide +kernel
theorem dX4_copyFrom_59 : decode cX4_copyFrom 59 = .ok (.putfield 34, 3) := by decide +kernel
theorem dX4_copyFrom_62 : decode cX4_copyFrom 62 = .ok (.aload_n 0, 1) := by decide +kernel
theorem dX4_copyFrom_63 : decode cX4_copyFrom 63 = .ok (.aload_n 1, 1) := by decide +kernel
theorem dX4_copyFrom_64 : decode cX4_copyFrom 64 = .ok (.getfield 37, 3) := by decide +kernel
theorem dX4_copyFrom_67 : decode cX4_copyFrom 67 = .ok (.putfield 37, 3) := by decide +kernel
theorem dX4_copyFrom_70 : decode cX4_copyFrom 70 = .ok (.aload_n 0, 1) := by decide +kernel
theorem dX4_copyFrom_71 : decode cX4_copyFrom 71 = .ok (.aload_n 1, 1) := by decide +kernel
theorem dX4_copyFrom_72 : decode cX4_copyFrom 72 = .ok (.getfield 40, 3) := by decide +kernel
theorem dX4_copyFrom_75 : decode cX4_copyFrom 75 = .ok (.putfield 40, 3) := by decide +kernel
theorem dX4_copyFrom_78 : decode cX4_copyFrom 78 = .ok (.aload_n 0, 1) := by decide +kernel
theorem dX4_copyFrom_79 : decode cX4_copyFrom 79 = .ok (.aload_n 1, 1) := by decide +kernel
theorem dX4_copyFrom_80 : decode cX4_copyFrom 80 = .ok (.getfield 43, 3) := by decide +kernel
theorem dX4_copyFrom_83 : decode cX4_copyFrom 83 = .ok (.putfield 43, 3) := by decide +kernel
theorem dX4_copyFrom_86 : decode cX4_copyFrom 86 = .ok (.return_, 1) := by decide +kernel
theorem dX4_takeIn_0 : decode cX4_takeIn 0 = .ok (.aload_n 0, 1) := by decide +kernel
theorem dX4_takeIn_1 : decode cX4_takeIn 1 = .ok (.dup, 1) := by decide +kernel
theorem dX4_takeIn_2 : decode cX4_takeIn 2 = .ok (.getfield 24, 3) := by decide +kernel
theorem dX4_takeIn_5 : decode cX4_takeIn 5 = .ok (.iload_n 1, 1) := by decide +kernel
theorem dX4_takeIn_6 : decode cX4_takeIn 6 = .ok (.iadd, 1) := by decide +kernel
theorem dX4_takeIn_7 : decode cX4_takeIn 7 = .ok (.putfield 24, 3) := by decide +kernel
theorem dX4_takeIn_10 : decode cX4_takeIn 10 = .ok (.aload_n 0, 1) := by decide +kernel
theorem dX4_takeIn_11 : decode cX4_takeIn 11 = .ok (.dup, 1) := by decide +kernel
theorem dX4_takeIn_12 : decode cX4_takeIn 12 = .ok (.getfield 28, 3) := by decide +kernel
theorem dX4_takeIn_15 : decode cX4_takeIn 15 = .ok (.iload_n 1, 1) := by decide +kernel
theorem dX4_takeIn_16 : decode cX4_takeIn 16 = .ok (.iadd, 1) := by decide +kernel
theorem dX4_takeIn_17 : decode cX4_takeIn 17 = .ok (.putfield 28, 3) := by decide +kernel
theorem dX4_takeIn_20 : decode cX4_takeIn 20 = .ok (.aload_n 0, 1) := by decide +kernel
theorem dX4_takeIn_21 : decode cX4_takeIn 21 = .ok (.getfield 24, 3) := by decide +kernel
theorem dX4_takeIn_24 : decode cX4_takeIn 24 = .ok (.ireturn, 1) := by decide +kernel
theorem dX4_closeEvening_0 : decode cX4_closeEvening 0 = .ok (.aload_n 0, 1) := by decide +kernel
theorem dX4_closeEvening_1 : decode cX4_closeEvening 1 = .ok (.dup, 1) := by decide +kernel
theorem dX4_closeEvening_2 : decode cX4_closeEvening 2 = .ok (.getfield 34, 3) := by decide +kernel
theorem dX4_closeEvening_5 : decode cX4_closeEvening 5 = .ok (.iload_n 1, 1) := by decide +kernel
theorem dX4_closeEvening_6 : decode cX4_closeEvening 6 = .ok (.iadd, 1) := by decide +kernel
theorem dX4_closeEvening_7 : decode cX4_closeEvening 7 = .ok (.putfield 34, 3) := by decide +kernel
theorem dX4_closeEvening_10 : decode cX4_closeEvening 10 = .ok (.aload_n 0, 1) := by decide +kernel
theorem dX4_closeEvening_11 : decode cX4_closeEvening 11 = .ok (.iconst 0, 1) := by decide +kernel
theorem dX4_closeEvening_12 : decode cX4_closeEvening 12 = .ok (.putfield 24, 3) := by decide +kernel
theorem dX4_closeEvening_15 : decode cX4_closeEvening 15 = .ok (.aload_n 0, 1) := by decide +kernel
theorem dX4_closeEvening_16 : decode cX4_closeEvening 16 = .ok (.dup, 1) := by decide +kernel
theorem dX4_closeEvening_17 : decode cX4_closeEvening 17 = .ok (.getfield 43, 3) := by decide +kernel
theorem dX4_closeEvening_20 : decode cX4_closeEvening 20 = .ok (.iconst 1, 1) := by decide +kernel
theorem dX4_closeEvening_21 : decode cX4_closeEvening 21 = .ok (.iadd, 1) := by decide +kernel
theorem dX4_closeEvening_22 : decode cX4_closeEvening 22 = .ok (.putfield 43, 3) := by decide +kernel
theorem dX4_closeEvening_25 : decode cX4_closeEvening 25 = .ok (.return_, 1) := by decide +kernel
theorem dX4_told_0 : decode cX4_told 0 = .ok (.iload_n 1, 1) := by decide +kernel
theorem dX4_told_1 : decode cX4_told 1 = .ok (.tableswitch 81 3 11 #[51, 56, 61, 66, 81, 81, 81, 71, 76], 51) := by decide +kernel
theorem dX4_told_52 : decode cX4_told 52 = .ok (.aload_n 0, 1) := by decide +kernel
theorem dX4_told_53 : decode cX4_told 53 = .ok (.getfield 24, 3) := by decide +kernel
theorem dX4_told_56 : decode cX4_told 56 = .ok (.ireturn, 1) := by decide +kernel
theorem dX4_told_57 : decode cX4_told 57 = .ok (.aload_n 0, 1) := by decide +kernel
theorem dX4_told_58 : decode cX4_told 58 = .ok (.getfield 28, 3) := by decide +kernel
theorem dX4_told_61 : decode cX4_told 61 = .ok (.ireturn, 1) := by decide +kernel
theorem dX4_told_62 : decode cX4_told 62 = .ok (.aload_n 0, 1) := by decide +kernel
theorem dX4_told_63 : decode cX4_told 63 = .ok (.getfield 31, 3) := by decide +kernel
theorem dX4_told_66 : decode cX4_told 66 = .ok (.ireturn, 1) := by decide +kernel
theorem dX4_told_67 : decode cX4_told 67 = .ok (.aload_n 0, 1) := by decide +kernel
theorem dX4_told_68 : decode cX4_told 68 = .ok (.getfield 34, 3) := by decide +kernel
theorem dX4_told_71 : decode cX4_told 71 = .ok (.ireturn, 1) := by decide +kernel
theorem dX4_told_72 : decode cX4_told 72 = .ok (.aload_n 0, 1) := by decide +kernel
theorem dX4_told_73 : decode cX4_told 73 = .ok (.getfield 37, 3) := by decide +kernel
theorem dX4_told_76 : decode cX4_told 76 = .ok (.ireturn, 1) := by decide +kernel
theorem dX4_told_77 : decode cX4_told 77 = .ok (.aload_n 0, 1) := by decide +kernel
theorem dX4_told_78 : decode cX4_told 78 = .ok (.getfield 40, 3) := by decide +kernel
theorem dX4_told_81 : decode cX4_told 81 = .ok (.ireturn, 1) := by decide +kernel
theorem dX4_told_82 : decode cX4_told 82 = .ok (.aload_n 0, 1) := by decide +kernel
theorem dX4_told_83 : decode cX4_told 83 = .ok (.getfield 43, 3) := by decide +kernel
theorem dX4_told_86 : decode cX4_told 86 = .ok (.ireturn, 1) := by decide +kernel
theorem dX5_init_0 : decode cX5_init 0 = .ok (.aload_n 0, 1) := by decide +kernel
theorem dX5_init_1 : decode cX5_init 1 = .ok (.invokespecial 3, 3) := by decide +kernel
theorem dX5_init_4 : decode cX5_init 4 = .ok (.aload_n 0, 1) := by decide +kernel
theorem dX5_init_5 : decode cX5_init 5 = .ok (.bipush 60, 2) := by decide +kernel
theorem dX5_init_7 : decode cX5_init 7 = .ok (.newarray .int, 2) := by decide +kernel
theorem dX5_init_9 : decode cX5_init 9 = .ok (.putfield 9, 3) := by decide +kernel
theorem dX5_init_12 : decode cX5_init 12 = .ok (.return_, 1) := by decide +kernel
theorem dX5_orderLength_0 : decode cX5_orderLength 0 = .ok (.iload_n 0, 1) := by decide +kernel
theorem dX5_orderLength_1 : decode cX5_orderLength 1 = .ok (.lookupswitch 49 #[(98, 47), (99, 45), (100, 47), (112, 43)], 43) := by decide +kernel
theorem dX5_orderLength_44 : decode cX5_orderLength 44 = .ok (.iconst 5, 1) := by decide +kernel
theorem dX5_orderLength_45 : decode cX5_orderLength 45 = .ok (.ireturn, 1) := by decide +kernel
theorem dX5_orderLength_46 : decode cX5_orderLength 46 = .ok (.iconst 3, 1) := by decide +kernel
theorem dX5_orderLength_47 : decode cX5_orderLength 47 = .ok (.ireturn, 1) := by decide +kernel
theorem dX5_orderLength_48 : decode cX5_orderLength 48 = .ok (.iconst 2, 1) := by decide +kernel
theorem dX5_orderLength_49 : decode cX5_orderLength 49 = .ok (.ireturn, 1) := by decide +kernel
theorem dX5_orderLength_50 : decode cX5_orderLength 50 = .ok (.iconst 0, 1) := by decide +kernel
theorem dX5_orderLength_51 : decode cX5_orderLength 51 = .ok (.ireturn, 1) := by decide +kernel
theorem dX5_codeAt_0 : decode cX5_codeAt 0 = .ok (.iload_n 1, 1) := by decide +kernel
theorem dX5_codeAt_1 : decode cX5_codeAt 1 = .ok (.ifCond .lt 20, 3) := by decide +kernel
theorem dX5_codeAt_4 : decode cX5_codeAt 4 = .ok (.iload_n 1, 1) := by decide +kernel
theorem dX5_codeAt_5 : decode cX5_codeAt 5 = .ok (.aload_n 0, 1) := by decide +kernel
theorem dX5_codeAt_6 : decode cX5_codeAt 6 = .ok (.getfield 15, 3) := by decide +kernel
theorem dX5_codeAt_9 : decode cX5_codeAt 9 = .ok (.if_icmp .ge 12, 3) := by decide +kernel
theorem dX5_codeAt_12 : decode cX5_codeAt 12 = .ok (.aload_n 0, 1) := by decide +kernel
theorem dX5_codeAt_13 : decode cX5_codeAt 13 = .ok (.getfield 9, 3) := by decide +kernel
theorem dX5_codeAt_16 : decode cX5_codeAt 16 = .ok (.iload_n 1, 1) := by decide +kernel
theorem dX5_codeAt_17 : decode cX5_codeAt 17 = .ok (.iaload, 1) := by decide +kernel
theorem dX5_codeAt_18 : decode cX5_codeAt 18 = .ok (.goto 4, 3) := by decide +kernel
theorem dX5_codeAt_21 : decode cX5_codeAt 21 = .ok (.iconst 0, 1) := by decide +kernel
theorem dX5_codeAt_22 : decode cX5_codeAt 22 = .ok (.ireturn, 1) := by decide +kernel
theorem dX5_digitAt_0 : decode cX5_digitAt 0 = .ok (.aload_n 0, 1) := by decide +kernel
theorem dX5_digitAt_1 : decode cX5_digitAt 1 = .ok (.iload_n 1, 1) := by decide +kernel
theorem dX5_digitAt_2 : decode cX5_digitAt 2 = .ok (.invokevirtual 19, 3) := by decide +kernel
theorem dX5_digitAt_5 : decode cX5_digitAt 5 = .ok (.bipush 48, 2) := by decide +kernel
theorem dX5_digitAt_7 : decode cX5_digitAt 7 = .ok (.isub, 1) := by decide +kernel
theorem dX5_digitAt_8 : decode cX5_digitAt 8 = .ok (.ireturn, 1) := by decide +kernel
theorem dX5_firstWrong_0 : decode cX5_firstWrong 0 = .ok (.iconst 0, 1) := by decide +kernel
theorem dX5_firstWrong_1 : decode cX5_firstWrong 1 = .ok (.istore_n 1, 1) := by decide +kernel
theorem dX5_firstWrong_2 : decode cX5_firstWrong 2 = .ok (.iconst 0, 1) := by decide +kernel
theorem dX5_firstWrong_3 : decode cX5_firstWrong 3 = .ok (.istore_n 2, 1) := by decide +kernel
theorem dX5_firstWrong_4 : decode cX5_firstWrong 4 = .ok (.iload_n 2, 1) := by decide +kernel
theorem dX5_firstWrong_5 : decode cX5_firstWrong 5 = .ok (.aload_n 0, 1) := by decide +kernel
theorem dX5_firstWrong_6 : decode cX5_firstWrong 6 = .ok (.getfield 15, 3) := by decide +kernel
theorem dX5_firstWrong_9 : decode cX5_firstWrong 9 = .ok (.if_icmp .ge 41, 3) := by decide +kernel
theorem dX5_firstWrong_12 : decode cX5_firstWrong 12 = .ok (.iload_n 2, 1) := by decide +kernel
theorem dX5_firstWrong_13 : decode cX5_firstWrong 13 = .ok (.iload_n 1, 1) := by decide +kernel
theorem dX5_firstWrong_14 : decode cX5_firstWrong 14 = .ok (.if_icmp .le 19, 3) := by decide +kernel
theorem dX5_firstWrong_17 : decode cX5_firstWrong 17 = .ok (.iload_n 2, 1) := by decide +kernel
theorem dX5_firstWrong_18 : decode cX5_firstWrong 18 = .ok (.iload_n 1, 1) := by decide +kernel
theorem dX5_firstWrong_19 : decode cX5_firstWrong 19 = .ok (.isub, 1) := by decide +kernel
theorem dX5_firstWrong_20 : decode cX5_firstWrong 20 = .ok (.aload_n 0, 1) := by decide +kernel
theorem dX5_firstWrong_21 : decode cX5_firstWrong 21 = .ok (.iload_n 1, 1) := by decide +kernel
theorem dX5_firstWrong_22 : decode cX5_firstWrong 22 = .ok (.invokevirtual 19, 3) := by decide +kernel
theorem dX5_firstWrong_25 : decode cX5_firstWrong 25 = .ok (.invokestatic 23, 3) := by decide +kernel
theorem dX5_firstWrong_28 : decode cX5_firstWrong 28 = .ok (.if_icmp .ne 5, 3) := by decide +kernel
theorem dX5_firstWrong_31 : decode cX5_firstWrong 31 = .ok (.iload_n 2, 1) := by decide +kernel
theorem dX5_firstWrong_32 : decode cX5_firstWrong 32 = .ok (.istore_n 1, 1) := by decide +kernel
theorem dX5_firstWrong_33 : decode cX5_firstWrong 33 = .ok (.aload_n 0, 1) := by decide +kernel
theorem dX5_firstWrong_34 : decode cX5_firstWrong 34 = .ok (.iload_n 1, 1) := by decide +kernel
theorem dX5_firstWrong_35 : decode cX5_firstWrong 35 = .ok (.iload_n 2, 1) := by decide +kernel
theorem dX5_firstWrong_36 : decode cX5_firstWrong 36 = .ok (.invokevirtual 26, 3) := by decide +kernel
theorem dX5_firstWrong_39 : decode cX5_firstWrong 39 = .ok (.ifCond .ne 5, 3) := by decide +kernel
theorem dX5_firstWrong_42 : decode cX5_firstWrong 42 = .ok (.iload_n 2, 1) := by decide +kernel
theorem dX5_firstWrong_43 : decode cX5_firstWrong 43 = .ok (.ireturn, 1) := by decide +kernel
theorem dX5_firstWrong_44 : decode cX5_firstWrong 44 = .ok (.iinc 2 1, 3) := by decide +kernel
theorem dX5_firstWrong_47 : decode cX5_firstWrong 47 = .ok (.goto (-43), 3) := by decide +kernel
theorem dX5_firstWrong_50 : decode cX5_firstWrong 50 = .ok (.aload_n 0, 1) := by decide +kernel
theorem dX5_firstWrong_51 : decode cX5_firstWrong 51 = .ok (.getfield 15, 3) := by decide +kernel
theorem dX5_firstWrong_54 : decode cX5_firstWrong 54 = .ok (.ireturn, 1) := by decide +kernel
theorem dX5_tellsEvening_0 : decode cX5_tellsEvening 0 = .ok (.iconst 0, 1) := by decide +kernel
theorem dX5_tellsEvening_1 : decode cX5_tellsEvening 1 = .ok (.istore_n 1, 1) := by decide +kernel
theorem dX5_tellsEvening_2 : decode cX5_tellsEvening 2 = .ok (.iconst 0, 1) := by decide +kernel
theorem dX5_tellsEvening_3 : decode cX5_tellsEvening 3 = .ok (.istore_n 2, 1) := by decide +kernel
theorem dX5_tellsEvening_4 : decode cX5_tellsEvening 4 = .ok (.iload_n 2, 1) := by decide +kernel
theorem dX5_tellsEvening_5 : decode cX5_tellsEvening 5 = .ok (.bipush 60, 2) := by decide +kernel
theorem dX5_tellsEvening_7 : decode cX5_tellsEvening 7 = .ok (.if_icmp .ge 28, 3) := by decide +kernel
theorem dX5_tellsEvening_10 : decode cX5_tellsEvening 10 = .ok (.iload_n 1, 1) := by decide +kernel
theorem dX5_tellsEvening_11 : decode cX5_tellsEvening 11 = .ok (.aload_n 0, 1) := by decide +kernel
theorem dX5_tellsEvening_12 : decode cX5_tellsEvening 12 = .ok (.getfield 15, 3) := by decide +kernel
theorem dX5_tellsEvening_15 : decode cX5_tellsEvening 15 = .ok (.if_icmp .ge 20, 3) := by decide +kernel
theorem dX5_tellsEvening_18 : decode cX5_tellsEvening 18 = .ok (.iload_n 1, 1) := by decide +kernel
theorem dX5_tellsEvening_19 : decode cX5_tellsEvening 19 = .ok (.aload_n 0, 1) := by decide +kernel
theorem dX5_tellsEvening_20 : decode cX5_tellsEvening 20 = .ok (.iload_n 1, 1) := by decide +kernel
theorem dX5_tellsEvening_21 : decode cX5_tellsEvening 21 = .ok (.invokevirtual 19, 3) := by decide +kernel
theorem dX5_tellsEvening_24 : decode cX5_tellsEvening 24 = .ok (.invokestatic 23, 3) := by decide +kernel
theorem dX5_tellsEvening_27 : decode cX5_tellsEvening 27 = .ok (.iadd, 1) := by decide +kernel
theorem dX5_tellsEvening_28 : decode cX5_tellsEvening 28 = .ok (.istore_n 1, 1) := by decide +kernel
theorem dX5_tellsEvening_29 : decode cX5_tellsEvening 29 = .ok (.iinc 2 1, 3) := by decide +kernel
theorem dX5_tellsEvening_32 : decode cX5_tellsEvening 32 = .ok (.goto (-28), 3) := by decide +kernel
theorem dX5_tellsEvening_35 : decode cX5_tellsEvening 35 = .ok (.aload_n 0, 1) := by decide +kernel
theorem dX5_tellsEvening_36 : decode cX5_tellsEvening 36 = .ok (.getfield 15, 3) := by decide +kernel
theorem dX5_tellsEvening_39 : decode cX5_tellsEvening 39 = .ok (.ifCond .le 26, 3) := by decide +kernel
theorem dX5_tellsEvening_42 : decode cX5_tellsEvening 42 = .ok (.iload_n 1, 1) := by decide +kernel
theorem dX5_tellsEvening_43 : decode cX5_tellsEvening 43 = .ok (.aload_n 0, 1) := by decide +kernel
theorem dX5_tellsEvening_44 : decode cX5_tellsEvening 44 = .ok (.getfield 15, 3) := by decide +kernel
theorem dX5_tellsEvening_47 : decode cX5_tellsEvening 47 = .ok (.if_icmp .ne 18, 3) := by decide +kernel
theorem dX5_tellsEvening_50 : decode cX5_tellsEvening 50 = .ok (.aload_n 0, 1) := by decide +kernel
theorem dX5_tellsEvening_51 : decode cX5_tellsEvening 51 = .ok (.invokevirtual 30, 3) := by decide +kernel
theorem dX5_tellsEvening_54 : decode cX5_tellsEvening 54 = .ok (.aload_n 0, 1) := by decide +kernel
theorem dX5_tellsEvening_55 : decode cX5_tellsEvening 55 = .ok (.getfield 15, 3) := by decide +kernel
theorem dX5_tellsEvening_58 : decode cX5_tellsEvening 58 = .ok (.if_icmp .ne 7, 3) := by decide +kernel
theorem dX5_tellsEvening_61 : decode cX5_tellsEvening 61 = .ok (.iconst 1, 1) := by decide +kernel
theorem dX5_tellsEvening_62 : decode cX5_tellsEvening 62 = .ok (.goto 4, 3) := by decide +kernel
theorem dX5_tellsEvening_65 : decode cX5_tellsEvening 65 = .ok (.iconst 0, 1) := by decide +kernel
theorem dX5_tellsEvening_66 : decode cX5_tellsEvening 66 = .ok (.ireturn, 1) := by decide +kernel
theorem dX5_fits_0 : decode cX5_fits 0 = .ok (.aload_n 0, 1) := by decide +kernel
theorem dX5_fits_1 : decode cX5_fits 1 = .ok (.iload_n 1, 1) := by decide +kernel
theorem dX5_fits_2 : decode cX5_fits 2 = .ok (.invokevirtual 19, 3) := by decide +kernel
theorem dX5_fits_5 : decode cX5_fits 5 = .ok (.istore_n 3, 1) := by decide +kernel
theorem dX5_fits_6 : decode cX5_fits 6 = .ok (.iload_n 2, 1) := by decide +kernel
theorem dX5_fits_7 : decode cX5_fits 7 = .ok (.iload_n 1, 1) := by decide +kernel
theorem dX5_fits_8 : decode cX5_fits 8 = .ok (.if_icmp .ne 16, 3) := by decide +kernel
theorem dX5_fits_11 : decode cX5_fits 11 = .ok (.iload_n 3, 1) := by decide +kernel
theorem dX5_fits_12 : decode cX5_fits 12 = .ok (.invokestatic 23, 3) := by decide +kernel
theorem dX5_fits_15 : decode cX5_fits 15 = .ok (.ifCond .le 7, 3) := by decide +kernel
theorem dX5_fits_18 : decode cX5_fits 18 = .ok (.iconst 1, 1) := by decide +kernel
theorem dX5_fits_19 : decode cX5_fits 19 = .ok (.goto 4, 3) := by decide +kernel
theorem dX5_fits_22 : decode cX5_fits 22 = .ok (.iconst 0, 1) := by decide +kernel
theorem dX5_fits_23 : decode cX5_fits 23 = .ok (.ireturn, 1) := by decide +kernel
theorem dX5_fits_24 : decode cX5_fits 24 = .ok (.aload_n 0, 1) := by decide +kernel
theorem dX5_fits_25 : decode cX5_fits 25 = .ok (.iload_n 2, 1) := by decide +kernel
theorem dX5_fits_26 : decode cX5_fits 26 = .ok (.invokevirtual 34, 3) := by decide +kernel
theorem dX5_fits_29 : decode cX5_fits 29 = .ok (.istore 4, 2) := by decide +kernel
theorem dX5_fits_31 : decode cX5_fits 31 = .ok (.iload 4, 2) := by decide +kernel
theorem dX5_fits_33 : decode cX5_fits 33 = .ok (.ifCond .lt 10, 3) := by decide +kernel
theorem dX5_fits_36 : decode cX5_fits 36 = .ok (.iload 4, 2) := by decide +kernel
theorem dX5_fits_38 : decode cX5_fits 38 = .ok (.bipush 9, 2) := by decide +kernel
theorem dX5_fits_40 : decode cX5_fits 40 = .ok (.if_icmp .le 5, 3) := by decide +kernel
theorem dX5_fits_43 : decode cX5_fits 43 = .ok (.iconst 0, 1) := by decide +kernel
theorem dX5_fits_44 : decode cX5_fits 44 = .ok (.ireturn, 1) := by decide +kernel
theorem dX5_fits_45 : decode cX5_fits 45 = .ok (.iload_n 3, 1) := by decide +kernel
theorem dX5_fits_46 : decode cX5_fits 46 = .ok (.bipush 100, 2) := by decide +kernel
theorem dX5_fits_48 : decode cX5_fits 48 = .ok (.if_icmp .ne 14, 3) := by decide +kernel
theorem dX5_fits_51 : decode cX5_fits 51 = .ok (.iload 4, 2) := by decide +kernel
theorem dX5_fits_53 : decode cX5_fits 53 = .ok (.ifCond .le 7, 3) := by decide +kernel
theorem dX5_fits_56 : decode cX5_fits 56 = .ok (.iconst 1, 1) := by decide +kernel
theorem dX5_fits_57 : decode cX5_fits 57 = .ok (.goto 4, 3) := by decide +kernel
theorem dX5_fits_60 : decode cX5_fits 60 = .ok (.iconst 0, 1) := by decide +kernel
theorem dX5_fits_61 : decode cX5_fits 61 = .ok (.ireturn, 1) := by decide +kernel
theorem dX5_fits_62 : decode cX5_fits 62 = .ok (.iload_n 2, 1) := by decide +kernel
theorem dX5_fits_63 : decode cX5_fits 63 = .ok (.iload_n 1, 1) := by decide +kernel
theorem dX5_fits_64 : decode cX5_fits 64 = .ok (.isub, 1) := by decide +kernel
theorem dX5_fits_65 : decode cX5_fits 65 = .ok (.tableswitch 55 1 3 #[27, 33, 53], 27) := by decide +kernel
theorem dX5_fits_92 : decode cX5_fits 92 = .ok (.iload 4, 2) := by decide +kernel
theorem dX5_fits_94 : decode cX5_fits 94 = .ok (.invokestatic 37, 3) := by decide +kernel
theorem dX5_fits_97 : decode cX5_fits 97 = .ok (.ireturn, 1) := by decide +kernel
theorem dX5_fits_98 : decode cX5_fits 98 = .ok (.iload_n 3, 1) := by decide +kernel
theorem dX5_fits_99 : decode cX5_fits 99 = .ok (.bipush 99, 2) := by decide +kernel
theorem dX5_fits_101 : decode cX5_fits 101 = .ok (.if_icmp .ne 11, 3) := by decide +kernel
theorem dX5_fits_104 : decode cX5_fits 104 = .ok (.iload 4, 2) := by decide +kernel
theorem dX5_fits_106 : decode cX5_fits 106 = .ok (.invokestatic 41, 3) := by decide +kernel
theorem dX5_fits_109 : decode cX5_fits 109 = .ok (.goto 8, 3) := by decide +kernel
theorem dX5_fits_112 : decode cX5_fits 112 = .ok (.iload 4, 2) := by decide +kernel
theorem dX5_fits_114 : decode cX5_fits 114 = .ok (.invokestatic 44, 3) := by decide +kernel
theorem dX5_fits_117 : decode cX5_fits 117 = .ok (.ireturn, 1) := by decide +kernel
theorem dX5_fits_118 : decode cX5_fits 118 = .ok (.iconst 1, 1) := by decide +kernel
theorem dX5_fits_119 : decode cX5_fits 119 = .ok (.ireturn, 1) := by decide +kernel
theorem dX5_fits_120 : decode cX5_fits 120 = .ok (.bipush 10, 2) := by decide +kernel
theorem dX5_fits_122 : decode cX5_fits 122 = .ok (.aload_n 0, 1) := by decide +kernel
theorem dX5_fits_123 : decode cX5_fits 123 = .ok (.iload_n 2, 1) := by decide +kernel
theorem dX5_fits_124 : decode cX5_fits 124 = .ok (.iconst 1, 1) := by decide +kernel
theorem dX5_fits_125 : decode cX5_fits 125 = .ok (.isub, 1) := by decide +kernel
theorem dX5_fits_126 : decode cX5_fits 126 = .ok (.invokevirtual 34, 3) := by decide +kernel
theorem dX5_fits_129 : decode cX5_fits 129 = .ok (.imul, 1) := by decide +kernel
theorem dX5_fits_130 : decode cX5_fits 130 = .ok (.iload 4, 2) := by decide +kernel
theorem dX5_fits_132 : decode cX5_fits 132 = .ok (.iadd, 1) := by decide +kernel
theorem dX5_fits_133 : decode cX5_fits 133 = .ok (.invokestatic 47, 3) := by decide +kernel
theorem dX5_fits_136 : decode cX5_fits 136 = .ok (.ireturn, 1) := by decide +kernel
theorem dX6_init_0 : decode cX6_init 0 = .ok (.aload_n 0, 1) := by decide +kernel
theorem dX6_init_1 : decode cX6_init 1 = .ok (.invokespecial 1, 3) := by decide +kernel
theorem dX6_init_4 : decode cX6_init 4 = .ok (.aload_n 0, 1) := by decide +kernel
theorem dX6_init_5 : decode cX6_init 5 = .ok (.new 7, 3) := by decide +kernel
theorem dX6_init_8 : decode cX6_init 8 = .ok (.dup, 1) := by decide +kernel
theorem dX6_init_9 : decode cX6_init 9 = .ok (.invokespecial 9, 3) := by decide +kernel
theorem dX6_init_12 : decode cX6_init 12 = .ok (.putfield 10, 3) := by decide +kernel
theorem dX6_init_15 : decode cX6_init 15 = .ok (.aload_n 0, 1) := by decide +kernel
theorem dX6_init_16 : decode cX6_init 16 = .ok (.iconst 2, 1) := by decide +kernel
theorem dX6_init_17 : decode cX6_init 17 = .ok (.anewarray 7, 3) := by decide +kernel
theorem dX6_init_20 : decode cX6_init 20 = .ok (.putfield 16, 3) := by decide +kernel
theorem dX6_init_23 : decode cX6_init 23 = .ok (.aload_n 0, 1) := by decide +kernel
theorem dX6_init_24 : decode cX6_init 24 = .ok (.iconst 2, 1) := by decide +kernel
theorem dX6_init_25 : decode cX6_init 25 = .ok (.newarray .boolean, 2) := by decide +kernel
theorem dX6_init_27 : decode cX6_init 27 = .ok (.putfield 20, 3) := by decide +kernel
theorem dX6_init_30 : decode cX6_init 30 = .ok (.aload_n 0, 1) := by decide +kernel
theorem dX6_init_31 : decode cX6_init 31 = .ok (.bipush 6, 2) := by decide +kernel
theorem dX6_init_33 : decode cX6_init 33 = .ok (.anewarray 7, 3) := by decide +kernel
theorem dX6_init_36 : decode cX6_init 36 = .ok (.putfield 24, 3) := by decide +kernel
theorem dX6_init_39 : decode cX6_init 39 = .ok (.aload_n 0, 1) := by decide +kernel
theorem dX6_init_40 : decode cX6_init 40 = .ok (.new 27, 3) := by decide +kernel
theorem dX6_init_43 : decode cX6_init 43 = .ok (.dup, 1) := by decide +kernel
theorem dX6_init_44 : decode cX6_init 44 = .ok (.invokespecial 29, 3) := by decide +kernel
theorem dX6_init_47 : decode cX6_init 47 = .ok (.putfield 30, 3) := by decide +kernel
theorem dX6_init_50 : decode cX6_init 50 = .ok (.aload_n 0, 1) := by decide +kernel
theorem dX6_init_51 : decode cX6_init 51 = .ok (.new 34, 3) := by decide +kernel
theorem dX6_init_54 : decode cX6_init 54 = .ok (.dup, 1) := by decide +kernel
theorem dX6_init_55 : decode cX6_init 55 = .ok (.invokespecial 36, 3) := by decide +kernel
theorem dX6_init_58 : decode cX6_init 58 = .ok (.putfield 37, 3) := by decide +kernel
theorem dX6_init_61 : decode cX6_init 61 = .ok (.aload_n 0, 1) := by decide +kernel
theorem dX6_init_62 : decode cX6_init 62 = .ok (.bipush 90, 2) := by decide +kernel
theorem dX6_init_64 : decode cX6_init 64 = .ok (.newarray .int, 2) := by decide +kernel
theorem dX6_init_66 : decode cX6_init 66 = .ok (.putfield 41, 3) := by decide +kernel
theorem dX6_init_69 : decode cX6_init 69 = .ok (.iconst 0, 1) := by decide +kernel
theorem dX6_init_70 : decode cX6_init 70 = .ok (.istore_n 1, 1) := by decide +kernel
theorem dX6_init_71 : decode cX6_init 71 = .ok (.iload_n 1, 1) := by decide +kernel
theorem dX6_init_72 : decode cX6_init 72 = .ok (.iconst 2, 1) := by decide +kernel
theorem dX6_init_73 : decode cX6_init 73 = .ok (.if_icmp .ge 22, 3) := by decide +kernel
theorem dX6_init_76 : decode cX6_init 76 = .ok (.aload_n 0, 1) := by decide +kernel
theorem dX6_init_77 : decode cX6_init 77 = .ok (.getfield 16, 3) := by decide +kernel
theorem dX6_init_80 : decode cX6_init 80 = .ok (.iload_n 1, 1) := by decide +kernel
theorem dX6_init_81 : decode cX6_init 81 = .ok (.new 7, 3) := by decide +kernel
theorem dX6_init_84 : decode cX6_init 84 = .ok (.dup, 1) := by decide +kernel
theorem dX6_init_85 : decode cX6_init 85 = .ok (.invokespecial 9, 3) := by decide +kernel
theorem dX6_init_88 : decode cX6_init 88 = .ok (.aastore, 1) := by decide +kernel
theorem dX6_init_89 : decode cX6_init 89 = .ok (.iinc 1 1, 3) := by decide +kernel
theorem dX6_init_92 : decode cX6_init 92 = .ok (.goto (-21), 3) := by decide +kernel
theorem dX6_init_95 : decode cX6_init 95 = .ok (.iconst 0, 1) := by decide +kernel
theorem dX6_init_96 : decode cX6_init 96 = .ok (.istore_n 1, 1) := by decide +kernel
theorem dX6_init_97 : decode cX6_init 97 = .ok (.iload_n 1, 1) := by decide +kernel
theorem dX6_init_98 : decode cX6_init 98 = .ok (.bipush 6, 2) := by decide +kernel
theorem dX6_init_100 : decode cX6_init 100 = .ok (.if_icmp .ge 22, 3) := by decide +kernel
theorem dX6_init_103 : decode cX6_init 103 = .ok (.aload_n 0, 1) := by decide +kernel
theorem dX6_init_104 : decode cX6_init 104 = .ok (.getfield 24, 3) := by decide +kernel
theorem dX6_init_107 : decode cX6_init 107 = .ok (.iload_n 1, 1) := by decide +kernel
theorem dX6_init_108 : decode cX6_init 108 = .ok (.new 7, 3) := by decide +kernel
theorem dX6_init_111 : decode cX6_init 111 = .ok (.dup, 1) := by decide +kernel
theorem dX6_init_112 : decode cX6_init 112 = .ok (.invokespecial 9, 3) := by decide +kernel
theorem dX6_init_115 : decode cX6_init 115 = .ok (.aastore, 1) := by decide +kernel
theorem dX6_init_116 : decode cX6_init 116 = .ok (.iinc 1 1, 3) := by decide +kernel
theorem dX6_init_119 : decode cX6_init 119 = .ok (.goto (-22), 3) := by decide +kernel
theorem dX6_init_122 : decode cX6_init 122 = .ok (.return_, 1) := by decide +kernel
theorem dX6_put_0 : decode cX6_put 0 = .ok (.iload_n 1, 1) := by decide +kernel
theorem dX6_put_1 : decode cX6_put 1 = .ok (.invokestatic 45, 3) := by decide +kernel
theorem dX6_put_4 : decode cX6_put 4 = .ok (.ifCond .eq 14, 3) := by decide +kernel
theorem dX6_put_7 : decode cX6_put 7 = .ok (.iload_n 2, 1) := by decide +kernel
theorem dX6_put_8 : decode cX6_put 8 = .ok (.invokestatic 49, 3) := by decide +kernel
theorem dX6_put_11 : decode cX6_put 11 = .ok (.ifCond .eq 7, 3) := by decide +kernel
theorem dX6_put_14 : decode cX6_put 14 = .ok (.iconst 1, 1) := by decide +kernel
theorem dX6_put_15 : decode cX6_put 15 = .ok (.goto 4, 3) := by decide +kernel
theorem dX6_put_18 : decode cX6_put 18 = .ok (.iconst 0, 1) := by decide +kernel
theorem dX6_put_19 : decode cX6_put 19 = .ok (.invokestatic 52, 3) := by decide +kernel
theorem dX6_put_22 : decode cX6_put 22 = .ok (.iload_n 3, 1) := by decide +kernel
theorem dX6_put_23 : decode cX6_put 23 = .ok (.invokestatic 56, 3) := by decide +kernel
theorem dX6_put_26 : decode cX6_put 26 = .ok (.invokestatic 59, 3) := by decide +kernel
theorem dX6_put_29 : decode cX6_put 29 = .ok (.aload_n 0, 1) := by decide +kernel
theorem dX6_put_30 : decode cX6_put 30 = .ok (.invokevirtual 62, 3) := by decide +kernel
theorem dX6_put_33 : decode cX6_put 33 = .ok (.aload_n 0, 1) := by decide +kernel
theorem dX6_put_34 : decode cX6_put 34 = .ok (.getfield 10, 3) := by decide +kernel
theorem dX6_put_37 : decode cX6_put 37 = .ok (.iload_n 1, 1) := by decide +kernel
theorem dX6_put_38 : decode cX6_put 38 = .ok (.iconst 3, 1) := by decide +kernel
theorem dX6_put_39 : decode cX6_put 39 = .ok (.imul, 1) := by decide +kernel
theorem dX6_put_40 : decode cX6_put 40 = .ok (.iload_n 2, 1) := by decide +kernel
theorem dX6_put_41 : decode cX6_put 41 = .ok (.iadd, 1) := by decide +kernel
theorem dX6_put_42 : decode cX6_put 42 = .ok (.iload_n 3, 1) := by decide +kernel
theorem dX6_put_43 : decode cX6_put 43 = .ok (.invokevirtual 65, 3) := by decide +kernel
theorem dX6_put_46 : decode cX6_put 46 = .ok (.ireturn, 1) := by decide +kernel
theorem dX6_take_0 : decode cX6_take 0 = .ok (.iload_n 1, 1) := by decide +kernel
theorem dX6_take_1 : decode cX6_take 1 = .ok (.invokestatic 56, 3) := by decide +kernel
theorem dX6_take_4 : decode cX6_take 4 = .ok (.invokestatic 59, 3) := by decide +kernel
theorem dX6_take_7 : decode cX6_take 7 = .ok (.aload_n 0, 1) := by decide +kernel
theorem dX6_take_8 : decode cX6_take 8 = .ok (.getfield 10, 3) := by decide +kernel
theorem dX6_take_11 : decode cX6_take 11 = .ok (.getfield 69, 3) := by decide +kernel
theorem dX6_take_14 : decode cX6_take 14 = .ok (.getfield 73, 3) := by decide +kernel
theorem dX6_take_17 : decode cX6_take 17 = .ok (.iload_n 1, 1) := by decide +kernel
theorem dX6_take_18 : decode cX6_take 18 = .ok (.iaload, 1) := by decide +kernel
theorem dX6_take_19 : decode cX6_take 19 = .ok (.istore_n 2, 1) := by decide +kernel
theorem dX6_take_20 : decode cX6_take 20 = .ok (.iload_n 2, 1) := by decide +kernel
theorem dX6_take_21 : decode cX6_take 21 = .ok (.iconst (-1), 1) := by decide +kernel
theorem dX6_take_22 : decode cX6_take 22 = .ok (.if_icmp .eq 23, 3) := by decide +kernel
theorem dX6_take_25 : decode cX6_take 25 = .ok (.aload_n 0, 1) := by decide +kernel
theorem dX6_take_26 : decode cX6_take 26 = .ok (.getfield 10, 3) := by decide +kernel
theorem dX6_take_29 : decode cX6_take 29 = .ok (.getfield 78, 3) := by decide +kernel
theorem dX6_take_32 : decode cX6_take 32 = .ok (.iload_n 2, 1) := by decide +kernel
theorem dX6_take_33 : decode cX6_take 33 = .ok (.iconst 3, 1) := by decide +kernel
theorem dX6_take_34 : decode cX6_take 34 = .ok (.idiv, 1) := by decide +kernel
theorem dX6_take_35 : decode cX6_take 35 = .ok (.invokevirtual 82, 3) := by decide +kernel
theorem dX6_take_38 : decode cX6_take 38 = .ok (.ifCond .ne 7, 3) := by decide +kernel
theorem dX6_take_41 : decode cX6_take 41 = .ok (.iconst 1, 1) := by decide +kernel
theorem dX6_take_42 : decode cX6_take 42 = .ok (.goto 4, 3) := by decide +kernel
theorem dX6_take_45 : decode cX6_take 45 = .ok (.iconst 0, 1) := by decide +kernel
theorem dX6_take_46 : decode cX6_take 46 = .ok (.invokestatic 87, 3) := by decide +kernel
theorem dX6_take_49 : decode cX6_take 49 = .ok (.aload_n 0, 1) := by decide +kernel
theorem dX6_take_50 : decode cX6_take 50 = .ok (.invokevirtual 62, 3) := by decide +kernel
theorem dX6_take_53 : decode cX6_take 53 = .ok (.aload_n 0, 1) := by decide +kernel
theorem dX6_take_54 : decode cX6_take 54 = .ok (.getfield 10, 3) := by decide +kernel
theorem dX6_take_57 : decode cX6_take 57 = .ok (.getfield 69, 3) := by decide +kernel
theorem dX6_take_60 : decode cX6_take 60 = .ok (.iload_n 1, 1) := by decide +kernel
theorem dX6_take_61 : decode cX6_take 61 = .ok (.invokevirtual 90, 3) := by decide +kernel
theorem dX6_take_64 : decode cX6_take 64 = .ok (.bipush 10, 2) := by decide +kernel
theorem dX6_take_66 : decode cX6_take 66 = .ok (.iload_n 2, 1) := by decide +kernel
theorem dX6_take_67 : decode cX6_take 67 = .ok (.iconst 3, 1) := by decide +kernel
theorem dX6_take_68 : decode cX6_take 68 = .ok (.idiv, 1) := by decide +kernel
theorem dX6_take_69 : decode cX6_take 69 = .ok (.imul, 1) := by decide +kernel
theorem dX6_take_70 : decode cX6_take 70 = .ok (.iload_n 2, 1) := by decide +kernel
theorem dX6_take_71 : decode cX6_take 71 = .ok (.iconst 3, 1) := by decide +kernel
theorem dX6_take_72 : decode cX6_take 72 = .ok (.irem, 1) := by decide +kernel
theorem dX6_take_73 : decode cX6_take 73 = .ok (.iadd, 1) := by decide +kernel
theorem dX6_take_74 : decode cX6_take 74 = .ok (.ireturn, 1) := by decide +kernel
theorem dX6_fill_0 : decode cX6_fill 0 = .ok (.iload_n 1, 1) := by decide +kernel
theorem dX6_fill_1 : decode cX6_fill 1 = .ok (.invokestatic 45, 3) := by decide +kernel
theorem dX6_fill_4 : decode cX6_fill 4 = .ok (.invokestatic 52, 3) := by decide +kernel
theorem dX6_fill_7 : decode cX6_fill 7 = .ok (.iload_n 2, 1) := by decide +kernel
theorem dX6_fill_8 : decode cX6_fill 8 = .ok (.iconst 1, 1) := by decide +kernel
theorem dX6_fill_9 : decode cX6_fill 9 = .ok (.if_icmp .lt 13, 3) := by decide +kernel
theorem dX6_fill_12 : decode cX6_fill 12 = .ok (.iload_n 2, 1) := by decide +kernel
theorem dX6_fill_13 : decode cX6_fill 13 = .ok (.bipush 60, 2) := by decide +kernel
theorem dX6_fill_15 : decode cX6_fill 15 = .ok (.if_icmp .gt 7, 3) := by decide +kernel
theorem dX6_fill_18 : decode cX6_fill 18 = .ok (.iconst 1, 1) := by decide +kernel
theorem dX6_fill_19 : decode cX6_fill 19 = .ok (.goto 4, 3) := by decide +kernel
theorem dX6_fill_22 : decode cX6_fill 22 = .ok (.iconst 0, 1) := by decide +kernel
theorem dX6_fill_23 : decode cX6_fill 23 = .ok (.invokestatic 59, 3) := by decide +kernel
theorem dX6_fill_26 : decode cX6_fill 26 = .ok (.aload_n 0, 1) := by decide +kernel
theorem dX6_fill_27 : decode cX6_fill 27 = .ok (.getfield 10, 3) := by decide +kernel
theorem dX6_fill_30 : decode cX6_fill 30 = .ok (.getfield 78, 3) := by decide +kernel
theorem dX6_fill_33 : decode cX6_fill 33 = .ok (.iload_n 1, 1) := by decide +kernel
theorem dX6_fill_34 : decode cX6_fill 34 = .ok (.invokevirtual 82, 3) := by decide +kernel
theorem dX6_fill_37 : decode cX6_fill 37 = .ok (.ifCond .ne 7, 3) := by decide +kernel
theorem dX6_fill_40 : decode cX6_fill 40 = .ok (.iconst 1, 1) := by decide +kernel
theorem dX6_fill_41 : decode cX6_fill 41 = .ok (.goto 4, 3) := by decide +kernel
theorem dX6_fill_44 : decode cX6_fill 44 = .ok (.iconst 0, 1) := by decide +kernel
theorem dX6_fill_45 : decode cX6_fill 45 = .ok (.invokestatic 87, 3) := by decide +kernel
theorem dX6_fill_48 : decode cX6_fill 48 = .ok (.aload_n 0, 1) := by decide +kernel
theorem dX6_fill_49 : decode cX6_fill 49 = .ok (.invokevirtual 62, 3) := by decide +kernel
theorem dX6_fill_52 : decode cX6_fill 52 = .ok (.aload_n 0, 1) := by decide +kernel
theorem dX6_fill_53 : decode cX6_fill 53 = .ok (.getfield 10, 3) := by decide +kernel
theorem dX6_fill_56 : decode cX6_fill 56 = .ok (.iload_n 1, 1) := by decide +kernel
theorem dX6_fill_57 : decode cX6_fill 57 = .ok (.iload_n 2, 1) := by decide +kernel
theorem dX6_fill_58 : decode cX6_fill 58 = .ok (.aload_n 0, 1) := by decide +kernel
theorem dX6_fill_59 : decode cX6_fill 59 = .ok (.getfield 37, 3) := by decide +kernel
theorem dX6_fill_62 : decode cX6_fill 62 = .ok (.invokevirtual 94, 3) := by decide +kernel
theorem dX6_fill_65 : decode cX6_fill 65 = .ok (.ireturn, 1) := by decide +kernel
theorem dX6_buy_0 : decode cX6_buy 0 = .ok (.iload_n 1, 1) := by decide +kernel
theorem dX6_buy_1 : decode cX6_buy 1 = .ok (.invokestatic 45, 3) := by decide +kernel
theorem dX6_buy_4 : decode cX6_buy 4 = .ok (.invokestatic 52, 3) := by decide +kernel
theorem dX6_buy_7 : decode cX6_buy 7 = .ok (.aload_n 0, 1) := by decide +kernel
theorem dX6_buy_8 : decode cX6_buy 8 = .ok (.getfield 10, 3) := by decide +kernel
theorem dX6_buy_11 : decode cX6_buy 11 = .ok (.iload_n 1, 1) := by decide +kernel
theorem dX6_buy_12 : decode cX6_buy 12 = .ok (.invokevirtual 98, 3) := by decide +kernel
theorem dX6_buy_15 : decode cX6_buy 15 = .ok (.invokestatic 87, 3) := by decide +kernel
theorem dX6_buy_18 : decode cX6_buy 18 = .ok (.aload_n 0, 1) := by decide +kernel
theorem dX6_buy_19 : decode cX6_buy 19 = .ok (.invokevirtual 62, 3) := by decide +kernel
theorem dX6_buy_22 : decode cX6_buy 22 = .ok (.aload_n 0, 1) := by decide +kernel
theorem dX6_buy_23 : decode cX6_buy 23 = .ok (.getfield 10, 3) := by decide +kernel
theorem dX6_buy_26 : decode cX6_buy 26 = .ok (.iload_n 1, 1) := by decide +kernel
theorem dX6_buy_27 : decode cX6_buy 27 = .ok (.invokevirtual 101, 3) := by decide +kernel
theorem dX6_buy_30 : decode cX6_buy 30 = .ok (.ireturn, 1) := by decide +kernel
theorem dX6_seed_0 : decode cX6_seed 0 = .ok (.iload_n 1, 1) := by decide +kernel
theorem dX6_seed_1 : decode cX6_seed 1 = .ok (.ifCond .lt 14, 3) := by decide +kernel
theorem dX6_seed_4 : decode cX6_seed 4 = .ok (.iload_n 1, 1) := by decide +kernel
theorem dX6_seed_5 : decode cX6_seed 5 = .ok (.sipush 10000, 3) := by decide +kernel
theorem dX6_seed_8 : decode cX6_seed 8 = .ok (.if_icmp .ge 7, 3) := by decide +kernel
theorem dX6_seed_11 : decode cX6_seed 11 = .ok (.iconst 1, 1) := by decide +kernel
theorem dX6_seed_12 : decode cX6_seed 12 = .ok (.goto 4, 3) := by decide +kernel
theorem dX6_seed_15 : decode cX6_seed 15 = .ok (.iconst 0, 1) := by decide +kernel
theorem dX6_seed_16 : decode cX6_seed 16 = .ok (.invokestatic 59, 3) := by decide +kernel
theorem dX6_seed_19 : decode cX6_seed 19 = .ok (.aload_n 0, 1) := by decide +kernel
theorem dX6_seed_20 : decode cX6_seed 20 = .ok (.invokevirtual 62, 3) := by decide +kernel
theorem dX6_seed_23 : decode cX6_seed 23 = .ok (.aload_n 0, 1) := by decide +kernel
theorem dX6_seed_24 : decode cX6_seed 24 = .ok (.getfield 10, 3) := by decide +kernel
theorem dX6_seed_27 : decode cX6_seed 27 = .ok (.getfield 105, 3) := by decide +kernel
theorem dX6_seed_30 : decode cX6_seed 30 = .ok (.istore_n 2, 1) := by decide +kernel
theorem dX6_seed_31 : decode cX6_seed 31 = .ok (.aload_n 0, 1) := by decide +kernel
theorem dX6_seed_32 : decode cX6_seed 32 = .ok (.getfield 10, 3) := by decide +kernel
theorem dX6_seed_35 : decode cX6_seed 35 = .ok (.iload_n 1, 1) := by decide +kernel
theorem dX6_seed_36 : decode cX6_seed 36 = .ok (.putfield 105, 3) := by decide +kernel
theorem dX6_seed_39 : decode cX6_seed 39 = .ok (.iload_n 2, 1) := by decide +kernel
theorem dX6_seed_40 : decode cX6_seed 40 = .ok (.ireturn, 1) := by decide +kernel
theorem dX6_set_0 : decode cX6_set 0 = .ok (.iload_n 1, 1) := by decide +kernel
theorem dX6_set_1 : decode cX6_set 1 = .ok (.invokestatic 109, 3) := by decide +kernel
theorem dX6_set_4 : decode cX6_set 4 = .ok (.invokestatic 52, 3) := by decide +kernel
theorem dX6_set_7 : decode cX6_set 7 = .ok (.iload_n 2, 1) := by decide +kernel
theorem dX6_set_8 : decode cX6_set 8 = .ok (.getstatic 112, 3) := by decide +kernel
theorem dX6_set_11 : decode cX6_set 11 = .ok (.iload_n 1, 1) := by decide +kernel
theorem dX6_set_12 : decode cX6_set 12 = .ok (.iaload, 1) := by decide +kernel
theorem dX6_set_13 : decode cX6_set 13 = .ok (.if_icmp .lt 16, 3) := by decide +kernel
theorem dX6_set_16 : decode cX6_set 16 = .ok (.iload_n 2, 1) := by decide +kernel
theorem dX6_set_17 : decode cX6_set 17 = .ok (.getstatic 115, 3) := by decide +kernel
theorem dX6_set_20 : decode cX6_set 20 = .ok (.iload_n 1, 1) := by decide +kernel
theorem dX6_set_21 : decode cX6_set 21 = .ok (.iaload, 1) := by decide +kernel
theorem dX6_set_22 : decode cX6_set 22 = .ok (.if_icmp .gt 7, 3) := by decide +kernel
theorem dX6_set_25 : decode cX6_set 25 = .ok (.iconst 1, 1) := by decide +kernel
theorem dX6_set_26 : decode cX6_set 26 = .ok (.goto 4, 3) := by decide +kernel
theorem dX6_set_29 : decode cX6_set 29 = .ok (.iconst 0, 1) := by decide +kernel
theorem dX6_set_30 : decode cX6_set 30 = .ok (.invokestatic 59, 3) := by decide +kernel
theorem dX6_set_33 : decode cX6_set 33 = .ok (.aload_n 0, 1) := by decide +kernel
theorem dX6_set_34 : decode cX6_set 34 = .ok (.invokevirtual 62, 3) := by decide +kernel
theorem dX6_set_37 : decode cX6_set 37 = .ok (.aload_n 0, 1) := by decide +kernel
theorem dX6_set_38 : decode cX6_set 38 = .ok (.getfield 10, 3) := by decide +kernel
theorem dX6_set_41 : decode cX6_set 41 = .ok (.getfield 118, 3) := by decide +kernel
theorem dX6_set_44 : decode cX6_set 44 = .ok (.iload_n 1, 1) := by decide +kernel
theorem dX6_set_45 : decode cX6_set 45 = .ok (.iaload, 1) := by decide +kernel
theorem dX6_set_46 : decode cX6_set 46 = .ok (.istore_n 3, 1) := by decide +kernel
theorem dX6_set_47 : decode cX6_set 47 = .ok (.aload_n 0, 1) := by decide +kernel
theorem dX6_set_48 : decode cX6_set 48 = .ok (.getfield 10, 3) := by decide +kernel
theorem dX6_set_51 : decode cX6_set 51 = .ok (.getfield 118, 3) := by decide +kernel
theorem dX6_set_54 : decode cX6_set 54 = .ok (.iload_n 1, 1) := by decide +kernel
theorem dX6_set_55 : decode cX6_set 55 = .ok (.iload_n 2, 1) := by decide +kernel
theorem dX6_set_56 : decode cX6_set 56 = .ok (.iastore, 1) := by decide +kernel
theorem dX6_set_57 : decode cX6_set 57 = .ok (.iload_n 3, 1) := by decide +kernel
theorem dX6_set_58 : decode cX6_set 58 = .ok (.ireturn, 1) := by decide +kernel
theorem dX6_draw_0 : decode cX6_draw 0 = .ok (.iload_n 1, 1) := by decide +kernel
theorem dX6_draw_1 : decode cX6_draw 1 = .ok (.iconst 1, 1) := by decide +kernel
theorem dX6_draw_2 : decode cX6_draw 2 = .ok (.if_icmp .lt 13, 3) := by decide +kernel
theorem dX6_draw_5 : decode cX6_draw 5 = .ok (.iload_n 1, 1) := by decide +kernel
theorem dX6_draw_6 : decode cX6_draw 6 = .ok (.bipush 90, 2) := by decide +kernel
theorem dX6_draw_8 : decode cX6_draw 8 = .ok (.if_icmp .gt 7, 3) := by decide +kernel
theorem dX6_draw_11 : decode cX6_draw 11 = .ok (.iconst 1, 1) := by decide +kernel
theorem dX6_draw_12 : decode cX6_draw 12 = .ok (.goto 4, 3) := by decide +kernel
theorem dX6_draw_15 : decode cX6_draw 15 = .ok (.iconst 0, 1) := by decide +kernel
theorem dX6_draw_16 : decode cX6_draw 16 = .ok (.invokestatic 59, 3) := by decide +kernel
theorem dX6_draw_19 : decode cX6_draw 19 = .ok (.iload_n 1, 1) := by decide +kernel
theorem dX6_draw_20 : decode cX6_draw 20 = .ok (.aload_n 0, 1) := by decide +kernel
theorem dX6_draw_21 : decode cX6_draw 21 = .ok (.getfield 10, 3) := by decide +kernel
theorem dX6_draw_24 : decode cX6_draw 24 = .ok (.getfield 78, 3) := by decide +kernel
theorem dX6_draw_27 : decode cX6_draw 27 = .ok (.getfield 121, 3) := by decide +kernel
theorem dX6_draw_30 : decode cX6_draw 30 = .ok (.getfield 124, 3) := by decide +kernel
theorem dX6_draw_33 : decode cX6_draw 33 = .ok (.if_icmp .gt 7, 3) := by decide +kernel
theorem dX6_draw_36 : decode cX6_draw 36 = .ok (.iconst 1, 1) := by decide +kernel
theorem dX6_draw_37 : decode cX6_draw 37 = .ok (.goto 4, 3) := by decide +kernel
theorem dX6_draw_40 : decode cX6_draw 40 = .ok (.iconst 0, 1) := by decide +kernel
theorem dX6_draw_41 : decode cX6_draw 41 = .ok (.invokestatic 87, 3) := by decide +kernel
theorem dX6_draw_44 : decode cX6_draw 44 = .ok (.aload_n 0, 1) := by decide +kernel
theorem dX6_draw_45 : decode cX6_draw 45 = .ok (.invokevirtual 62, 3) := by decide +kernel
theorem dX6_draw_48 : decode cX6_draw 48 = .ok (.aload_n 0, 1) := by decide +kernel
theorem dX6_draw_49 : decode cX6_draw 49 = .ok (.getfield 10, 3) := by decide +kernel
theorem dX6_draw_52 : decode cX6_draw 52 = .ok (.iload_n 1, 1) := by decide +kernel
theorem dX6_draw_53 : decode cX6_draw 53 = .ok (.invokevirtual 127, 3) := by decide +kernel
theorem dX6_draw_56 : decode cX6_draw 56 = .ok (.ireturn, 1) := by decide +kernel
theorem dX6_claim_0 : decode cX6_claim 0 = .ok (.iload_n 1, 1) := by decide +kernel
theorem dX6_claim_1 : decode cX6_claim 1 = .ok (.invokestatic 45, 3) := by decide +kernel
theorem dX6_claim_4 : decode cX6_claim 4 = .ok (.ifCond .eq 14, 3) := by decide +kernel
theorem dX6_claim_7 : decode cX6_claim 7 = .ok (.iload_n 2, 1) := by decide +kernel
theorem dX6_claim_8 : decode cX6_claim 8 = .ok (.invokestatic 130, 3) := by decide +kernel
theorem dX6_claim_11 : decode cX6_claim 11 = .ok (.ifCond .eq 7, 3) := by decide +kernel
theorem dX6_claim_14 : decode cX6_claim 14 = .ok (.iconst 1, 1) := by decide +kernel
theorem dX6_claim_15 : decode cX6_claim 15 = .ok (.goto 4, 3) := by decide +kernel
theorem dX6_claim_18 : decode cX6_claim 18 = .ok (.iconst 0, 1) := by decide +kernel
theorem dX6_claim_19 : decode cX6_claim 19 = .ok (.invokestatic 52, 3) := by decide +kernel
theorem dX6_claim_22 : decode cX6_claim 22 = .ok (.aload_n 0, 1) := by decide +kernel
theorem dX6_claim_23 : decode cX6_claim 23 = .ok (.getfield 10, 3) := by decide +kernel
theorem dX6_claim_26 : decode cX6_claim 26 = .ok (.getfield 78, 3) := by decide +kernel
theorem dX6_claim_29 : decode cX6_claim 29 = .ok (.iload_n 1, 1) := by decide +kernel
theorem dX6_claim_30 : decode cX6_claim 30 = .ok (.invokevirtual 82, 3) := by decide +kernel
theorem dX6_claim_33 : decode cX6_claim 33 = .ok (.invokestatic 87, 3) := by decide +kernel
theorem dX6_claim_36 : decode cX6_claim 36 = .ok (.aload_n 0, 1) := by decide +kernel
theorem dX6_claim_37 : decode cX6_claim 37 = .ok (.invokevirtual 62, 3) := by decide +kernel
theorem dX6_claim_40 : decode cX6_claim 40 = .ok (.aload_n 0, 1) := by decide +kernel
theorem dX6_claim_41 : decode cX6_claim 41 = .ok (.getfield 10, 3) := by decide +kernel
theorem dX6_claim_44 : decode cX6_claim 44 = .ok (.iload_n 1, 1) := by decide +kernel
theorem dX6_claim_45 : decode cX6_claim 45 = .ok (.iload_n 2, 1) := by decide +kernel
theorem dX6_claim_46 : decode cX6_claim 46 = .ok (.invokevirtual 133, 3) := by decide +kernel
theorem dX6_claim_49 : decode cX6_claim 49 = .ok (.ireturn, 1) := by decide +kernel
theorem dX6_end_0 : decode cX6_end 0 = .ok (.aload_n 0, 1) := by decide +kernel
theorem dX6_end_1 : decode cX6_end 1 = .ok (.invokevirtual 62, 3) := by decide +kernel
theorem dX6_end_4 : decode cX6_end 4 = .ok (.aload_n 0, 1) := by decide +kernel
theorem dX6_end_5 : decode cX6_end 5 = .ok (.getfield 10, 3) := by decide +kernel
theorem dX6_end_8 : decode cX6_end 8 = .ok (.invokevirtual 136, 3) := by decide +kernel
theorem dX6_end_11 : decode cX6_end 11 = .ok (.ireturn, 1) := by decide +kernel
theorem dX6_append_0 : decode cX6_append 0 = .ok (.iload_n 1, 1) := by decide +kernel
theorem dX6_append_1 : decode cX6_append 1 = .ok (.bipush 33, 2) := by decide +kernel
theorem dX6_append_3 : decode cX6_append 3 = .ok (.if_icmp .lt 13, 3) := by decide +kernel
theorem dX6_append_6 : decode cX6_append 6 = .ok (.iload_n 1, 1) := by decide +kernel
theorem dX6_append_7 : decode cX6_append 7 = .ok (.bipush 126, 2) := by decide +kernel
theorem dX6_append_9 : decode cX6_append 9 = .ok (.if_icmp .gt 7, 3) := by decide +kernel
theorem dX6_append_12 : decode cX6_append 12 = .ok (.iconst 1, 1) := by decide +kernel
theorem dX6_append_13 : decode cX6_append 13 = .ok (.goto 4, 3) := by decide +kernel
theorem dX6_append_16 : decode cX6_append 16 = .ok (.iconst 0, 1) := by decide +kernel
theorem dX6_append_17 : decode cX6_append 17 = .ok (.invokestatic 59, 3) := by decide +kernel
theorem dX6_append_20 : decode cX6_append 20 = .ok (.aload_n 0, 1) := by decide +kernel
theorem dX6_append_21 : decode cX6_append 21 = .ok (.getfield 30, 3) := by decide +kernel
theorem dX6_append_24 : decode cX6_append 24 = .ok (.getfield 140, 3) := by decide +kernel
theorem dX6_append_27 : decode cX6_append 27 = .ok (.bipush 60, 2) := by decide +kernel
theorem dX6_append_29 : decode cX6_append 29 = .ok (.if_icmp .ge 7, 3) := by decide +kernel
theorem dX6_append_32 : decode cX6_append 32 = .ok (.iconst 1, 1) := by decide +kernel
theorem dX6_append_33 : decode cX6_append 33 = .ok (.goto 4, 3) := by decide +kernel
theorem dX6_append_36 : decode cX6_append 36 = .ok (.iconst 0, 1) := by decide +kernel
theorem dX6_append_37 : decode cX6_append 37 = .ok (.invokestatic 87, 3) := by decide +kernel
theorem dX6_append_40 : decode cX6_append 40 = .ok (.aload_n 0, 1) := by decide +kernel
theorem dX6_append_41 : decode cX6_append 41 = .ok (.getfield 30, 3) := by decide +kernel
theorem dX6_append_44 : decode cX6_append 44 = .ok (.getfield 143, 3) := by decide +kernel
theorem dX6_append_47 : decode cX6_append 47 = .ok (.aload_n 0, 1) := by decide +kernel
theorem dX6_append_48 : decode cX6_append 48 = .ok (.getfield 30, 3) := by decide +kernel
theorem dX6_append_51 : decode cX6_append 51 = .ok (.getfield 140, 3) := by decide +kernel
theorem dX6_append_54 : decode cX6_append 54 = .ok (.iload_n 1, 1) := by decide +kernel
theorem dX6_append_55 : decode cX6_append 55 = .ok (.iastore, 1) := by decide +kernel
theorem dX6_append_56 : decode cX6_append 56 = .ok (.aload_n 0, 1) := by decide +kernel
theorem dX6_append_57 : decode cX6_append 57 = .ok (.getfield 30, 3) := by decide +kernel
theorem dX6_append_60 : decode cX6_append 60 = .ok (.dup, 1) := by decide +kernel
theorem dX6_append_61 : decode cX6_append 61 = .ok (.getfield 140, 3) := by decide +kernel
theorem dX6_append_64 : decode cX6_append 64 = .ok (.iconst 1, 1) := by decide +kernel
theorem dX6_append_65 : decode cX6_append 65 = .ok (.iadd, 1) := by decide +kernel
theorem dX6_append_66 : decode cX6_append 66 = .ok (.putfield 140, 3) := by decide +kernel
theorem dX6_append_69 : decode cX6_append 69 = .ok (.aload_n 0, 1) := by decide +kernel
theorem dX6_append_70 : decode cX6_append 70 = .ok (.getfield 30, 3) := by decide +kernel
theorem dX6_append_73 : decode cX6_append 73 = .ok (.getfield 140, 3) := by decide +kernel
theorem dX6_append_76 : decode cX6_append 76 = .ok (.ireturn, 1) := by decide +kernel
theorem dX6_run_0 : decode cX6_run 0 = .ok (.aload_n 0, 1) := by decide +kernel
theorem dX6_run_1 : decode cX6_run 1 = .ok (.getfield 30, 3) := by decide +kernel
theorem dX6_run_4 : decode cX6_run 4 = .ok (.invokevirtual 149, 3) := by decide +kernel
theorem dX6_run_7 : decode cX6_run 7 = .ok (.invokestatic 59, 3) := by decide +kernel
theorem dX6_run_10 : decode cX6_run 10 = .ok (.aload_n 0, 1) := by decide +kernel
theorem dX6_run_11 : decode cX6_run 11 = .ok (.invokevirtual 62, 3) := by decide +kernel
theorem dX6_run_14 : decode cX6_run 14 = .ok (.iconst 0, 1) := by decide +kernel
theorem dX6_run_15 : decode cX6_run 15 = .ok (.istore_n 1, 1) := by decide +kernel
theorem dX6_run_16 : decode cX6_run 16 = .ok (.iconst 0, 1) := by decide +kernel
theorem dX6_run_17 : decode cX6_run 17 = .ok (.istore_n 2, 1) := by decide +kernel
theorem dX6_run_18 : decode cX6_run 18 = .ok (.iconst 0, 1) := by decide +kernel
theorem dX6_run_19 : decode cX6_run 19 = .ok (.istore_n 3, 1) := by decide +kernel
theorem dX6_run_20 : decode cX6_run 20 = .ok (.iload_n 3, 1) := by decide +kernel
theorem dX6_run_21 : decode cX6_run 21 = .ok (.bipush 60, 2) := by decide +kernel
theorem dX6_run_23 : decode cX6_run 23 = .ok (.if_icmp .ge 48, 3) := by decide +kernel
theorem dX6_run_26 : decode cX6_run 26 = .ok (.iload_n 2, 1) := by decide +kernel
theorem dX6_run_27 : decode cX6_run 27 = .ok (.aload_n 0, 1) := by decide +kernel
theorem dX6_run_28 : decode cX6_run 28 = .ok (.getfield 30, 3) := by decide +kernel
theorem dX6_run_31 : decode cX6_run 31 = .ok (.getfield 140, 3) := by decide +kernel
theorem dX6_run_34 : decode cX6_run 34 = .ok (.if_icmp .ge 37, 3) := by decide +kernel
theorem dX6_run_37 : decode cX6_run 37 = .ok (.aload_n 0, 1) := by decide +kernel
theorem dX6_run_38 : decode cX6_run 38 = .ok (.iload_n 2, 1) := by decide +kernel
theorem dX6_run_39 : decode cX6_run 39 = .ok (.invokevirtual 153, 3) := by decide +kernel
theorem dX6_run_42 : decode cX6_run 42 = .ok (.ifCond .ne 6, 3) := by decide +kernel
theorem dX6_run_45 : decode cX6_run 45 = .ok (.goto 26, 3) := by decide +kernel
theorem dX6_run_48 : decode cX6_run 48 = .ok (.iload_n 2, 1) := by decide +kernel
theorem dX6_run_49 : decode cX6_run 49 = .ok (.aload_n 0, 1) := by decide +kernel
theorem dX6_run_50 : decode cX6_run 50 = .ok (.getfield 30, 3) := by decide +kernel
theorem dX6_run_53 : decode cX6_run 53 = .ok (.iload_n 2, 1) := by decide +kernel
theorem dX6_run_54 : decode cX6_run 54 = .ok (.invokevirtual 156, 3) := by decide +kernel
theorem dX6_run_57 : decode cX6_run 57 = .ok (.invokestatic 159, 3) := by decide +kernel
theorem dX6_run_60 : decode cX6_run 60 = .ok (.iadd, 1) := by decide +kernel
theorem dX6_run_61 : decode cX6_run 61 = .ok (.istore_n 2, 1) := by decide +kernel
theorem dX6_run_62 : decode cX6_run 62 = .ok (.iinc 1 1, 3) := by decide +kernel
theorem dX6_run_65 : decode cX6_run 65 = .ok (.iinc 3 1, 3) := by decide +kernel
theorem dX6_run_68 : decode cX6_run 68 = .ok (.goto (-48), 3) := by decide +kernel
theorem dX6_run_71 : decode cX6_run 71 = .ok (.aload_n 0, 1) := by decide +kernel
theorem dX6_run_72 : decode cX6_run 72 = .ok (.getfield 30, 3) := by decide +kernel
theorem dX6_run_75 : decode cX6_run 75 = .ok (.iconst 0, 1) := by decide +kernel
theorem dX6_run_76 : decode cX6_run 76 = .ok (.putfield 140, 3) := by decide +kernel
theorem dX6_run_79 : decode cX6_run 79 = .ok (.iload_n 1, 1) := by decide +kernel
theorem dX6_run_80 : decode cX6_run 80 = .ok (.ireturn, 1) := by decide +kernel
theorem dX6_keep_0 : decode cX6_keep 0 = .ok (.iload_n 1, 1) := by decide +kernel
theorem dX6_keep_1 : decode cX6_keep 1 = .ok (.invokestatic 162, 3) := by decide +kernel
theorem dX6_keep_4 : decode cX6_keep 4 = .ok (.invokestatic 59, 3) := by decide +kernel
theorem dX6_keep_7 : decode cX6_keep 7 = .ok (.aload_n 0, 1) := by decide +kernel
theorem dX6_keep_8 : decode cX6_keep 8 = .ok (.getfield 16, 3) := by decide +kernel
theorem dX6_keep_11 : decode cX6_keep 11 = .ok (.iload_n 1, 1) := by decide +kernel
theorem dX6_keep_12 : decode cX6_keep 12 = .ok (.aaload, 1) := by decide +kernel
theorem dX6_keep_13 : decode cX6_keep 13 = .ok (.aload_n 0, 1) := by decide +kernel
theorem dX6_keep_14 : decode cX6_keep 14 = .ok (.getfield 10, 3) := by decide +kernel
theorem dX6_keep_17 : decode cX6_keep 17 = .ok (.invokevirtual 165, 3) := by decide +kernel
theorem dX6_keep_20 : decode cX6_keep 20 = .ok (.aload_n 0, 1) := by decide +kernel
theorem dX6_keep_21 : decode cX6_keep 21 = .ok (.getfield 20, 3) := by decide +kernel
theorem dX6_keep_24 : decode cX6_keep 24 = .ok (.iload_n 1, 1) := by decide +kernel
theorem dX6_keep_25 : decode cX6_keep 25 = .ok (.iconst 1, 1) := by decide +kernel
theorem dX6_keep_26 : decode cX6_keep 26 = .ok (.bastore, 1) := by decide +kernel
theorem dX6_keep_27 : decode cX6_keep 27 = .ok (.aload_n 0, 1) := by decide +kernel
theorem dX6_keep_28 : decode cX6_keep 28 = .ok (.getfield 10, 3) := by decide +kernel
theorem dX6_keep_31 : decode cX6_keep 31 = .ok (.getfield 69, 3) := by decide +kernel
theorem dX6_keep_34 : decode cX6_keep 34 = .ok (.getfield 169, 3) := by decide +kernel
theorem dX6_keep_37 : decode cX6_keep 37 = .ok (.ireturn, 1) := by decide +kernel
theorem dX6_goBack_0 : decode cX6_goBack 0 = .ok (.iload_n 1, 1) := by decide +kernel
theorem dX6_goBack_1 : decode cX6_goBack 1 = .ok (.invokestatic 162, 3) := by decide +kernel
theorem dX6_goBack_4 : decode cX6_goBack 4 = .ok (.invokestatic 59, 3) := by decide +kernel
theorem dX6_goBack_7 : decode cX6_goBack 7 = .ok (.aload_n 0, 1) := by decide +kernel
theorem dX6_goBack_8 : decode cX6_goBack 8 = .ok (.getfield 20, 3) := by decide +kernel
theorem dX6_goBack_11 : decode cX6_goBack 11 = .ok (.iload_n 1, 1) := by decide +kernel
theorem dX6_goBack_12 : decode cX6_goBack 12 = .ok (.baload, 1) := by decide +kernel
theorem dX6_goBack_13 : decode cX6_goBack 13 = .ok (.invokestatic 87, 3) := by decide +kernel
theorem dX6_goBack_16 : decode cX6_goBack 16 = .ok (.aload_n 0, 1) := by decide +kernel
theorem dX6_goBack_17 : decode cX6_goBack 17 = .ok (.invokevirtual 62, 3) := by decide +kernel
theorem dX6_goBack_20 : decode cX6_goBack 20 = .ok (.aload_n 0, 1) := by decide +kernel
theorem dX6_goBack_21 : decode cX6_goBack 21 = .ok (.getfield 10, 3) := by decide +kernel
theorem dX6_goBack_24 : decode cX6_goBack 24 = .ok (.aload_n 0, 1) := by decide +kernel
theorem dX6_goBack_25 : decode cX6_goBack 25 = .ok (.getfield 16, 3) := by decide +kernel
theorem dX6_goBack_28 : decode cX6_goBack 28 = .ok (.iload_n 1, 1) := by decide +kernel
theorem dX6_goBack_29 : decode cX6_goBack 29 = .ok (.aaload, 1) := by decide +kernel
theorem dX6_goBack_30 : decode cX6_goBack 30 = .ok (.invokevirtual 165, 3) := by decide +kernel
theorem dX6_goBack_33 : decode cX6_goBack 33 = .ok (.aload_n 0, 1) := by decide +kernel
theorem dX6_goBack_34 : decode cX6_goBack 34 = .ok (.getfield 10, 3) := by decide +kernel
theorem dX6_goBack_37 : decode cX6_goBack 37 = .ok (.getfield 69, 3) := by decide +kernel
theorem dX6_goBack_40 : decode cX6_goBack 40 = .ok (.getfield 169, 3) := by decide +kernel
theorem dX6_goBack_43 : decode cX6_goBack 43 = .ok (.ireturn, 1) := by decide +kernel
theorem dX6_undo_0 : decode cX6_undo 0 = .ok (.aload_n 0, 1) := by decide +kernel
theorem dX6_undo_1 : decode cX6_undo 1 = .ok (.getfield 170, 3) := by decide +kernel
theorem dX6_undo_4 : decode cX6_undo 4 = .ok (.ifCond .le 7, 3) := by decide +kernel
theorem dX6_undo_7 : decode cX6_undo 7 = .ok (.iconst 1, 1) := by decide +kernel
theorem dX6_undo_8 : decode cX6_undo 8 = .ok (.goto 4, 3) := by decide +kernel
theorem dX6_undo_11 : decode cX6_undo 11 = .ok (.iconst 0, 1) := by decide +kernel
theorem dX6_undo_12 : decode cX6_undo 12 = .ok (.invokestatic 87, 3) := by decide +kernel
theorem dX6_undo_15 : decode cX6_undo 15 = .ok (.aload_n 0, 1) := by decide +kernel
theorem dX6_undo_16 : decode cX6_undo 16 = .ok (.dup, 1) := by decide +kernel
theorem dX6_undo_17 : decode cX6_undo 17 = .ok (.getfield 170, 3) := by decide +kernel
theorem dX6_undo_20 : decode cX6_undo 20 = .ok (.iconst 1, 1) := by decide +kernel
theorem dX6_undo_21 : decode cX6_undo 21 = .ok (.isub, 1) := by decide +kernel
theorem dX6_undo_22 : decode cX6_undo 22 = .ok (.putfield 170, 3) := by decide +kernel
theorem dX6_undo_25 : decode cX6_undo 25 = .ok (.aload_n 0, 1) := by decide +kernel
theorem dX6_undo_26 : decode cX6_undo 26 = .ok (.getfield 10, 3) := by decide +kernel
theorem dX6_undo_29 : decode cX6_undo 29 = .ok (.aload_n 0, 1) := by decide +kernel
theorem dX6_undo_30 : decode cX6_undo 30 = .ok (.getfield 24, 3) := by decide +kernel
theorem dX6_undo_33 : decode cX6_undo 33 = .ok (.aload_n 0, 1) := by decide +kernel
theorem dX6_undo_34 : decode cX6_undo 34 = .ok (.getfield 173, 3) := by decide +kernel
theorem dX6_undo_37 : decode cX6_undo 37 = .ok (.aload_n 0, 1) := by decide +kernel
theorem dX6_undo_38 : decode cX6_undo 38 = .ok (.getfield 170, 3) := by decide +kernel
theorem dX6_undo_41 : decode cX6_undo 41 = .ok (.iadd, 1) := by decide +kernel
theorem dX6_undo_42 : decode cX6_undo 42 = .ok (.bipush 6, 2) := by decide +kernel
theorem dX6_undo_44 : decode cX6_undo 44 = .ok (.irem, 1) := by decide +kernel
theorem dX6_undo_45 : decode cX6_undo 45 = .ok (.aaload, 1) := by decide +kernel
theorem dX6_undo_46 : decode cX6_undo 46 = .ok (.invokevirtual 165, 3) := by decide +kernel
theorem dX6_undo_49 : decode cX6_undo 49 = .ok (.aload_n 0, 1) := by decide +kernel
theorem dX6_undo_50 : decode cX6_undo 50 = .ok (.getfield 170, 3) := by decide +kernel
theorem dX6_undo_53 : decode cX6_undo 53 = .ok (.ireturn, 1) := by decide +kernel
theorem dX6_at_0 : decode cX6_at 0 = .ok (.iload_n 1, 1) := by decide +kernel
theorem dX6_at_1 : decode cX6_at 1 = .ok (.invokestatic 45, 3) := by decide +kernel
theorem dX6_at_4 : decode cX6_at 4 = .ok (.ifCond .eq 24, 3) := by decide +kernel
theorem dX6_at_7 : decode cX6_at 7 = .ok (.iload_n 2, 1) := by decide +kernel
theorem dX6_at_8 : decode cX6_at 8 = .ok (.invokestatic 49, 3) := by decide +kernel
theorem dX6_at_11 : decode cX6_at 11 = .ok (.ifCond .eq 17, 3) := by decide +kernel
theorem dX6_at_14 : decode cX6_at 14 = .ok (.iload_n 3, 1) := by decide +kernel
theorem dX6_at_15 : decode cX6_at 15 = .ok (.ifCond .lt 13, 3) := by decide +kernel
theorem dX6_at_18 : decode cX6_at 18 = .ok (.iload_n 3, 1) := by decide +kernel
theorem dX6_at_19 : decode cX6_at 19 = .ok (.bipush 9, 2) := by decide +kernel
theorem dX6_at_21 : decode cX6_at 21 = .ok (.if_icmp .ge 7, 3) := by decide +kernel
theorem dX6_at_24 : decode cX6_at 24 = .ok (.iconst 1, 1) := by decide +kernel
theorem dX6_at_25 : decode cX6_at 25 = .ok (.goto 4, 3) := by decide +kernel
theorem dX6_at_28 : decode cX6_at 28 = .ok (.iconst 0, 1) := by decide +kernel
theorem dX6_at_29 : decode cX6_at 29 = .ok (.invokestatic 52, 3) := by decide +kernel
theorem dX6_at_32 : decode cX6_at 32 = .ok (.aload_n 0, 1) := by decide +kernel
theorem dX6_at_33 : decode cX6_at 33 = .ok (.getfield 10, 3) := by decide +kernel
theorem dX6_at_36 : decode cX6_at 36 = .ok (.getfield 69, 3) := by decide +kernel
theorem dX6_at_39 : decode cX6_at 39 = .ok (.iload_n 1, 1) := by decide +kernel
theorem dX6_at_40 : decode cX6_at 40 = .ok (.iconst 3, 1) := by decide +kernel
theorem dX6_at_41 : decode cX6_at 41 = .ok (.imul, 1) := by decide +kernel
theorem dX6_at_42 : decode cX6_at 42 = .ok (.iload_n 2, 1) := by decide +kernel
theorem dX6_at_43 : decode cX6_at 43 = .ok (.iadd, 1) := by decide +kernel
theorem dX6_at_44 : decode cX6_at 44 = .ok (.iload_n 3, 1) := by decide +kernel
theorem dX6_at_45 : decode cX6_at 45 = .ok (.invokevirtual 176, 3) := by decide +kernel
theorem dX6_at_48 : decode cX6_at 48 = .ok (.ireturn, 1) := by decide +kernel
theorem dX6_cardOf_0 : decode cX6_cardOf 0 = .ok (.iload_n 1, 1) := by decide +kernel
theorem dX6_cardOf_1 : decode cX6_cardOf 1 = .ok (.invokestatic 45, 3) := by decide +kernel
theorem dX6_cardOf_4 : decode cX6_cardOf 4 = .ok (.invokestatic 52, 3) := by decide +kernel
theorem dX6_cardOf_7 : decode cX6_cardOf 7 = .ok (.iload_n 2, 1) := by decide +kernel
theorem dX6_cardOf_8 : decode cX6_cardOf 8 = .ok (.ifCond .lt 13, 3) := by decide +kernel
theorem dX6_cardOf_11 : decode cX6_cardOf 11 = .ok (.iload_n 2, 1) := by decide +kernel
theorem dX6_cardOf_12 : decode cX6_cardOf 12 = .ok (.bipush 9, 2) := by decide +kernel
theorem dX6_cardOf_14 : decode cX6_cardOf 14 = .ok (.if_icmp .ge 7, 3) := by decide +kernel
theorem dX6_cardOf_17 : decode cX6_cardOf 17 = .ok (.iconst 1, 1) := by decide +kernel
theorem dX6_cardOf_18 : decode cX6_cardOf 18 = .ok (.goto 4, 3) := by decide +kernel
theorem dX6_cardOf_21 : decode cX6_cardOf 21 = .ok (.iconst 0, 1) := by decide +kernel
theorem dX6_cardOf_22 : decode cX6_cardOf 22 = .ok (.invokestatic 59, 3) := by decide +kernel
theorem dX6_cardOf_25 : decode cX6_cardOf 25 = .ok (.aload_n 0, 1) := by decide +kernel
theorem dX6_cardOf_26 : decode cX6_cardOf 26 = .ok (.getfield 10, 3) := by decide +kernel
theorem dX6_cardOf_29 : decode cX6_cardOf 29 = .ok (.getfield 69, 3) := by decide +kernel
theorem dX6_cardOf_32 : decode cX6_cardOf 32 = .ok (.astore_n 3, 1) := by decide +kernel
theorem dX6_cardOf_33 : decode cX6_cardOf 33 = .ok (.aload_n 0, 1) := by decide +kernel
theorem dX6_cardOf_34 : decode cX6_cardOf 34 = .ok (.getfield 10, 3) := by decide +kernel
theorem dX6_cardOf_37 : decode cX6_cardOf 37 = .ok (.getfield 78, 3) := by decide +kernel
theorem dX6_cardOf_40 : decode cX6_cardOf 40 = .ok (.astore 4, 2) := by decide +kernel
theorem dX6_cardOf_42 : decode cX6_cardOf 42 = .ok (.iload_n 2, 1) := by decide +kernel
theorem dX6_cardOf_43 : decode cX6_cardOf 43 = .ok (.tableswitch 133 0 7 #[45, 51, 65, 80, 91, 102, 113, 120], 45) := by decide +kernel
theorem dX6_cardOf_88 : decode cX6_cardOf 88 = .ok (.aload_n 3, 1) := by decide +kernel
theorem dX6_cardOf_89 : decode cX6_cardOf 89 = .ok (.iload_n 1, 1) := by decide +kernel
theorem dX6_cardOf_90 : decode cX6_cardOf 90 = .ok (.invokevirtual 179, 3) := by decide +kernel
theorem dX6_cardOf_93 : decode cX6_cardOf 93 = .ok (.ireturn, 1) := by decide +kernel
theorem dX6_cardOf_94 : decode cX6_cardOf 94 = .ok (.aload_n 3, 1) := by decide +kernel
theorem dX6_cardOf_95 : decode cX6_cardOf 95 = .ok (.iload_n 1, 1) := by decide +kernel
theorem dX6_cardOf_96 : decode cX6_cardOf 96 = .ok (.invokevirtual 182, 3) := by decide +kernel
theorem dX6_cardOf_99 : decode cX6_cardOf 99 = .ok (.ifCond .eq 7, 3) := by decide +kernel
theorem dX6_cardOf_102 : decode cX6_cardOf 102 = .ok (.iconst 1, 1) := by decide +kernel
theorem dX6_cardOf_103 : decode cX6_cardOf 103 = .ok (.goto 4, 3) := by decide +kernel
theorem dX6_cardOf_106 : decode cX6_cardOf 106 = .ok (.iconst 0, 1) := by decide +kernel
theorem dX6_cardOf_107 : decode cX6_cardOf 107 = .ok (.ireturn, 1) := by decide +kernel
theorem dX6_cardOf_108 : decode cX6_cardOf 108 = .ok (.aload 4, 2) := by decide +kernel
theorem dX6_cardOf_110 : decode cX6_cardOf 110 = .ok (.iload_n 1, 1) := by decide +kernel
theorem dX6_cardOf_111 : decode cX6_cardOf 111 = .ok (.invokevirtual 82, 3) := by decide +kernel
theorem dX6_cardOf_114 : decode cX6_cardOf 114 = .ok (.ifCond .eq 7, 3) := by decide +kernel
theorem dX6_cardOf_117 : decode cX6_cardOf 117 = .ok (.iconst 1, 1) := by decide +kernel
theorem dX6_cardOf_118 : decode cX6_cardOf 118 = .ok (.goto 4, 3) := by decide +kernel
theorem dX6_cardOf_121 : decode cX6_cardOf 121 = .ok (.iconst 0, 1) := by decide +kernel
theorem dX6_cardOf_122 : decode cX6_cardOf 122 = .ok (.ireturn, 1) := by decide +kernel
theorem dX6_cardOf_123 : decode cX6_cardOf 123 = .ok (.aload_n 3, 1) := by decide +kernel
theorem dX6_cardOf_124 : decode cX6_cardOf 124 = .ok (.iload_n 1, 1) := by decide +kernel
theorem dX6_cardOf_125 : decode cX6_cardOf 125 = .ok (.aload 4, 2) := by decide +kernel
theorem dX6_cardOf_127 : decode cX6_cardOf 127 = .ok (.getfield 185, 3) := by decide +kernel
theorem dX6_cardOf_130 : decode cX6_cardOf 130 = .ok (.invokevirtual 188, 3) := by decide +kernel
theorem dX6_cardOf_133 : decode cX6_cardOf 133 = .ok (.ireturn, 1) := by decide +kernel
theorem dX6_cardOf_134 : decode cX6_cardOf 134 = .ok (.aload_n 3, 1) := by decide +kernel
theorem dX6_cardOf_135 : decode cX6_cardOf 135 = .ok (.iload_n 1, 1) := by decide +kernel
theorem dX6_cardOf_136 : decode cX6_cardOf 136 = .ok (.aload 4, 2) := by decide +kernel
theorem dX6_cardOf_138 : decode cX6_cardOf 138 = .ok (.getfield 192, 3) := by decide +kernel
theorem dX6_cardOf_141 : decode cX6_cardOf 141 = .ok (.invokevirtual 188, 3) := by decide +kernel
theorem dX6_cardOf_144 : decode cX6_cardOf 144 = .ok (.ireturn, 1) := by decide +kernel
theorem dX6_cardOf_145 : decode cX6_cardOf 145 = .ok (.aload_n 3, 1) := by decide +kernel
theorem dX6_cardOf_146 : decode cX6_cardOf 146 = .ok (.iload_n 1, 1) := by decide +kernel
theorem dX6_cardOf_147 : decode cX6_cardOf 147 = .ok (.aload 4, 2) := by decide +kernel
theorem dX6_cardOf_149 : decode cX6_cardOf 149 = .ok (.getfield 185, 3) := by decide +kernel
theorem dX6_cardOf_152 : decode cX6_cardOf 152 = .ok (.invokevirtual 195, 3) := by decide +kernel
theorem dX6_cardOf_155 : decode cX6_cardOf 155 = .ok (.ireturn, 1) := by decide +kernel
theorem dX6_cardOf_156 : decode cX6_cardOf 156 = .ok (.aload 4, 2) := by decide +kernel
theorem dX6_cardOf_158 : decode cX6_cardOf 158 = .ok (.iload_n 1, 1) := by decide +kernel
theorem dX6_cardOf_159 : decode cX6_cardOf 159 = .ok (.invokevirtual 198, 3) := by decide +kernel
theorem dX6_cardOf_162 : decode cX6_cardOf 162 = .ok (.ireturn, 1) := by decide +kernel
theorem dX6_cardOf_163 : decode cX6_cardOf 163 = .ok (.aload_n 0, 1) := by decide +kernel
theorem dX6_cardOf_164 : decode cX6_cardOf 164 = .ok (.getfield 10, 3) := by decide +kernel
theorem dX6_cardOf_167 : decode cX6_cardOf 167 = .ok (.getfield 201, 3) := by decide +kernel
theorem dX6_cardOf_170 : decode cX6_cardOf 170 = .ok (.getfield 205, 3) := by decide +kernel
theorem dX6_cardOf_173 : decode cX6_cardOf 173 = .ok (.iload_n 1, 1) := by decide +kernel
theorem dX6_cardOf_174 : decode cX6_cardOf 174 = .ok (.iaload, 1) := by decide +kernel
theorem dX6_cardOf_175 : decode cX6_cardOf 175 = .ok (.ireturn, 1) := by decide +kernel
theorem dX6_cardOf_176 : decode cX6_cardOf 176 = .ok (.aload_n 0, 1) := by decide +kernel
theorem dX6_cardOf_177 : decode cX6_cardOf 177 = .ok (.getfield 10, 3) := by decide +kernel
theorem dX6_cardOf_180 : decode cX6_cardOf 180 = .ok (.getfield 201, 3) := by decide +kernel
theorem dX6_cardOf_183 : decode cX6_cardOf 183 = .ok (.getfield 210, 3) := by decide +kernel
theorem dX6_cardOf_186 : decode cX6_cardOf 186 = .ok (.iload_n 1, 1) := by decide +kernel
theorem dX6_cardOf_187 : decode cX6_cardOf 187 = .ok (.iaload, 1) := by decide +kernel
theorem dX6_cardOf_188 : decode cX6_cardOf 188 = .ok (.ireturn, 1) := by decide +kernel
theorem dX6_numberOf_0 : decode cX6_numberOf 0 = .ok (.iload_n 1, 1) := by decide +kernel
theorem dX6_numberOf_1 : decode cX6_numberOf 1 = .ok (.invokestatic 56, 3) := by decide +kernel
theorem dX6_numberOf_4 : decode cX6_numberOf 4 = .ok (.ifCond .eq 16, 3) := by decide +kernel
theorem dX6_numberOf_7 : decode cX6_numberOf 7 = .ok (.iload_n 2, 1) := by decide +kernel
theorem dX6_numberOf_8 : decode cX6_numberOf 8 = .ok (.ifCond .lt 12, 3) := by decide +kernel
theorem dX6_numberOf_11 : decode cX6_numberOf 11 = .ok (.iload_n 2, 1) := by decide +kernel
theorem dX6_numberOf_12 : decode cX6_numberOf 12 = .ok (.iconst 4, 1) := by decide +kernel
theorem dX6_numberOf_13 : decode cX6_numberOf 13 = .ok (.if_icmp .ge 7, 3) := by decide +kernel
theorem dX6_numberOf_16 : decode cX6_numberOf 16 = .ok (.iconst 1, 1) := by decide +kernel
theorem dX6_numberOf_17 : decode cX6_numberOf 17 = .ok (.goto 4, 3) := by decide +kernel
theorem dX6_numberOf_20 : decode cX6_numberOf 20 = .ok (.iconst 0, 1) := by decide +kernel
theorem dX6_numberOf_21 : decode cX6_numberOf 21 = .ok (.invokestatic 59, 3) := by decide +kernel
theorem dX6_numberOf_24 : decode cX6_numberOf 24 = .ok (.iload_n 2, 1) := by decide +kernel
theorem dX6_numberOf_25 : decode cX6_numberOf 25 = .ok (.iconst 2, 1) := by decide +kernel
theorem dX6_numberOf_26 : decode cX6_numberOf 26 = .ok (.if_icmp .ne 16, 3) := by decide +kernel
theorem dX6_numberOf_29 : decode cX6_numberOf 29 = .ok (.aload_n 0, 1) := by decide +kernel
theorem dX6_numberOf_30 : decode cX6_numberOf 30 = .ok (.getfield 10, 3) := by decide +kernel
theorem dX6_numberOf_33 : decode cX6_numberOf 33 = .ok (.getfield 78, 3) := by decide +kernel
theorem dX6_numberOf_36 : decode cX6_numberOf 36 = .ok (.getfield 185, 3) := by decide +kernel
theorem dX6_numberOf_39 : decode cX6_numberOf 39 = .ok (.iload_n 1, 1) := by decide +kernel
theorem dX6_numberOf_40 : decode cX6_numberOf 40 = .ok (.iaload, 1) := by decide +kernel
theorem dX6_numberOf_41 : decode cX6_numberOf 41 = .ok (.ireturn, 1) := by decide +kernel
theorem dX6_numberOf_42 : decode cX6_numberOf 42 = .ok (.iload_n 2, 1) := by decide +kernel
theorem dX6_numberOf_43 : decode cX6_numberOf 43 = .ok (.iconst 3, 1) := by decide +kernel
theorem dX6_numberOf_44 : decode cX6_numberOf 44 = .ok (.if_icmp .ne 16, 3) := by decide +kernel
theorem dX6_numberOf_47 : decode cX6_numberOf 47 = .ok (.aload_n 0, 1) := by decide +kernel
theorem dX6_numberOf_48 : decode cX6_numberOf 48 = .ok (.getfield 10, 3) := by decide +kernel
theorem dX6_numberOf_51 : decode cX6_numberOf 51 = .ok (.getfield 78, 3) := by decide +kernel
theorem dX6_numberOf_54 : decode cX6_numberOf 54 = .ok (.getfield 192, 3) := by decide +kernel
theorem dX6_numberOf_57 : decode cX6_numberOf 57 = .ok (.iload_n 1, 1) := by decide +kernel
theorem dX6_numberOf_58 : decode cX6_numberOf 58 = .ok (.iaload, 1) := by decide +kernel
theorem dX6_numberOf_59 : decode cX6_numberOf 59 = .ok (.ireturn, 1) := by decide +kernel
theorem dX6_numberOf_60 : decode cX6_numberOf 60 = .ok (.aload_n 0, 1) := by decide +kernel
theorem dX6_numberOf_61 : decode cX6_numberOf 61 = .ok (.getfield 10, 3) := by decide +kernel
theorem dX6_numberOf_64 : decode cX6_numberOf 64 = .ok (.getfield 69, 3) := by decide +kernel
theorem dX6_numberOf_67 : decode cX6_numberOf 67 = .ok (.getfield 73, 3) := by decide +kernel
theorem dX6_numberOf_70 : decode cX6_numberOf 70 = .ok (.iload_n 1, 1) := by decide +kernel
theorem dX6_numberOf_71 : decode cX6_numberOf 71 = .ok (.iaload, 1) := by decide +kernel
theorem dX6_numberOf_72 : decode cX6_numberOf 72 = .ok (.istore_n 3, 1) := by decide +kernel
theorem dX6_numberOf_73 : decode cX6_numberOf 73 = .ok (.iload_n 3, 1) := by decide +kernel
theorem dX6_numberOf_74 : decode cX6_numberOf 74 = .ok (.iconst (-1), 1) := by decide +kernel
theorem dX6_numberOf_75 : decode cX6_numberOf 75 = .ok (.if_icmp .ne 5, 3) := by decide +kernel
theorem dX6_numberOf_78 : decode cX6_numberOf 78 = .ok (.iconst (-1), 1) := by decide +kernel
theorem dX6_numberOf_79 : decode cX6_numberOf 79 = .ok (.ireturn, 1) := by decide +kernel
theorem dX6_numberOf_80 : decode cX6_numberOf 80 = .ok (.iload_n 2, 1) := by decide +kernel
theorem dX6_numberOf_81 : decode cX6_numberOf 81 = .ok (.ifCond .ne 9, 3) := by decide +kernel
theorem dX6_numberOf_84 : decode cX6_numberOf 84 = .ok (.iload_n 3, 1) := by decide +kernel
theorem dX6_numberOf_85 : decode cX6_numberOf 85 = .ok (.iconst 3, 1) := by decide +kernel
theorem dX6_numberOf_86 : decode cX6_numberOf 86 = .ok (.idiv, 1) := by decide +kernel
theorem dX6_numberOf_87 : decode cX6_numberOf 87 = .ok (.goto 6, 3) := by decide +kernel
theorem dX6_numberOf_90 : decode cX6_numberOf 90 = .ok (.iload_n 3, 1) := by decide +kernel
theorem dX6_numberOf_91 : decode cX6_numberOf 91 = .ok (.iconst 3, 1) := by decide +kernel
theorem dX6_numberOf_92 : decode cX6_numberOf 92 = .ok (.irem, 1) := by decide +kernel
theorem dX6_numberOf_93 : decode cX6_numberOf 93 = .ok (.ireturn, 1) := by decide +kernel
theorem dX6_call_0 : decode cX6_call 0 = .ok (.iload_n 1, 1) := by decide +kernel
theorem dX6_call_1 : decode cX6_call 1 = .ok (.ifCond .lt 16, 3) := by decide +kernel
theorem dX6_call_4 : decode cX6_call 4 = .ok (.iload_n 2, 1) := by decide +kernel
theorem dX6_call_5 : decode cX6_call 5 = .ok (.ifCond .eq 8, 3) := by decide +kernel
theorem dX6_call_8 : decode cX6_call 8 = .ok (.iload_n 2, 1) := by decide +kernel
theorem dX6_call_9 : decode cX6_call 9 = .ok (.iconst 1, 1) := by decide +kernel
theorem dX6_call_10 : decode cX6_call 10 = .ok (.if_icmp .ne 7, 3) := by decide +kernel
theorem dX6_call_13 : decode cX6_call 13 = .ok (.iconst 1, 1) := by decide +kernel
theorem dX6_call_14 : decode cX6_call 14 = .ok (.goto 4, 3) := by decide +kernel
theorem dX6_call_17 : decode cX6_call 17 = .ok (.iconst 0, 1) := by decide +kernel
theorem dX6_call_18 : decode cX6_call 18 = .ok (.invokestatic 59, 3) := by decide +kernel
theorem dX6_call_21 : decode cX6_call 21 = .ok (.aload_n 0, 1) := by decide +kernel
theorem dX6_call_22 : decode cX6_call 22 = .ok (.getfield 10, 3) := by decide +kernel
theorem dX6_call_25 : decode cX6_call 25 = .ok (.getfield 78, 3) := by decide +kernel
theorem dX6_call_28 : decode cX6_call 28 = .ok (.astore_n 3, 1) := by decide +kernel
theorem dX6_call_29 : decode cX6_call 29 = .ok (.iload_n 1, 1) := by decide +kernel
theorem dX6_call_30 : decode cX6_call 30 = .ok (.aload_n 3, 1) := by decide +kernel
theorem dX6_call_31 : decode cX6_call 31 = .ok (.getfield 213, 3) := by decide +kernel
theorem dX6_call_34 : decode cX6_call 34 = .ok (.if_icmp .lt 5, 3) := by decide +kernel
theorem dX6_call_37 : decode cX6_call 37 = .ok (.iconst (-1), 1) := by decide +kernel
theorem dX6_call_38 : decode cX6_call 38 = .ok (.ireturn, 1) := by decide +kernel
theorem dX6_call_39 : decode cX6_call 39 = .ok (.aload_n 3, 1) := by decide +kernel
theorem dX6_call_40 : decode cX6_call 40 = .ok (.getfield 213, 3) := by decide +kernel
theorem dX6_call_43 : decode cX6_call 43 = .ok (.iconst 1, 1) := by decide +kernel
theorem dX6_call_44 : decode cX6_call 44 = .ok (.isub, 1) := by decide +kernel
theorem dX6_call_45 : decode cX6_call 45 = .ok (.iload_n 1, 1) := by decide +kernel
theorem dX6_call_46 : decode cX6_call 46 = .ok (.isub, 1) := by decide +kernel
theorem dX6_call_47 : decode cX6_call 47 = .ok (.istore 4, 2) := by decide +kernel
theorem dX6_call_49 : decode cX6_call 49 = .ok (.iload_n 2, 1) := by decide +kernel
theorem dX6_call_50 : decode cX6_call 50 = .ok (.ifCond .ne 13, 3) := by decide +kernel
theorem dX6_call_53 : decode cX6_call 53 = .ok (.aload_n 3, 1) := by decide +kernel
theorem dX6_call_54 : decode cX6_call 54 = .ok (.getfield 216, 3) := by decide +kernel
theorem dX6_call_57 : decode cX6_call 57 = .ok (.iload 4, 2) := by decide +kernel
theorem dX6_call_59 : decode cX6_call 59 = .ok (.iaload, 1) := by decide +kernel
theorem dX6_call_60 : decode cX6_call 60 = .ok (.goto 10, 3) := by decide +kernel
theorem dX6_call_63 : decode cX6_call 63 = .ok (.aload_n 3, 1) := by decide +kernel
theorem dX6_call_64 : decode cX6_call 64 = .ok (.getfield 219, 3) := by decide +kernel
theorem dX6_call_67 : decode cX6_call 67 = .ok (.iload 4, 2) := by decide +kernel
theorem dX6_call_69 : decode cX6_call 69 = .ok (.iaload, 1) := by decide +kernel
theorem dX6_call_70 : decode cX6_call 70 = .ok (.ireturn, 1) := by decide +kernel
theorem dX6_gameOf_0 : decode cX6_gameOf 0 = .ok (.iload_n 1, 1) := by decide +kernel
theorem dX6_gameOf_1 : decode cX6_gameOf 1 = .ok (.invokestatic 130, 3) := by decide +kernel
theorem dX6_gameOf_4 : decode cX6_gameOf 4 = .ok (.invokestatic 52, 3) := by decide +kernel
theorem dX6_gameOf_7 : decode cX6_gameOf 7 = .ok (.iload_n 2, 1) := by decide +kernel
theorem dX6_gameOf_8 : decode cX6_gameOf 8 = .ok (.ifCond .lt 12, 3) := by decide +kernel
theorem dX6_gameOf_11 : decode cX6_gameOf 11 = .ok (.iload_n 2, 1) := by decide +kernel
theorem dX6_gameOf_12 : decode cX6_gameOf 12 = .ok (.iconst 4, 1) := by decide +kernel
theorem dX6_gameOf_13 : decode cX6_gameOf 13 = .ok (.if_icmp .ge 7, 3) := by decide +kernel
theorem dX6_gameOf_16 : decode cX6_gameOf 16 = .ok (.iconst 1, 1) := by decide +kernel
theorem dX6_gameOf_17 : decode cX6_gameOf 17 = .ok (.goto 4, 3) := by decide +kernel
theorem dX6_gameOf_20 : decode cX6_gameOf 20 = .ok (.iconst 0, 1) := by decide +kernel
theorem dX6_gameOf_21 : decode cX6_gameOf 21 = .ok (.invokestatic 59, 3) := by decide +kernel
theorem dX6_gameOf_24 : decode cX6_gameOf 24 = .ok (.iload_n 2, 1) := by decide +kernel
theorem dX6_gameOf_25 : decode cX6_gameOf 25 = .ok (.tableswitch 78 0 2 #[27, 40, 53], 27) := by decide +kernel
theorem dX6_gameOf_52 : decode cX6_gameOf 52 = .ok (.aload_n 0, 1) := by decide +kernel
theorem dX6_gameOf_53 : decode cX6_gameOf 53 = .ok (.getfield 10, 3) := by decide +kernel
theorem dX6_gameOf_56 : decode cX6_gameOf 56 = .ok (.getfield 78, 3) := by decide +kernel
theorem dX6_gameOf_59 : decode cX6_gameOf 59 = .ok (.getfield 222, 3) := by decide +kernel
theorem dX6_gameOf_62 : decode cX6_gameOf 62 = .ok (.iload_n 1, 1) := by decide +kernel
theorem dX6_gameOf_63 : decode cX6_gameOf 63 = .ok (.iaload, 1) := by decide +kernel
theorem dX6_gameOf_64 : decode cX6_gameOf 64 = .ok (.ireturn, 1) := by decide +kernel
theorem dX6_gameOf_65 : decode cX6_gameOf 65 = .ok (.aload_n 0, 1) := by decide +kernel
theorem dX6_gameOf_66 : decode cX6_gameOf 66 = .ok (.getfield 10, 3) := by decide +kernel
theorem dX6_gameOf_69 : decode cX6_gameOf 69 = .ok (.getfield 78, 3) := by decide +kernel
theorem dX6_gameOf_72 : decode cX6_gameOf 72 = .ok (.getfield 225, 3) := by decide +kernel
theorem dX6_gameOf_75 : decode cX6_gameOf 75 = .ok (.iload_n 1, 1) := by decide +kernel
theorem dX6_gameOf_76 : decode cX6_gameOf 76 = .ok (.iaload, 1) := by decide +kernel
theorem dX6_gameOf_77 : decode cX6_gameOf 77 = .ok (.ireturn, 1) := by decide +kernel
theorem dX6_gameOf_78 : decode cX6_gameOf 78 = .ok (.aload_n 0, 1) := by decide +kernel
theorem dX6_gameOf_79 : decode cX6_gameOf 79 = .ok (.getfield 10, 3) := by decide +kernel
theorem dX6_gameOf_82 : decode cX6_gameOf 82 = .ok (.iload_n 1, 1) := by decide +kernel
theorem dX6_gameOf_83 : decode cX6_gameOf 83 = .ok (.invokevirtual 228, 3) := by decide +kernel
theorem dX6_gameOf_86 : decode cX6_gameOf 86 = .ok (.aload_n 0, 1) := by decide +kernel
theorem dX6_gameOf_87 : decode cX6_gameOf 87 = .ok (.getfield 10, 3) := by decide +kernel
theorem dX6_gameOf_90 : decode cX6_gameOf 90 = .ok (.getfield 78, 3) := by decide +kernel
theorem dX6_gameOf_93 : decode cX6_gameOf 93 = .ok (.getfield 222, 3) := by decide +kernel
theorem dX6_gameOf_96 : decode cX6_gameOf 96 = .ok (.iload_n 1, 1) := by decide +kernel
theorem dX6_gameOf_97 : decode cX6_gameOf 97 = .ok (.iaload, 1) := by decide +kernel
theorem dX6_gameOf_98 : decode cX6_gameOf 98 = .ok (.invokestatic 231, 3) := by decide +kernel
theorem dX6_gameOf_101 : decode cX6_gameOf 101 = .ok (.imul, 1) := by decide +kernel
theorem dX6_gameOf_102 : decode cX6_gameOf 102 = .ok (.ireturn, 1) := by decide +kernel
theorem dX6_gameOf_103 : decode cX6_gameOf 103 = .ok (.aload_n 0, 1) := by decide +kernel
theorem dX6_gameOf_104 : decode cX6_gameOf 104 = .ok (.getfield 10, 3) := by decide +kernel
theorem dX6_gameOf_107 : decode cX6_gameOf 107 = .ok (.iload_n 1, 1) := by decide +kernel
theorem dX6_gameOf_108 : decode cX6_gameOf 108 = .ok (.invokevirtual 228, 3) := by decide +kernel
theorem dX6_gameOf_111 : decode cX6_gameOf 111 = .ok (.ireturn, 1) := by decide +kernel
theorem dX6_count_0 : decode cX6_count 0 = .ok (.iload_n 1, 1) := by decide +kernel
theorem dX6_count_1 : decode cX6_count 1 = .ok (.ifCond .lt 13, 3) := by decide +kernel
theorem dX6_count_4 : decode cX6_count 4 = .ok (.iload_n 1, 1) := by decide +kernel
theorem dX6_count_5 : decode cX6_count 5 = .ok (.bipush 15, 2) := by decide +kernel
theorem dX6_count_7 : decode cX6_count 7 = .ok (.if_icmp .ge 7, 3) := by decide +kernel
theorem dX6_count_10 : decode cX6_count 10 = .ok (.iconst 1, 1) := by decide +kernel
theorem dX6_count_11 : decode cX6_count 11 = .ok (.goto 4, 3) := by decide +kernel
theorem dX6_count_14 : decode cX6_count 14 = .ok (.iconst 0, 1) := by decide +kernel
theorem dX6_count_15 : decode cX6_count 15 = .ok (.invokestatic 59, 3) := by decide +kernel
theorem dX6_count_18 : decode cX6_count 18 = .ok (.iload_n 1, 1) := by decide +kernel
theorem dX6_count_19 : decode cX6_count 19 = .ok (.tableswitch 158 0 14 #[73, 84, 95, 158, 158, 158, 158, 109, 123, 134, 158, 158, 158, 145, 153], 73) := by decide +kernel
theorem dX6_count_92 : decode cX6_count 92 = .ok (.aload_n 0, 1) := by decide +kernel
theorem dX6_count_93 : decode cX6_count 93 = .ok (.getfield 10, 3) := by decide +kernel
theorem dX6_count_96 : decode cX6_count 96 = .ok (.getfield 69, 3) := by decide +kernel
theorem dX6_count_99 : decode cX6_count 99 = .ok (.getfield 169, 3) := by decide +kernel
theorem dX6_count_102 : decode cX6_count 102 = .ok (.ireturn, 1) := by decide +kernel
theorem dX6_count_103 : decode cX6_count 103 = .ok (.aload_n 0, 1) := by decide +kernel
theorem dX6_count_104 : decode cX6_count 104 = .ok (.getfield 10, 3) := by decide +kernel
theorem dX6_count_107 : decode cX6_count 107 = .ok (.getfield 69, 3) := by decide +kernel
theorem dX6_count_110 : decode cX6_count 110 = .ok (.invokevirtual 236, 3) := by decide +kernel
theorem dX6_count_113 : decode cX6_count 113 = .ok (.ireturn, 1) := by decide +kernel
theorem dX6_count_114 : decode cX6_count 114 = .ok (.aload_n 0, 1) := by decide +kernel
theorem dX6_count_115 : decode cX6_count 115 = .ok (.getfield 10, 3) := by decide +kernel
theorem dX6_count_118 : decode cX6_count 118 = .ok (.getfield 78, 3) := by decide +kernel
theorem dX6_count_121 : decode cX6_count 121 = .ok (.getfield 239, 3) := by decide +kernel
theorem dX6_count_124 : decode cX6_count 124 = .ok (.invokestatic 231, 3) := by decide +kernel
theorem dX6_count_127 : decode cX6_count 127 = .ok (.ireturn, 1) := by decide +kernel
theorem dX6_count_128 : decode cX6_count 128 = .ok (.aload_n 0, 1) := by decide +kernel
theorem dX6_count_129 : decode cX6_count 129 = .ok (.getfield 10, 3) := by decide +kernel
theorem dX6_count_132 : decode cX6_count 132 = .ok (.getfield 78, 3) := by decide +kernel
theorem dX6_count_135 : decode cX6_count 135 = .ok (.getfield 121, 3) := by decide +kernel
theorem dX6_count_138 : decode cX6_count 138 = .ok (.getfield 124, 3) := by decide +kernel
theorem dX6_count_141 : decode cX6_count 141 = .ok (.ireturn, 1) := by decide +kernel
theorem dX6_count_142 : decode cX6_count 142 = .ok (.aload_n 0, 1) := by decide +kernel
theorem dX6_count_143 : decode cX6_count 143 = .ok (.getfield 10, 3) := by decide +kernel
theorem dX6_count_146 : decode cX6_count 146 = .ok (.getfield 78, 3) := by decide +kernel
theorem dX6_count_149 : decode cX6_count 149 = .ok (.getfield 213, 3) := by decide +kernel
theorem dX6_count_152 : decode cX6_count 152 = .ok (.ireturn, 1) := by decide +kernel
theorem dX6_count_153 : decode cX6_count 153 = .ok (.aload_n 0, 1) := by decide +kernel
theorem dX6_count_154 : decode cX6_count 154 = .ok (.getfield 10, 3) := by decide +kernel
theorem dX6_count_157 : decode cX6_count 157 = .ok (.getfield 78, 3) := by decide +kernel
theorem dX6_count_160 : decode cX6_count 160 = .ok (.getfield 242, 3) := by decide +kernel
theorem dX6_count_163 : decode cX6_count 163 = .ok (.ireturn, 1) := by decide +kernel
theorem dX6_count_164 : decode cX6_count 164 = .ok (.aload_n 0, 1) := by decide +kernel
theorem dX6_count_165 : decode cX6_count 165 = .ok (.getfield 10, 3) := by decide +kernel
theorem dX6_count_168 : decode cX6_count 168 = .ok (.getfield 105, 3) := by decide +kernel
theorem dX6_count_171 : decode cX6_count 171 = .ok (.ireturn, 1) := by decide +kernel
theorem dX6_count_172 : decode cX6_count 172 = .ok (.aload_n 0, 1) := by decide +kernel
theorem dX6_count_173 : decode cX6_count 173 = .ok (.getfield 170, 3) := by decide +kernel
theorem dX6_count_176 : decode cX6_count 176 = .ok (.ireturn, 1) := by decide +kernel
theorem dX6_count_177 : decode cX6_count 177 = .ok (.aload_n 0, 1) := by decide +kernel
theorem dX6_count_178 : decode cX6_count 178 = .ok (.getfield 10, 3) := by decide +kernel
theorem dX6_count_181 : decode cX6_count 181 = .ok (.getfield 201, 3) := by decide +kernel
theorem dX6_count_184 : decode cX6_count 184 = .ok (.iload_n 1, 1) := by decide +kernel
theorem dX6_count_185 : decode cX6_count 185 = .ok (.invokevirtual 245, 3) := by decide +kernel
theorem dX6_count_188 : decode cX6_count 188 = .ok (.ireturn, 1) := by decide +kernel
theorem dX6_setting_0 : decode cX6_setting 0 = .ok (.iload_n 1, 1) := by decide +kernel
theorem dX6_setting_1 : decode cX6_setting 1 = .ok (.invokestatic 109, 3) := by decide +kernel
theorem dX6_setting_4 : decode cX6_setting 4 = .ok (.invokestatic 52, 3) := by decide +kernel
theorem dX6_setting_7 : decode cX6_setting 7 = .ok (.aload_n 0, 1) := by decide +kernel
theorem dX6_setting_8 : decode cX6_setting 8 = .ok (.getfield 10, 3) := by decide +kernel
theorem dX6_setting_11 : decode cX6_setting 11 = .ok (.getfield 118, 3) := by decide +kernel
theorem dX6_setting_14 : decode cX6_setting 14 = .ok (.iload_n 1, 1) := by decide +kernel
theorem dX6_setting_15 : decode cX6_setting 15 = .ok (.iaload, 1) := by decide +kernel
theorem dX6_setting_16 : decode cX6_setting 16 = .ok (.ireturn, 1) := by decide +kernel
theorem dX6_whyNot_0 : decode cX6_whyNot 0 = .ok (.iload_n 1, 1) := by decide +kernel
theorem dX6_whyNot_1 : decode cX6_whyNot 1 = .ok (.invokestatic 45, 3) := by decide +kernel
theorem dX6_whyNot_4 : decode cX6_whyNot 4 = .ok (.ifCond .eq 14, 3) := by decide +kernel
theorem dX6_whyNot_7 : decode cX6_whyNot 7 = .ok (.iload_n 2, 1) := by decide +kernel
theorem dX6_whyNot_8 : decode cX6_whyNot 8 = .ok (.invokestatic 49, 3) := by decide +kernel
theorem dX6_whyNot_11 : decode cX6_whyNot 11 = .ok (.ifCond .eq 7, 3) := by decide +kernel
theorem dX6_whyNot_14 : decode cX6_whyNot 14 = .ok (.iconst 1, 1) := by decide +kernel
theorem dX6_whyNot_15 : decode cX6_whyNot 15 = .ok (.goto 4, 3) := by decide +kernel
theorem dX6_whyNot_18 : decode cX6_whyNot 18 = .ok (.iconst 0, 1) := by decide +kernel
theorem dX6_whyNot_19 : decode cX6_whyNot 19 = .ok (.invokestatic 52, 3) := by decide +kernel
theorem dX6_whyNot_22 : decode cX6_whyNot 22 = .ok (.iload_n 3, 1) := by decide +kernel
theorem dX6_whyNot_23 : decode cX6_whyNot 23 = .ok (.invokestatic 56, 3) := by decide +kernel
theorem dX6_whyNot_26 : decode cX6_whyNot 26 = .ok (.invokestatic 59, 3) := by decide +kernel
theorem dX6_whyNot_29 : decode cX6_whyNot 29 = .ok (.aload_n 0, 1) := by decide +kernel
theorem dX6_whyNot_30 : decode cX6_whyNot 30 = .ok (.getfield 10, 3) := by decide +kernel
theorem dX6_whyNot_33 : decode cX6_whyNot 33 = .ok (.iload_n 1, 1) := by decide +kernel
theorem dX6_whyNot_34 : decode cX6_whyNot 34 = .ok (.iconst 3, 1) := by decide +kernel
theorem dX6_whyNot_35 : decode cX6_whyNot 35 = .ok (.imul, 1) := by decide +kernel
theorem dX6_whyNot_36 : decode cX6_whyNot 36 = .ok (.iload_n 2, 1) := by decide +kernel
theorem dX6_whyNot_37 : decode cX6_whyNot 37 = .ok (.iadd, 1) := by decide +kernel
theorem dX6_whyNot_38 : decode cX6_whyNot 38 = .ok (.iload_n 3, 1) := by decide +kernel
theorem dX6_whyNot_39 : decode cX6_whyNot 39 = .ok (.invokevirtual 248, 3) := by decide +kernel
theorem dX6_whyNot_42 : decode cX6_whyNot 42 = .ok (.ireturn, 1) := by decide +kernel
theorem dX6_ifClaimed_0 : decode cX6_ifClaimed 0 = .ok (.iload_n 1, 1) := by decide +kernel
theorem dX6_ifClaimed_1 : decode cX6_ifClaimed 1 = .ok (.invokestatic 45, 3) := by decide +kernel
theorem dX6_ifClaimed_4 : decode cX6_ifClaimed 4 = .ok (.ifCond .eq 14, 3) := by decide +kernel
theorem dX6_ifClaimed_7 : decode cX6_ifClaimed 7 = .ok (.iload_n 2, 1) := by decide +kernel
theorem dX6_ifClaimed_8 : decode cX6_ifClaimed 8 = .ok (.invokestatic 130, 3) := by decide +kernel
theorem dX6_ifClaimed_11 : decode cX6_ifClaimed 11 = .ok (.ifCond .eq 7, 3) := by decide +kernel
theorem dX6_ifClaimed_14 : decode cX6_ifClaimed 14 = .ok (.iconst 1, 1) := by decide +kernel
theorem dX6_ifClaimed_15 : decode cX6_ifClaimed 15 = .ok (.goto 4, 3) := by decide +kernel
theorem dX6_ifClaimed_18 : decode cX6_ifClaimed 18 = .ok (.iconst 0, 1) := by decide +kernel
theorem dX6_ifClaimed_19 : decode cX6_ifClaimed 19 = .ok (.invokestatic 52, 3) := by decide +kernel
theorem dX6_ifClaimed_22 : decode cX6_ifClaimed 22 = .ok (.aload_n 0, 1) := by decide +kernel
theorem dX6_ifClaimed_23 : decode cX6_ifClaimed 23 = .ok (.getfield 10, 3) := by decide +kernel
theorem dX6_ifClaimed_26 : decode cX6_ifClaimed 26 = .ok (.getfield 78, 3) := by decide +kernel
theorem dX6_ifClaimed_29 : decode cX6_ifClaimed 29 = .ok (.iload_n 1, 1) := by decide +kernel
theorem dX6_ifClaimed_30 : decode cX6_ifClaimed 30 = .ok (.invokevirtual 82, 3) := by decide +kernel
theorem dX6_ifClaimed_33 : decode cX6_ifClaimed 33 = .ok (.ifCond .eq 15, 3) := by decide +kernel
theorem dX6_ifClaimed_36 : decode cX6_ifClaimed 36 = .ok (.aload_n 0, 1) := by decide +kernel
theorem dX6_ifClaimed_37 : decode cX6_ifClaimed 37 = .ok (.getfield 10, 3) := by decide +kernel
theorem dX6_ifClaimed_40 : decode cX6_ifClaimed 40 = .ok (.iload_n 1, 1) := by decide +kernel
theorem dX6_ifClaimed_41 : decode cX6_ifClaimed 41 = .ok (.iload_n 2, 1) := by decide +kernel
theorem dX6_ifClaimed_42 : decode cX6_ifClaimed 42 = .ok (.invokevirtual 251, 3) := by decide +kernel
theorem dX6_ifClaimed_45 : decode cX6_ifClaimed 45 = .ok (.goto 4, 3) := by decide +kernel
theorem dX6_ifClaimed_48 : decode cX6_ifClaimed 48 = .ok (.iconst (-1), 1) := by decide +kernel
theorem dX6_ifClaimed_49 : decode cX6_ifClaimed 49 = .ok (.ireturn, 1) := by decide +kernel
theorem dX6_missing_0 : decode cX6_missing 0 = .ok (.iload_n 1, 1) := by decide +kernel
theorem dX6_missing_1 : decode cX6_missing 1 = .ok (.invokestatic 45, 3) := by decide +kernel
theorem dX6_missing_4 : decode cX6_missing 4 = .ok (.ifCond .eq 14, 3) := by decide +kernel
theorem dX6_missing_7 : decode cX6_missing 7 = .ok (.iload_n 2, 1) := by decide +kernel
theorem dX6_missing_8 : decode cX6_missing 8 = .ok (.invokestatic 130, 3) := by decide +kernel
theorem dX6_missing_11 : decode cX6_missing 11 = .ok (.ifCond .eq 7, 3) := by decide +kernel
theorem dX6_missing_14 : decode cX6_missing 14 = .ok (.iconst 1, 1) := by decide +kernel
theorem dX6_missing_15 : decode cX6_missing 15 = .ok (.goto 4, 3) := by decide +kernel
theorem dX6_missing_18 : decode cX6_missing 18 = .ok (.iconst 0, 1) := by decide +kernel
theorem dX6_missing_19 : decode cX6_missing 19 = .ok (.invokestatic 52, 3) := by decide +kernel
theorem dX6_missing_22 : decode cX6_missing 22 = .ok (.iload_n 3, 1) := by decide +kernel
theorem dX6_missing_23 : decode cX6_missing 23 = .ok (.ifCond .eq 8, 3) := by decide +kernel
theorem dX6_missing_26 : decode cX6_missing 26 = .ok (.iload_n 3, 1) := by decide +kernel
theorem dX6_missing_27 : decode cX6_missing 27 = .ok (.iconst 1, 1) := by decide +kernel
theorem dX6_missing_28 : decode cX6_missing 28 = .ok (.if_icmp .ne 7, 3) := by decide +kernel
theorem dX6_missing_31 : decode cX6_missing 31 = .ok (.iconst 1, 1) := by decide +kernel
theorem dX6_missing_32 : decode cX6_missing 32 = .ok (.goto 4, 3) := by decide +kernel
theorem dX6_missing_35 : decode cX6_missing 35 = .ok (.iconst 0, 1) := by decide +kernel
theorem dX6_missing_36 : decode cX6_missing 36 = .ok (.invokestatic 59, 3) := by decide +kernel
theorem dX6_missing_39 : decode cX6_missing 39 = .ok (.aload_n 0, 1) := by decide +kernel
theorem dX6_missing_40 : decode cX6_missing 40 = .ok (.getfield 10, 3) := by decide +kernel
theorem dX6_missing_43 : decode cX6_missing 43 = .ok (.getfield 69, 3) := by decide +kernel
theorem dX6_missing_46 : decode cX6_missing 46 = .ok (.astore 4, 2) := by decide +kernel
theorem dX6_missing_48 : decode cX6_missing 48 = .ok (.aload 4, 2) := by decide +kernel
theorem dX6_missing_50 : decode cX6_missing 50 = .ok (.iload_n 1, 1) := by decide +kernel
theorem dX6_missing_51 : decode cX6_missing 51 = .ok (.invokevirtual 182, 3) := by decide +kernel
theorem dX6_missing_54 : decode cX6_missing 54 = .ok (.ifCond .ne 5, 3) := by decide +kernel
theorem dX6_missing_57 : decode cX6_missing 57 = .ok (.iconst (-1), 1) := by decide +kernel
theorem dX6_missing_58 : decode cX6_missing 58 = .ok (.ireturn, 1) := by decide +kernel
theorem dX6_missing_59 : decode cX6_missing 59 = .ok (.aload 4, 2) := by decide +kernel
theorem dX6_missing_61 : decode cX6_missing 61 = .ok (.iload_n 1, 1) := by decide +kernel
theorem dX6_missing_62 : decode cX6_missing 62 = .ok (.iload_n 2, 1) := by decide +kernel
theorem dX6_missing_63 : decode cX6_missing 63 = .ok (.aload_n 0, 1) := by decide +kernel
theorem dX6_missing_64 : decode cX6_missing 64 = .ok (.getfield 10, 3) := by decide +kernel
theorem dX6_missing_67 : decode cX6_missing 67 = .ok (.getfield 78, 3) := by decide +kernel
theorem dX6_missing_70 : decode cX6_missing 70 = .ok (.getfield 185, 3) := by decide +kernel
theorem dX6_missing_73 : decode cX6_missing 73 = .ok (.invokevirtual 254, 3) := by decide +kernel
theorem dX6_missing_76 : decode cX6_missing 76 = .ok (.istore 5, 2) := by decide +kernel
theorem dX6_missing_78 : decode cX6_missing 78 = .ok (.iload_n 3, 1) := by decide +kernel
theorem dX6_missing_79 : decode cX6_missing 79 = .ok (.ifCond .ne 6, 3) := by decide +kernel
theorem dX6_missing_82 : decode cX6_missing 82 = .ok (.iload 5, 2) := by decide +kernel
theorem dX6_missing_84 : decode cX6_missing 84 = .ok (.ireturn, 1) := by decide +kernel
theorem dX6_missing_85 : decode cX6_missing 85 = .ok (.iload 5, 2) := by decide +kernel
theorem dX6_missing_87 : decode cX6_missing 87 = .ok (.iconst 1, 1) := by decide +kernel
theorem dX6_missing_88 : decode cX6_missing 88 = .ok (.if_icmp .ne 23, 3) := by decide +kernel
theorem dX6_missing_91 : decode cX6_missing 91 = .ok (.aload 4, 2) := by decide +kernel
theorem dX6_missing_93 : decode cX6_missing 93 = .ok (.iload_n 1, 1) := by decide +kernel
theorem dX6_missing_94 : decode cX6_missing 94 = .ok (.iload_n 2, 1) := by decide +kernel
theorem dX6_missing_95 : decode cX6_missing 95 = .ok (.aload_n 0, 1) := by decide +kernel
theorem dX6_missing_96 : decode cX6_missing 96 = .ok (.getfield 10, 3) := by decide +kernel
theorem dX6_missing_99 : decode cX6_missing 99 = .ok (.getfield 78, 3) := by decide +kernel
theorem dX6_missing_102 : decode cX6_missing 102 = .ok (.getfield 185, 3) := by decide +kernel
theorem dX6_missing_105 : decode cX6_missing 105 = .ok (.invokevirtual 258, 3) := by decide +kernel
theorem dX6_missing_108 : decode cX6_missing 108 = .ok (.goto 4, 3) := by decide +kernel
theorem dX6_missing_111 : decode cX6_missing 111 = .ok (.iconst (-1), 1) := by decide +kernel
theorem dX6_missing_112 : decode cX6_missing 112 = .ok (.ireturn, 1) := by decide +kernel
theorem dX6_fullAt_0 : decode cX6_fullAt 0 = .ok (.iload_n 1, 1) := by decide +kernel
theorem dX6_fullAt_1 : decode cX6_fullAt 1 = .ok (.invokestatic 45, 3) := by decide +kernel
theorem dX6_fullAt_4 : decode cX6_fullAt 4 = .ok (.invokestatic 52, 3) := by decide +kernel
theorem dX6_fullAt_7 : decode cX6_fullAt 7 = .ok (.iload_n 2, 1) := by decide +kernel
theorem dX6_fullAt_8 : decode cX6_fullAt 8 = .ok (.ifCond .eq 8, 3) := by decide +kernel
theorem dX6_fullAt_11 : decode cX6_fullAt 11 = .ok (.iload_n 2, 1) := by decide +kernel
theorem dX6_fullAt_12 : decode cX6_fullAt 12 = .ok (.iconst 1, 1) := by decide +kernel
theorem dX6_fullAt_13 : decode cX6_fullAt 13 = .ok (.if_icmp .ne 7, 3) := by decide +kernel
theorem dX6_fullAt_16 : decode cX6_fullAt 16 = .ok (.iconst 1, 1) := by decide +kernel
theorem dX6_fullAt_17 : decode cX6_fullAt 17 = .ok (.goto 4, 3) := by decide +kernel
theorem dX6_fullAt_20 : decode cX6_fullAt 20 = .ok (.iconst 0, 1) := by decide +kernel
theorem dX6_fullAt_21 : decode cX6_fullAt 21 = .ok (.invokestatic 59, 3) := by decide +kernel
theorem dX6_fullAt_24 : decode cX6_fullAt 24 = .ok (.aload_n 0, 1) := by decide +kernel
theorem dX6_fullAt_25 : decode cX6_fullAt 25 = .ok (.getfield 10, 3) := by decide +kernel
theorem dX6_fullAt_28 : decode cX6_fullAt 28 = .ok (.getfield 69, 3) := by decide +kernel
theorem dX6_fullAt_31 : decode cX6_fullAt 31 = .ok (.iload_n 1, 1) := by decide +kernel
theorem dX6_fullAt_32 : decode cX6_fullAt 32 = .ok (.invokevirtual 182, 3) := by decide +kernel
theorem dX6_fullAt_35 : decode cX6_fullAt 35 = .ok (.ifCond .ne 5, 3) := by decide +kernel
theorem dX6_fullAt_38 : decode cX6_fullAt 38 = .ok (.iconst (-1), 1) := by decide +kernel
theorem dX6_fullAt_39 : decode cX6_fullAt 39 = .ok (.ireturn, 1) := by decide +kernel
theorem dX6_fullAt_40 : decode cX6_fullAt 40 = .ok (.iload_n 2, 1) := by decide +kernel
theorem dX6_fullAt_41 : decode cX6_fullAt 41 = .ok (.ifCond .ne 9, 3) := by decide +kernel
theorem dX6_fullAt_44 : decode cX6_fullAt 44 = .ok (.aload_n 0, 1) := by decide +kernel
theorem dX6_fullAt_45 : decode cX6_fullAt 45 = .ok (.iload_n 1, 1) := by decide +kernel
theorem dX6_fullAt_46 : decode cX6_fullAt 46 = .ok (.invokevirtual 261, 3) := by decide +kernel
theorem dX6_fullAt_49 : decode cX6_fullAt 49 = .ok (.ireturn, 1) := by decide +kernel
theorem dX6_fullAt_50 : decode cX6_fullAt 50 = .ok (.aload_n 0, 1) := by decide +kernel
theorem dX6_fullAt_51 : decode cX6_fullAt 51 = .ok (.invokevirtual 264, 3) := by decide +kernel
theorem dX6_fullAt_54 : decode cX6_fullAt 54 = .ok (.aload_n 0, 1) := by decide +kernel
theorem dX6_fullAt_55 : decode cX6_fullAt 55 = .ok (.iload_n 1, 1) := by decide +kernel
theorem dX6_fullAt_56 : decode cX6_fullAt 56 = .ok (.invokevirtual 267, 3) := by decide +kernel
theorem dX6_fullAt_59 : decode cX6_fullAt 59 = .ok (.ireturn, 1) := by decide +kernel
theorem dX6_firstFull_0 : decode cX6_firstFull 0 = .ok (.aload_n 0, 1) := by decide +kernel
theorem dX6_firstFull_1 : decode cX6_firstFull 1 = .ok (.invokevirtual 264, 3) := by decide +kernel
theorem dX6_firstFull_4 : decode cX6_firstFull 4 = .ok (.iconst (-1), 1) := by decide +kernel
theorem dX6_firstFull_5 : decode cX6_firstFull 5 = .ok (.istore_n 1, 1) := by decide +kernel
theorem dX6_firstFull_6 : decode cX6_firstFull 6 = .ok (.bipush 91, 2) := by decide +kernel
theorem dX6_firstFull_8 : decode cX6_firstFull 8 = .ok (.istore_n 2, 1) := by decide +kernel
theorem dX6_firstFull_9 : decode cX6_firstFull 9 = .ok (.iconst 0, 1) := by decide +kernel
theorem dX6_firstFull_10 : decode cX6_firstFull 10 = .ok (.istore_n 3, 1) := by decide +kernel
theorem dX6_firstFull_11 : decode cX6_firstFull 11 = .ok (.iload_n 3, 1) := by decide +kernel
theorem dX6_firstFull_12 : decode cX6_firstFull 12 = .ok (.bipush 6, 2) := by decide +kernel
theorem dX6_firstFull_14 : decode cX6_firstFull 14 = .ok (.if_icmp .ge 51, 3) := by decide +kernel
theorem dX6_firstFull_17 : decode cX6_firstFull 17 = .ok (.aload_n 0, 1) := by decide +kernel
theorem dX6_firstFull_18 : decode cX6_firstFull 18 = .ok (.getfield 10, 3) := by decide +kernel
theorem dX6_firstFull_21 : decode cX6_firstFull 21 = .ok (.getfield 69, 3) := by decide +kernel
theorem dX6_firstFull_24 : decode cX6_firstFull 24 = .ok (.iload_n 3, 1) := by decide +kernel
theorem dX6_firstFull_25 : decode cX6_firstFull 25 = .ok (.invokevirtual 182, 3) := by decide +kernel
theorem dX6_firstFull_28 : decode cX6_firstFull 28 = .ok (.ifCond .eq 11, 3) := by decide +kernel
theorem dX6_firstFull_31 : decode cX6_firstFull 31 = .ok (.aload_n 0, 1) := by decide +kernel
theorem dX6_firstFull_32 : decode cX6_firstFull 32 = .ok (.iload_n 3, 1) := by decide +kernel
theorem dX6_firstFull_33 : decode cX6_firstFull 33 = .ok (.invokevirtual 267, 3) := by decide +kernel
theorem dX6_firstFull_36 : decode cX6_firstFull 36 = .ok (.goto 4, 3) := by decide +kernel
theorem dX6_firstFull_39 : decode cX6_firstFull 39 = .ok (.iconst (-1), 1) := by decide +kernel
theorem dX6_firstFull_40 : decode cX6_firstFull 40 = .ok (.istore 4, 2) := by decide +kernel
theorem dX6_firstFull_42 : decode cX6_firstFull 42 = .ok (.iload 4, 2) := by decide +kernel
theorem dX6_firstFull_44 : decode cX6_firstFull 44 = .ok (.iconst (-1), 1) := by decide +kernel
theorem dX6_firstFull_45 : decode cX6_firstFull 45 = .ok (.if_icmp .eq 14, 3) := by decide +kernel
theorem dX6_firstFull_48 : decode cX6_firstFull 48 = .ok (.iload 4, 2) := by decide +kernel
theorem dX6_firstFull_50 : decode cX6_firstFull 50 = .ok (.iload_n 2, 1) := by decide +kernel
theorem dX6_firstFull_51 : decode cX6_firstFull 51 = .ok (.if_icmp .ge 8, 3) := by decide +kernel
theorem dX6_firstFull_54 : decode cX6_firstFull 54 = .ok (.iload 4, 2) := by decide +kernel
theorem dX6_firstFull_56 : decode cX6_firstFull 56 = .ok (.istore_n 2, 1) := by decide +kernel
theorem dX6_firstFull_57 : decode cX6_firstFull 57 = .ok (.iload_n 3, 1) := by decide +kernel
theorem dX6_firstFull_58 : decode cX6_firstFull 58 = .ok (.istore_n 1, 1) := by decide +kernel
theorem dX6_firstFull_59 : decode cX6_firstFull 59 = .ok (.iinc 3 1, 3) := by decide +kernel
theorem dX6_firstFull_62 : decode cX6_firstFull 62 = .ok (.goto (-51), 3) := by decide +kernel
theorem dX6_firstFull_65 : decode cX6_firstFull 65 = .ok (.iload_n 1, 1) := by decide +kernel
theorem dX6_firstFull_66 : decode cX6_firstFull 66 = .ok (.ireturn, 1) := by decide +kernel
theorem dX6_next_0 : decode cX6_next 0 = .ok (.iload_n 1, 1) := by decide +kernel
theorem dX6_next_1 : decode cX6_next 1 = .ok (.iconst 1, 1) := by decide +kernel
theorem dX6_next_2 : decode cX6_next 2 = .ok (.if_icmp .lt 13, 3) := by decide +kernel
theorem dX6_next_5 : decode cX6_next 5 = .ok (.iload_n 1, 1) := by decide +kernel
theorem dX6_next_6 : decode cX6_next 6 = .ok (.bipush 90, 2) := by decide +kernel
theorem dX6_next_8 : decode cX6_next 8 = .ok (.if_icmp .gt 7, 3) := by decide +kernel
theorem dX6_next_11 : decode cX6_next 11 = .ok (.iconst 1, 1) := by decide +kernel
theorem dX6_next_12 : decode cX6_next 12 = .ok (.goto 4, 3) := by decide +kernel
theorem dX6_next_15 : decode cX6_next 15 = .ok (.iconst 0, 1) := by decide +kernel
theorem dX6_next_16 : decode cX6_next 16 = .ok (.invokestatic 59, 3) := by decide +kernel
theorem dX6_next_19 : decode cX6_next 19 = .ok (.iload_n 1, 1) := by decide +kernel
theorem dX6_next_20 : decode cX6_next 20 = .ok (.aload_n 0, 1) := by decide +kernel
theorem dX6_next_21 : decode cX6_next 21 = .ok (.getfield 10, 3) := by decide +kernel
theorem dX6_next_24 : decode cX6_next 24 = .ok (.getfield 78, 3) := by decide +kernel
theorem dX6_next_27 : decode cX6_next 27 = .ok (.getfield 121, 3) := by decide +kernel
theorem dX6_next_30 : decode cX6_next 30 = .ok (.getfield 124, 3) := by decide +kernel
theorem dX6_next_33 : decode cX6_next 33 = .ok (.if_icmp .le 5, 3) := by decide +kernel
theorem dX6_next_36 : decode cX6_next 36 = .ok (.iconst (-1), 1) := by decide +kernel
theorem dX6_next_37 : decode cX6_next 37 = .ok (.ireturn, 1) := by decide +kernel
theorem dX6_next_38 : decode cX6_next 38 = .ok (.aload_n 0, 1) := by decide +kernel
theorem dX6_next_39 : decode cX6_next 39 = .ok (.getfield 37, 3) := by decide +kernel
theorem dX6_next_42 : decode cX6_next 42 = .ok (.aload_n 0, 1) := by decide +kernel
theorem dX6_next_43 : decode cX6_next 43 = .ok (.getfield 10, 3) := by decide +kernel
theorem dX6_next_46 : decode cX6_next 46 = .ok (.getfield 78, 3) := by decide +kernel
theorem dX6_next_49 : decode cX6_next 49 = .ok (.getfield 121, 3) := by decide +kernel
theorem dX6_next_52 : decode cX6_next 52 = .ok (.invokevirtual 270, 3) := by decide +kernel
theorem dX6_next_55 : decode cX6_next 55 = .ok (.aload_n 0, 1) := by decide +kernel
theorem dX6_next_56 : decode cX6_next 56 = .ok (.getfield 10, 3) := by decide +kernel
theorem dX6_next_59 : decode cX6_next 59 = .ok (.getfield 105, 3) := by decide +kernel
theorem dX6_next_62 : decode cX6_next 62 = .ok (.istore_n 2, 1) := by decide +kernel
theorem dX6_next_63 : decode cX6_next 63 = .ok (.iconst (-1), 1) := by decide +kernel
theorem dX6_next_64 : decode cX6_next 64 = .ok (.istore_n 3, 1) := by decide +kernel
theorem dX6_next_65 : decode cX6_next 65 = .ok (.iconst 0, 1) := by decide +kernel
theorem dX6_next_66 : decode cX6_next 66 = .ok (.istore 4, 2) := by decide +kernel
theorem dX6_next_68 : decode cX6_next 68 = .ok (.iload 4, 2) := by decide +kernel
theorem dX6_next_70 : decode cX6_next 70 = .ok (.iload_n 1, 1) := by decide +kernel
theorem dX6_next_71 : decode cX6_next 71 = .ok (.if_icmp .ge 23, 3) := by decide +kernel
theorem dX6_next_74 : decode cX6_next 74 = .ok (.iload_n 2, 1) := by decide +kernel
theorem dX6_next_75 : decode cX6_next 75 = .ok (.invokestatic 273, 3) := by decide +kernel
theorem dX6_next_78 : decode cX6_next 78 = .ok (.istore_n 2, 1) := by decide +kernel
theorem dX6_next_79 : decode cX6_next 79 = .ok (.aload_n 0, 1) := by decide +kernel
theorem dX6_next_80 : decode cX6_next 80 = .ok (.getfield 37, 3) := by decide +kernel
theorem dX6_next_83 : decode cX6_next 83 = .ok (.iload_n 2, 1) := by decide +kernel
theorem dX6_next_84 : decode cX6_next 84 = .ok (.invokevirtual 276, 3) := by decide +kernel
theorem dX6_next_87 : decode cX6_next 87 = .ok (.istore_n 3, 1) := by decide +kernel
theorem dX6_next_88 : decode cX6_next 88 = .ok (.iinc 4 1, 3) := by decide +kernel
theorem dX6_next_91 : decode cX6_next 91 = .ok (.goto (-23), 3) := by decide +kernel
theorem dX6_next_94 : decode cX6_next 94 = .ok (.iload_n 3, 1) := by decide +kernel
theorem dX6_next_95 : decode cX6_next 95 = .ok (.ireturn, 1) := by decide +kernel
theorem dX6_drawnShare_0 : decode cX6_drawnShare 0 = .ok (.aload_n 0, 1) := by decide +kernel
theorem dX6_drawnShare_1 : decode cX6_drawnShare 1 = .ok (.getfield 10, 3) := by decide +kernel
theorem dX6_drawnShare_4 : decode cX6_drawnShare 4 = .ok (.getfield 69, 3) := by decide +kernel
theorem dX6_drawnShare_7 : decode cX6_drawnShare 7 = .ok (.getfield 169, 3) := by decide +kernel
theorem dX6_drawnShare_10 : decode cX6_drawnShare 10 = .ok (.istore_n 1, 1) := by decide +kernel
theorem dX6_drawnShare_11 : decode cX6_drawnShare 11 = .ok (.iload_n 1, 1) := by decide +kernel
theorem dX6_drawnShare_12 : decode cX6_drawnShare 12 = .ok (.ifCond .ne 5, 3) := by decide +kernel
theorem dX6_drawnShare_15 : decode cX6_drawnShare 15 = .ok (.dconst 0, 1) := by decide +kernel
theorem dX6_drawnShare_16 : decode cX6_drawnShare 16 = .ok (.dreturn, 1) := by decide +kernel
theorem dX6_drawnShare_17 : decode cX6_drawnShare 17 = .ok (.iconst 0, 1) := by decide +kernel
theorem dX6_drawnShare_18 : decode cX6_drawnShare 18 = .ok (.istore_n 2, 1) := by decide +kernel
theorem dX6_drawnShare_19 : decode cX6_drawnShare 19 = .ok (.iconst 0, 1) := by decide +kernel
theorem dX6_drawnShare_20 : decode cX6_drawnShare 20 = .ok (.istore_n 3, 1) := by decide +kernel
theorem dX6_drawnShare_21 : decode cX6_drawnShare 21 = .ok (.iload_n 3, 1) := by decide +kernel
theorem dX6_drawnShare_22 : decode cX6_drawnShare 22 = .ok (.bipush 6, 2) := by decide +kernel
theorem dX6_drawnShare_24 : decode cX6_drawnShare 24 = .ok (.if_icmp .ge 33, 3) := by decide +kernel
theorem dX6_drawnShare_27 : decode cX6_drawnShare 27 = .ok (.iload_n 2, 1) := by decide +kernel
theorem dX6_drawnShare_28 : decode cX6_drawnShare 28 = .ok (.aload_n 0, 1) := by decide +kernel
theorem dX6_drawnShare_29 : decode cX6_drawnShare 29 = .ok (.getfield 10, 3) := by decide +kernel
theorem dX6_drawnShare_32 : decode cX6_drawnShare 32 = .ok (.getfield 69, 3) := by decide +kernel
theorem dX6_drawnShare_35 : decode cX6_drawnShare 35 = .ok (.iload_n 3, 1) := by decide +kernel
theorem dX6_drawnShare_36 : decode cX6_drawnShare 36 = .ok (.aload_n 0, 1) := by decide +kernel
theorem dX6_drawnShare_37 : decode cX6_drawnShare 37 = .ok (.getfield 10, 3) := by decide +kernel
theorem dX6_drawnShare_40 : decode cX6_drawnShare 40 = .ok (.getfield 78, 3) := by decide +kernel
theorem dX6_drawnShare_43 : decode cX6_drawnShare 43 = .ok (.getfield 185, 3) := by decide +kernel
theorem dX6_drawnShare_46 : decode cX6_drawnShare 46 = .ok (.invokevirtual 188, 3) := by decide +kernel
theorem dX6_drawnShare_49 : decode cX6_drawnShare 49 = .ok (.iadd, 1) := by decide +kernel
theorem dX6_drawnShare_50 : decode cX6_drawnShare 50 = .ok (.istore_n 2, 1) := by decide +kernel
theorem dX6_drawnShare_51 : decode cX6_drawnShare 51 = .ok (.iinc 3 1, 3) := by decide +kernel
theorem dX6_drawnShare_54 : decode cX6_drawnShare 54 = .ok (.goto (-33), 3) := by decide +kernel
theorem dX6_drawnShare_57 : decode cX6_drawnShare 57 = .ok (.iload_n 2, 1) := by decide +kernel
theorem dX6_drawnShare_58 : decode cX6_drawnShare 58 = .ok (.i2d, 1) := by decide +kernel
theorem dX6_drawnShare_59 : decode cX6_drawnShare 59 = .ok (.iload_n 1, 1) := by decide +kernel
theorem dX6_drawnShare_60 : decode cX6_drawnShare 60 = .ok (.i2d, 1) := by decide +kernel
theorem dX6_drawnShare_61 : decode cX6_drawnShare 61 = .ok (.ddiv, 1) := by decide +kernel
theorem dX6_drawnShare_62 : decode cX6_drawnShare 62 = .ok (.dreturn, 1) := by decide +kernel
theorem dX6_needPlace_0 : decode cX6_needPlace 0 = .ok (.iload_n 0, 1) := by decide +kernel
theorem dX6_needPlace_1 : decode cX6_needPlace 1 = .ok (.ifCond .ne 14, 3) := by decide +kernel
theorem dX6_needPlace_4 : decode cX6_needPlace 4 = .ok (.new 345, 3) := by decide +kernel
theorem dX6_needPlace_7 : decode cX6_needPlace 7 = .ok (.dup, 1) := by decide +kernel
theorem dX6_needPlace_8 : decode cX6_needPlace 8 = .ok (.ldc_w 347, 3) := by decide +kernel
theorem dX6_needPlace_11 : decode cX6_needPlace 11 = .ok (.invokespecial 349, 3) := by decide +kernel
theorem dX6_needPlace_14 : decode cX6_needPlace 14 = .ok (.athrow, 1) := by decide +kernel
theorem dX6_needPlace_15 : decode cX6_needPlace 15 = .ok (.return_, 1) := by decide +kernel
theorem dX6_needValue_0 : decode cX6_needValue 0 = .ok (.iload_n 0, 1) := by decide +kernel
theorem dX6_needValue_1 : decode cX6_needValue 1 = .ok (.ifCond .ne 14, 3) := by decide +kernel
theorem dX6_needValue_4 : decode cX6_needValue 4 = .ok (.new 352, 3) := by decide +kernel
theorem dX6_needValue_7 : decode cX6_needValue 7 = .ok (.dup, 1) := by decide +kernel
theorem dX6_needValue_8 : decode cX6_needValue 8 = .ok (.ldc_w 354, 3) := by decide +kernel
theorem dX6_needValue_11 : decode cX6_needValue 11 = .ok (.invokespecial 356, 3) := by decide +kernel
theorem dX6_needValue_14 : decode cX6_needValue 14 = .ok (.athrow, 1) := by decide +kernel
theorem dX6_needValue_15 : decode cX6_needValue 15 = .ok (.return_, 1) := by decide +kernel
theorem dX6_needState_0 : decode cX6_needState 0 = .ok (.iload_n 0, 1) := by decide +kernel
theorem dX6_needState_1 : decode cX6_needState 1 = .ok (.ifCond .ne 14, 3) := by decide +kernel
theorem dX6_needState_4 : decode cX6_needState 4 = .ok (.new 357, 3) := by decide +kernel
theorem dX6_needState_7 : decode cX6_needState 7 = .ok (.dup, 1) := by decide +kernel
theorem dX6_needState_8 : decode cX6_needState 8 = .ok (.ldc_w 359, 3) := by decide +kernel
theorem dX6_needState_11 : decode cX6_needState 11 = .ok (.invokespecial 361, 3) := by decide +kernel
theorem dX6_needState_14 : decode cX6_needState 14 = .ok (.athrow, 1) := by decide +kernel
theorem dX6_needState_15 : decode cX6_needState 15 = .ok (.return_, 1) := by decide +kernel
theorem dX6_isCard_0 : decode cX6_isCard 0 = .ok (.iload_n 0, 1) := by decide +kernel
theorem dX6_isCard_1 : decode cX6_isCard 1 = .ok (.ifCond .lt 13, 3) := by decide +kernel
theorem dX6_isCard_4 : decode cX6_isCard 4 = .ok (.iload_n 0, 1) := by decide +kernel
theorem dX6_isCard_5 : decode cX6_isCard 5 = .ok (.bipush 6, 2) := by decide +kernel
theorem dX6_isCard_7 : decode cX6_isCard 7 = .ok (.if_icmp .ge 7, 3) := by decide +kernel
theorem dX6_isCard_10 : decode cX6_isCard 10 = .ok (.iconst 1, 1) := by decide +kernel
theorem dX6_isCard_11 : decode cX6_isCard 11 = .ok (.goto 4, 3) := by decide +kernel
theorem dX6_isCard_14 : decode cX6_isCard 14 = .ok (.iconst 0, 1) := by decide +kernel
theorem dX6_isCard_15 : decode cX6_isCard 15 = .ok (.ireturn, 1) := by decide +kernel
theorem dX6_isRow_0 : decode cX6_isRow 0 = .ok (.iload_n 0, 1) := by decide +kernel
theorem dX6_isRow_1 : decode cX6_isRow 1 = .ok (.ifCond .lt 12, 3) := by decide +kernel
theorem dX6_isRow_4 : decode cX6_isRow 4 = .ok (.iload_n 0, 1) := by decide +kernel
theorem dX6_isRow_5 : decode cX6_isRow 5 = .ok (.iconst 3, 1) := by decide +kernel
theorem dX6_isRow_6 : decode cX6_isRow 6 = .ok (.if_icmp .ge 7, 3) := by decide +kernel
theorem dX6_isRow_9 : decode cX6_isRow 9 = .ok (.iconst 1, 1) := by decide +kernel
theorem dX6_isRow_10 : decode cX6_isRow 10 = .ok (.goto 4, 3) := by decide +kernel
theorem dX6_isRow_13 : decode cX6_isRow 13 = .ok (.iconst 0, 1) := by decide +kernel
theorem dX6_isRow_14 : decode cX6_isRow 14 = .ok (.ireturn, 1) := by decide +kernel
theorem dX6_isNumber_0 : decode cX6_isNumber 0 = .ok (.iload_n 0, 1) := by decide +kernel
theorem dX6_isNumber_1 : decode cX6_isNumber 1 = .ok (.iconst 1, 1) := by decide +kernel
theorem dX6_isNumber_2 : decode cX6_isNumber 2 = .ok (.if_icmp .lt 13, 3) := by decide +kernel
theorem dX6_isNumber_5 : decode cX6_isNumber 5 = .ok (.iload_n 0, 1) := by decide +kernel
theorem dX6_isNumber_6 : decode cX6_isNumber 6 = .ok (.bipush 90, 2) := by decide +kernel
theorem dX6_isNumber_8 : decode cX6_isNumber 8 = .ok (.if_icmp .gt 7, 3) := by decide +kernel
theorem dX6_isNumber_11 : decode cX6_isNumber 11 = .ok (.iconst 1, 1) := by decide +kernel
theorem dX6_isNumber_12 : decode cX6_isNumber 12 = .ok (.goto 4, 3) := by decide +kernel
theorem dX6_isNumber_15 : decode cX6_isNumber 15 = .ok (.iconst 0, 1) := by decide +kernel
theorem dX6_isNumber_16 : decode cX6_isNumber 16 = .ok (.ireturn, 1) := by decide +kernel
theorem dX6_isGame_0 : decode cX6_isGame 0 = .ok (.iload_n 0, 1) := by decide +kernel
theorem dX6_isGame_1 : decode cX6_isGame 1 = .ok (.ifCond .lt 12, 3) := by decide +kernel
theorem dX6_isGame_4 : decode cX6_isGame 4 = .ok (.iload_n 0, 1) := by decide +kernel
theorem dX6_isGame_5 : decode cX6_isGame 5 = .ok (.iconst 4, 1) := by decide +kernel
theorem dX6_isGame_6 : decode cX6_isGame 6 = .ok (.if_icmp .ge 7, 3) := by decide +kernel
theorem dX6_isGame_9 : decode cX6_isGame 9 = .ok (.iconst 1, 1) := by decide +kernel
theorem dX6_isGame_10 : decode cX6_isGame 10 = .ok (.goto 4, 3) := by decide +kernel
theorem dX6_isGame_13 : decode cX6_isGame 13 = .ok (.iconst 0, 1) := by decide +kernel
theorem dX6_isGame_14 : decode cX6_isGame 14 = .ok (.ireturn, 1) := by decide +kernel
theorem dX6_isSetting_0 : decode cX6_isSetting 0 = .ok (.iload_n 0, 1) := by decide +kernel
theorem dX6_isSetting_1 : decode cX6_isSetting 1 = .ok (.ifCond .lt 12, 3) := by decide +kernel
theorem dX6_isSetting_4 : decode cX6_isSetting 4 = .ok (.iload_n 0, 1) := by decide +kernel
theorem dX6_isSetting_5 : decode cX6_isSetting 5 = .ok (.iconst 3, 1) := by decide +kernel
theorem dX6_isSetting_6 : decode cX6_isSetting 6 = .ok (.if_icmp .ge 7, 3) := by decide +kernel
theorem dX6_isSetting_9 : decode cX6_isSetting 9 = .ok (.iconst 1, 1) := by decide +kernel
theorem dX6_isSetting_10 : decode cX6_isSetting 10 = .ok (.goto 4, 3) := by decide +kernel
theorem dX6_isSetting_13 : decode cX6_isSetting 13 = .ok (.iconst 0, 1) := by decide +kernel
theorem dX6_isSetting_14 : decode cX6_isSetting 14 = .ok (.ireturn, 1) := by decide +kernel
theorem dX6_isSlot_0 : decode cX6_isSlot 0 = .ok (.iload_n 0, 1) := by decide +kernel
