theorem dX6_isSlot_1 : decode cX6_isSlot 1 = .ok (.ifCond .lt 12, 3) := by decide +kernel
theorem dX6_isSlot_4 : decode cX6_isSlot 4 = .ok (.iload_n 0, 1) := by decide +kernel
theorem dX6_isSlot_5 : decode cX6_isSlot 5 = .ok (.iconst 2, 1) := by decide +kernel
theorem dX6_isSlot_6 : decode cX6_isSlot 6 = .ok (.if_icmp .ge 7, 3) := by decide +kernel
theorem dX6_isSlot_9 : decode cX6_isSlot 9 = .ok (.iconst 1, 1) := by decide +kernel
theorem dX6_isSlot_10 : decode cX6_isSlot 10 = .ok (.goto 4, 3) := by decide +kernel
theorem dX6_isSlot_13 : decode cX6_isSlot 13 = .ok (.iconst 0, 1) := by decide +kernel
theorem dX6_isSlot_14 : decode cX6_isSlot 14 = .ok (.ireturn, 1) := by decide +kernel
theorem dX6_lotAfter_0 : decode cX6_lotAfter 0 = .ok (.iload_n 0, 1) := by decide +kernel
theorem dX6_lotAfter_1 : decode cX6_lotAfter 1 = .ok (.sipush 421, 3) := by decide +kernel
theorem dX6_lotAfter_4 : decode cX6_lotAfter 4 = .ok (.imul, 1) := by decide +kernel
theorem dX6_lotAfter_5 : decode cX6_lotAfter 5 = .ok (.sipush 1663, 3) := by decide +kernel
theorem dX6_lotAfter_8 : decode cX6_lotAfter 8 = .ok (.iadd, 1) := by decide +kernel
theorem dX6_lotAfter_9 : decode cX6_lotAfter 9 = .ok (.sipush 10000, 3) := by decide +kernel
theorem dX6_lotAfter_12 : decode cX6_lotAfter 12 = .ok (.irem, 1) := by decide +kernel
theorem dX6_lotAfter_13 : decode cX6_lotAfter 13 = .ok (.ireturn, 1) := by decide +kernel
theorem dX6_save_0 : decode cX6_save 0 = .ok (.aload_n 0, 1) := by decide +kernel
theorem dX6_save_1 : decode cX6_save 1 = .ok (.getfield 170, 3) := by decide +kernel
theorem dX6_save_4 : decode cX6_save 4 = .ok (.bipush 6, 2) := by decide +kernel
theorem dX6_save_6 : decode cX6_save 6 = .ok (.if_icmp .ne 26, 3) := by decide +kernel
theorem dX6_save_9 : decode cX6_save 9 = .ok (.aload_n 0, 1) := by decide +kernel
theorem dX6_save_10 : decode cX6_save 10 = .ok (.aload_n 0, 1) := by decide +kernel
theorem dX6_save_11 : decode cX6_save 11 = .ok (.getfield 173, 3) := by decide +kernel
theorem dX6_save_14 : decode cX6_save 14 = .ok (.iconst 1, 1) := by decide +kernel
theorem dX6_save_15 : decode cX6_save 15 = .ok (.iadd, 1) := by decide +kernel
theorem dX6_save_16 : decode cX6_save 16 = .ok (.bipush 6, 2) := by decide +kernel
theorem dX6_save_18 : decode cX6_save 18 = .ok (.irem, 1) := by decide +kernel
theorem dX6_save_19 : decode cX6_save 19 = .ok (.putfield 173, 3) := by decide +kernel
theorem dX6_save_22 : decode cX6_save 22 = .ok (.aload_n 0, 1) := by decide +kernel
theorem dX6_save_23 : decode cX6_save 23 = .ok (.dup, 1) := by decide +kernel
theorem dX6_save_24 : decode cX6_save 24 = .ok (.getfield 170, 3) := by decide +kernel
theorem dX6_save_27 : decode cX6_save 27 = .ok (.iconst 1, 1) := by decide +kernel
theorem dX6_save_28 : decode cX6_save 28 = .ok (.isub, 1) := by decide +kernel
theorem dX6_save_29 : decode cX6_save 29 = .ok (.putfield 170, 3) := by decide +kernel
theorem dX6_save_32 : decode cX6_save 32 = .ok (.aload_n 0, 1) := by decide +kernel
theorem dX6_save_33 : decode cX6_save 33 = .ok (.getfield 24, 3) := by decide +kernel
theorem dX6_save_36 : decode cX6_save 36 = .ok (.aload_n 0, 1) := by decide +kernel
theorem dX6_save_37 : decode cX6_save 37 = .ok (.getfield 173, 3) := by decide +kernel
theorem dX6_save_40 : decode cX6_save 40 = .ok (.aload_n 0, 1) := by decide +kernel
theorem dX6_save_41 : decode cX6_save 41 = .ok (.getfield 170, 3) := by decide +kernel
theorem dX6_save_44 : decode cX6_save 44 = .ok (.iadd, 1) := by decide +kernel
theorem dX6_save_45 : decode cX6_save 45 = .ok (.bipush 6, 2) := by decide +kernel
theorem dX6_save_47 : decode cX6_save 47 = .ok (.irem, 1) := by decide +kernel
theorem dX6_save_48 : decode cX6_save 48 = .ok (.aaload, 1) := by decide +kernel
theorem dX6_save_49 : decode cX6_save 49 = .ok (.aload_n 0, 1) := by decide +kernel
theorem dX6_save_50 : decode cX6_save 50 = .ok (.getfield 10, 3) := by decide +kernel
theorem dX6_save_53 : decode cX6_save 53 = .ok (.invokevirtual 165, 3) := by decide +kernel
theorem dX6_save_56 : decode cX6_save 56 = .ok (.aload_n 0, 1) := by decide +kernel
theorem dX6_save_57 : decode cX6_save 57 = .ok (.dup, 1) := by decide +kernel
theorem dX6_save_58 : decode cX6_save 58 = .ok (.getfield 170, 3) := by decide +kernel
theorem dX6_save_61 : decode cX6_save 61 = .ok (.iconst 1, 1) := by decide +kernel
theorem dX6_save_62 : decode cX6_save 62 = .ok (.iadd, 1) := by decide +kernel
theorem dX6_save_63 : decode cX6_save 63 = .ok (.putfield 170, 3) := by decide +kernel
theorem dX6_save_66 : decode cX6_save 66 = .ok (.return_, 1) := by decide +kernel
theorem dX6_doOrder_0 : decode cX6_doOrder 0 = .ok (.aload_n 0, 1) := by decide +kernel
theorem dX6_doOrder_1 : decode cX6_doOrder 1 = .ok (.getfield 30, 3) := by decide +kernel
theorem dX6_doOrder_4 : decode cX6_doOrder 4 = .ok (.iload_n 1, 1) := by decide +kernel
theorem dX6_doOrder_5 : decode cX6_doOrder 5 = .ok (.iconst 1, 1) := by decide +kernel
theorem dX6_doOrder_6 : decode cX6_doOrder 6 = .ok (.iadd, 1) := by decide +kernel
theorem dX6_doOrder_7 : decode cX6_doOrder 7 = .ok (.invokevirtual 362, 3) := by decide +kernel
theorem dX6_doOrder_10 : decode cX6_doOrder 10 = .ok (.istore_n 2, 1) := by decide +kernel
theorem dX6_doOrder_11 : decode cX6_doOrder 11 = .ok (.aload_n 0, 1) := by decide +kernel
theorem dX6_doOrder_12 : decode cX6_doOrder 12 = .ok (.getfield 30, 3) := by decide +kernel
theorem dX6_doOrder_15 : decode cX6_doOrder 15 = .ok (.iload_n 1, 1) := by decide +kernel
theorem dX6_doOrder_16 : decode cX6_doOrder 16 = .ok (.invokevirtual 156, 3) := by decide +kernel
theorem dX6_doOrder_19 : decode cX6_doOrder 19 = .ok (.lookupswitch 147 #[(98, 93), (100, 117), (112, 33)], 33) := by decide +kernel
theorem dX6_doOrder_52 : decode cX6_doOrder 52 = .ok (.iload_n 2, 1) := by decide +kernel
theorem dX6_doOrder_53 : decode cX6_doOrder 53 = .ok (.iconst 3, 1) := by decide +kernel
theorem dX6_doOrder_54 : decode cX6_doOrder 54 = .ok (.imul, 1) := by decide +kernel
theorem dX6_doOrder_55 : decode cX6_doOrder 55 = .ok (.aload_n 0, 1) := by decide +kernel
theorem dX6_doOrder_56 : decode cX6_doOrder 56 = .ok (.getfield 30, 3) := by decide +kernel
theorem dX6_doOrder_59 : decode cX6_doOrder 59 = .ok (.iload_n 1, 1) := by decide +kernel
theorem dX6_doOrder_60 : decode cX6_doOrder 60 = .ok (.iconst 2, 1) := by decide +kernel
theorem dX6_doOrder_61 : decode cX6_doOrder 61 = .ok (.iadd, 1) := by decide +kernel
theorem dX6_doOrder_62 : decode cX6_doOrder 62 = .ok (.invokevirtual 362, 3) := by decide +kernel
theorem dX6_doOrder_65 : decode cX6_doOrder 65 = .ok (.iadd, 1) := by decide +kernel
theorem dX6_doOrder_66 : decode cX6_doOrder 66 = .ok (.istore_n 3, 1) := by decide +kernel
theorem dX6_doOrder_67 : decode cX6_doOrder 67 = .ok (.bipush 10, 2) := by decide +kernel
theorem dX6_doOrder_69 : decode cX6_doOrder 69 = .ok (.aload_n 0, 1) := by decide +kernel
theorem dX6_doOrder_70 : decode cX6_doOrder 70 = .ok (.getfield 30, 3) := by decide +kernel
theorem dX6_doOrder_73 : decode cX6_doOrder 73 = .ok (.iload_n 1, 1) := by decide +kernel
theorem dX6_doOrder_74 : decode cX6_doOrder 74 = .ok (.iconst 3, 1) := by decide +kernel
theorem dX6_doOrder_75 : decode cX6_doOrder 75 = .ok (.iadd, 1) := by decide +kernel
theorem dX6_doOrder_76 : decode cX6_doOrder 76 = .ok (.invokevirtual 362, 3) := by decide +kernel
theorem dX6_doOrder_79 : decode cX6_doOrder 79 = .ok (.imul, 1) := by decide +kernel
theorem dX6_doOrder_80 : decode cX6_doOrder 80 = .ok (.aload_n 0, 1) := by decide +kernel
theorem dX6_doOrder_81 : decode cX6_doOrder 81 = .ok (.getfield 30, 3) := by decide +kernel
theorem dX6_doOrder_84 : decode cX6_doOrder 84 = .ok (.iload_n 1, 1) := by decide +kernel
theorem dX6_doOrder_85 : decode cX6_doOrder 85 = .ok (.iconst 4, 1) := by decide +kernel
theorem dX6_doOrder_86 : decode cX6_doOrder 86 = .ok (.iadd, 1) := by decide +kernel
theorem dX6_doOrder_87 : decode cX6_doOrder 87 = .ok (.invokevirtual 362, 3) := by decide +kernel
theorem dX6_doOrder_90 : decode cX6_doOrder 90 = .ok (.iadd, 1) := by decide +kernel
theorem dX6_doOrder_91 : decode cX6_doOrder 91 = .ok (.istore 4, 2) := by decide +kernel
theorem dX6_doOrder_93 : decode cX6_doOrder 93 = .ok (.aload_n 0, 1) := by decide +kernel
theorem dX6_doOrder_94 : decode cX6_doOrder 94 = .ok (.getfield 10, 3) := by decide +kernel
theorem dX6_doOrder_97 : decode cX6_doOrder 97 = .ok (.iload_n 3, 1) := by decide +kernel
theorem dX6_doOrder_98 : decode cX6_doOrder 98 = .ok (.iload 4, 2) := by decide +kernel
theorem dX6_doOrder_100 : decode cX6_doOrder 100 = .ok (.invokevirtual 65, 3) := by decide +kernel
theorem dX6_doOrder_103 : decode cX6_doOrder 103 = .ok (.ifCond .ne 7, 3) := by decide +kernel
theorem dX6_doOrder_106 : decode cX6_doOrder 106 = .ok (.iconst 1, 1) := by decide +kernel
theorem dX6_doOrder_107 : decode cX6_doOrder 107 = .ok (.goto 4, 3) := by decide +kernel
theorem dX6_doOrder_110 : decode cX6_doOrder 110 = .ok (.iconst 0, 1) := by decide +kernel
theorem dX6_doOrder_111 : decode cX6_doOrder 111 = .ok (.ireturn, 1) := by decide +kernel
theorem dX6_doOrder_112 : decode cX6_doOrder 112 = .ok (.aload_n 0, 1) := by decide +kernel
theorem dX6_doOrder_113 : decode cX6_doOrder 113 = .ok (.getfield 10, 3) := by decide +kernel
theorem dX6_doOrder_116 : decode cX6_doOrder 116 = .ok (.iload_n 2, 1) := by decide +kernel
theorem dX6_doOrder_117 : decode cX6_doOrder 117 = .ok (.invokevirtual 98, 3) := by decide +kernel
theorem dX6_doOrder_120 : decode cX6_doOrder 120 = .ok (.ifCond .ne 5, 3) := by decide +kernel
theorem dX6_doOrder_123 : decode cX6_doOrder 123 = .ok (.iconst 0, 1) := by decide +kernel
theorem dX6_doOrder_124 : decode cX6_doOrder 124 = .ok (.ireturn, 1) := by decide +kernel
theorem dX6_doOrder_125 : decode cX6_doOrder 125 = .ok (.aload_n 0, 1) := by decide +kernel
theorem dX6_doOrder_126 : decode cX6_doOrder 126 = .ok (.getfield 10, 3) := by decide +kernel
theorem dX6_doOrder_129 : decode cX6_doOrder 129 = .ok (.iload_n 2, 1) := by decide +kernel
theorem dX6_doOrder_130 : decode cX6_doOrder 130 = .ok (.invokevirtual 101, 3) := by decide +kernel
theorem dX6_doOrder_133 : decode cX6_doOrder 133 = .ok (.pop, 1) := by decide +kernel
theorem dX6_doOrder_134 : decode cX6_doOrder 134 = .ok (.iconst 1, 1) := by decide +kernel
theorem dX6_doOrder_135 : decode cX6_doOrder 135 = .ok (.ireturn, 1) := by decide +kernel
theorem dX6_doOrder_136 : decode cX6_doOrder 136 = .ok (.iload_n 2, 1) := by decide +kernel
theorem dX6_doOrder_137 : decode cX6_doOrder 137 = .ok (.aload_n 0, 1) := by decide +kernel
theorem dX6_doOrder_138 : decode cX6_doOrder 138 = .ok (.getfield 10, 3) := by decide +kernel
theorem dX6_doOrder_141 : decode cX6_doOrder 141 = .ok (.getfield 78, 3) := by decide +kernel
theorem dX6_doOrder_144 : decode cX6_doOrder 144 = .ok (.getfield 121, 3) := by decide +kernel
theorem dX6_doOrder_147 : decode cX6_doOrder 147 = .ok (.getfield 124, 3) := by decide +kernel
theorem dX6_doOrder_150 : decode cX6_doOrder 150 = .ok (.if_icmp .le 5, 3) := by decide +kernel
theorem dX6_doOrder_153 : decode cX6_doOrder 153 = .ok (.iconst 0, 1) := by decide +kernel
theorem dX6_doOrder_154 : decode cX6_doOrder 154 = .ok (.ireturn, 1) := by decide +kernel
theorem dX6_doOrder_155 : decode cX6_doOrder 155 = .ok (.aload_n 0, 1) := by decide +kernel
theorem dX6_doOrder_156 : decode cX6_doOrder 156 = .ok (.getfield 10, 3) := by decide +kernel
theorem dX6_doOrder_159 : decode cX6_doOrder 159 = .ok (.iload_n 2, 1) := by decide +kernel
theorem dX6_doOrder_160 : decode cX6_doOrder 160 = .ok (.invokevirtual 127, 3) := by decide +kernel
theorem dX6_doOrder_163 : decode cX6_doOrder 163 = .ok (.pop, 1) := by decide +kernel
theorem dX6_doOrder_164 : decode cX6_doOrder 164 = .ok (.iconst 1, 1) := by decide +kernel
theorem dX6_doOrder_165 : decode cX6_doOrder 165 = .ok (.ireturn, 1) := by decide +kernel
theorem dX6_doOrder_166 : decode cX6_doOrder 166 = .ok (.aload_n 0, 1) := by decide +kernel
theorem dX6_doOrder_167 : decode cX6_doOrder 167 = .ok (.getfield 10, 3) := by decide +kernel
theorem dX6_doOrder_170 : decode cX6_doOrder 170 = .ok (.getfield 78, 3) := by decide +kernel
theorem dX6_doOrder_173 : decode cX6_doOrder 173 = .ok (.iload_n 2, 1) := by decide +kernel
theorem dX6_doOrder_174 : decode cX6_doOrder 174 = .ok (.invokevirtual 82, 3) := by decide +kernel
theorem dX6_doOrder_177 : decode cX6_doOrder 177 = .ok (.ifCond .eq 28, 3) := by decide +kernel
theorem dX6_doOrder_180 : decode cX6_doOrder 180 = .ok (.aload_n 0, 1) := by decide +kernel
theorem dX6_doOrder_181 : decode cX6_doOrder 181 = .ok (.getfield 10, 3) := by decide +kernel
theorem dX6_doOrder_184 : decode cX6_doOrder 184 = .ok (.iload_n 2, 1) := by decide +kernel
theorem dX6_doOrder_185 : decode cX6_doOrder 185 = .ok (.aload_n 0, 1) := by decide +kernel
theorem dX6_doOrder_186 : decode cX6_doOrder 186 = .ok (.getfield 30, 3) := by decide +kernel
theorem dX6_doOrder_189 : decode cX6_doOrder 189 = .ok (.iload_n 1, 1) := by decide +kernel
theorem dX6_doOrder_190 : decode cX6_doOrder 190 = .ok (.iconst 2, 1) := by decide +kernel
theorem dX6_doOrder_191 : decode cX6_doOrder 191 = .ok (.iadd, 1) := by decide +kernel
theorem dX6_doOrder_192 : decode cX6_doOrder 192 = .ok (.invokevirtual 362, 3) := by decide +kernel
theorem dX6_doOrder_195 : decode cX6_doOrder 195 = .ok (.invokevirtual 133, 3) := by decide +kernel
theorem dX6_doOrder_198 : decode cX6_doOrder 198 = .ok (.ifCond .ne 7, 3) := by decide +kernel
theorem dX6_doOrder_201 : decode cX6_doOrder 201 = .ok (.iconst 1, 1) := by decide +kernel
theorem dX6_doOrder_202 : decode cX6_doOrder 202 = .ok (.goto 4, 3) := by decide +kernel
theorem dX6_doOrder_205 : decode cX6_doOrder 205 = .ok (.iconst 0, 1) := by decide +kernel
theorem dX6_doOrder_206 : decode cX6_doOrder 206 = .ok (.ireturn, 1) := by decide +kernel
theorem dX6_fullBallByBall_0 : decode cX6_fullBallByBall 0 = .ok (.aload_n 0, 1) := by decide +kernel
theorem dX6_fullBallByBall_1 : decode cX6_fullBallByBall 1 = .ok (.getfield 10, 3) := by decide +kernel
theorem dX6_fullBallByBall_4 : decode cX6_fullBallByBall 4 = .ok (.getfield 78, 3) := by decide +kernel
theorem dX6_fullBallByBall_7 : decode cX6_fullBallByBall 7 = .ok (.astore_n 2, 1) := by decide +kernel
theorem dX6_fullBallByBall_8 : decode cX6_fullBallByBall 8 = .ok (.aload_n 0, 1) := by decide +kernel
theorem dX6_fullBallByBall_9 : decode cX6_fullBallByBall 9 = .ok (.getfield 37, 3) := by decide +kernel
theorem dX6_fullBallByBall_12 : decode cX6_fullBallByBall 12 = .ok (.aload_n 2, 1) := by decide +kernel
theorem dX6_fullBallByBall_13 : decode cX6_fullBallByBall 13 = .ok (.getfield 121, 3) := by decide +kernel
theorem dX6_fullBallByBall_16 : decode cX6_fullBallByBall 16 = .ok (.invokevirtual 270, 3) := by decide +kernel
theorem dX6_fullBallByBall_19 : decode cX6_fullBallByBall 19 = .ok (.aload_n 0, 1) := by decide +kernel
theorem dX6_fullBallByBall_20 : decode cX6_fullBallByBall 20 = .ok (.getfield 10, 3) := by decide +kernel
theorem dX6_fullBallByBall_23 : decode cX6_fullBallByBall 23 = .ok (.getfield 105, 3) := by decide +kernel
theorem dX6_fullBallByBall_26 : decode cX6_fullBallByBall 26 = .ok (.istore_n 3, 1) := by decide +kernel
theorem dX6_fullBallByBall_27 : decode cX6_fullBallByBall 27 = .ok (.iconst 0, 1) := by decide +kernel
theorem dX6_fullBallByBall_28 : decode cX6_fullBallByBall 28 = .ok (.istore 4, 2) := by decide +kernel
theorem dX6_fullBallByBall_30 : decode cX6_fullBallByBall 30 = .ok (.iconst 1, 1) := by decide +kernel
theorem dX6_fullBallByBall_31 : decode cX6_fullBallByBall 31 = .ok (.istore 5, 2) := by decide +kernel
theorem dX6_fullBallByBall_33 : decode cX6_fullBallByBall 33 = .ok (.iload 5, 2) := by decide +kernel
theorem dX6_fullBallByBall_35 : decode cX6_fullBallByBall 35 = .ok (.bipush 90, 2) := by decide +kernel
theorem dX6_fullBallByBall_37 : decode cX6_fullBallByBall 37 = .ok (.if_icmp .gt 76, 3) := by decide +kernel
theorem dX6_fullBallByBall_40 : decode cX6_fullBallByBall 40 = .ok (.iload 5, 2) := by decide +kernel
theorem dX6_fullBallByBall_42 : decode cX6_fullBallByBall 42 = .ok (.aload_n 2, 1) := by decide +kernel
theorem dX6_fullBallByBall_43 : decode cX6_fullBallByBall 43 = .ok (.getfield 213, 3) := by decide +kernel
theorem dX6_fullBallByBall_46 : decode cX6_fullBallByBall 46 = .ok (.if_icmp .gt 17, 3) := by decide +kernel
theorem dX6_fullBallByBall_49 : decode cX6_fullBallByBall 49 = .ok (.aload_n 2, 1) := by decide +kernel
theorem dX6_fullBallByBall_50 : decode cX6_fullBallByBall 50 = .ok (.getfield 216, 3) := by decide +kernel
theorem dX6_fullBallByBall_53 : decode cX6_fullBallByBall 53 = .ok (.iload 5, 2) := by decide +kernel
theorem dX6_fullBallByBall_55 : decode cX6_fullBallByBall 55 = .ok (.iconst 1, 1) := by decide +kernel
theorem dX6_fullBallByBall_56 : decode cX6_fullBallByBall 56 = .ok (.isub, 1) := by decide +kernel
theorem dX6_fullBallByBall_57 : decode cX6_fullBallByBall 57 = .ok (.iaload, 1) := by decide +kernel
theorem dX6_fullBallByBall_58 : decode cX6_fullBallByBall 58 = .ok (.istore 6, 2) := by decide +kernel
theorem dX6_fullBallByBall_60 : decode cX6_fullBallByBall 60 = .ok (.goto 18, 3) := by decide +kernel
theorem dX6_fullBallByBall_63 : decode cX6_fullBallByBall 63 = .ok (.iload_n 3, 1) := by decide +kernel
theorem dX6_fullBallByBall_64 : decode cX6_fullBallByBall 64 = .ok (.invokestatic 273, 3) := by decide +kernel
theorem dX6_fullBallByBall_67 : decode cX6_fullBallByBall 67 = .ok (.istore_n 3, 1) := by decide +kernel
theorem dX6_fullBallByBall_68 : decode cX6_fullBallByBall 68 = .ok (.aload_n 0, 1) := by decide +kernel
theorem dX6_fullBallByBall_69 : decode cX6_fullBallByBall 69 = .ok (.getfield 37, 3) := by decide +kernel
theorem dX6_fullBallByBall_72 : decode cX6_fullBallByBall 72 = .ok (.iload_n 3, 1) := by decide +kernel
theorem dX6_fullBallByBall_73 : decode cX6_fullBallByBall 73 = .ok (.invokevirtual 276, 3) := by decide +kernel
theorem dX6_fullBallByBall_76 : decode cX6_fullBallByBall 76 = .ok (.istore 6, 2) := by decide +kernel
theorem dX6_fullBallByBall_78 : decode cX6_fullBallByBall 78 = .ok (.aload_n 0, 1) := by decide +kernel
theorem dX6_fullBallByBall_79 : decode cX6_fullBallByBall 79 = .ok (.getfield 10, 3) := by decide +kernel
theorem dX6_fullBallByBall_82 : decode cX6_fullBallByBall 82 = .ok (.getfield 69, 3) := by decide +kernel
theorem dX6_fullBallByBall_85 : decode cX6_fullBallByBall 85 = .ok (.iload_n 1, 1) := by decide +kernel
theorem dX6_fullBallByBall_86 : decode cX6_fullBallByBall 86 = .ok (.iload 6, 2) := by decide +kernel
theorem dX6_fullBallByBall_88 : decode cX6_fullBallByBall 88 = .ok (.invokevirtual 365, 3) := by decide +kernel
theorem dX6_fullBallByBall_91 : decode cX6_fullBallByBall 91 = .ok (.ifCond .eq 6, 3) := by decide +kernel
theorem dX6_fullBallByBall_94 : decode cX6_fullBallByBall 94 = .ok (.iinc 4 1, 3) := by decide +kernel
theorem dX6_fullBallByBall_97 : decode cX6_fullBallByBall 97 = .ok (.iload 4, 2) := by decide +kernel
theorem dX6_fullBallByBall_99 : decode cX6_fullBallByBall 99 = .ok (.bipush 15, 2) := by decide +kernel
theorem dX6_fullBallByBall_101 : decode cX6_fullBallByBall 101 = .ok (.if_icmp .ne 6, 3) := by decide +kernel
theorem dX6_fullBallByBall_104 : decode cX6_fullBallByBall 104 = .ok (.iload 5, 2) := by decide +kernel
theorem dX6_fullBallByBall_106 : decode cX6_fullBallByBall 106 = .ok (.ireturn, 1) := by decide +kernel
theorem dX6_fullBallByBall_107 : decode cX6_fullBallByBall 107 = .ok (.iinc 5 1, 3) := by decide +kernel
theorem dX6_fullBallByBall_110 : decode cX6_fullBallByBall 110 = .ok (.goto (-77), 3) := by decide +kernel
theorem dX6_fullBallByBall_113 : decode cX6_fullBallByBall 113 = .ok (.iconst (-1), 1) := by decide +kernel
theorem dX6_fullBallByBall_114 : decode cX6_fullBallByBall 114 = .ok (.ireturn, 1) := by decide +kernel
theorem dX6_layOrder_0 : decode cX6_layOrder 0 = .ok (.aload_n 0, 1) := by decide +kernel
theorem dX6_layOrder_1 : decode cX6_layOrder 1 = .ok (.getfield 10, 3) := by decide +kernel
theorem dX6_layOrder_4 : decode cX6_layOrder 4 = .ok (.getfield 78, 3) := by decide +kernel
theorem dX6_layOrder_7 : decode cX6_layOrder 7 = .ok (.astore_n 1, 1) := by decide +kernel
theorem dX6_layOrder_8 : decode cX6_layOrder 8 = .ok (.aload_n 1, 1) := by decide +kernel
theorem dX6_layOrder_9 : decode cX6_layOrder 9 = .ok (.getfield 216, 3) := by decide +kernel
theorem dX6_layOrder_12 : decode cX6_layOrder 12 = .ok (.iconst 0, 1) := by decide +kernel
theorem dX6_layOrder_13 : decode cX6_layOrder 13 = .ok (.aload_n 0, 1) := by decide +kernel
theorem dX6_layOrder_14 : decode cX6_layOrder 14 = .ok (.getfield 41, 3) := by decide +kernel
theorem dX6_layOrder_17 : decode cX6_layOrder 17 = .ok (.iconst 0, 1) := by decide +kernel
theorem dX6_layOrder_18 : decode cX6_layOrder 18 = .ok (.aload_n 1, 1) := by decide +kernel
theorem dX6_layOrder_19 : decode cX6_layOrder 19 = .ok (.getfield 213, 3) := by decide +kernel
theorem dX6_layOrder_22 : decode cX6_layOrder 22 = .ok (.invokestatic 369, 3) := by decide +kernel
theorem dX6_layOrder_25 : decode cX6_layOrder 25 = .ok (.aload_n 0, 1) := by decide +kernel
theorem dX6_layOrder_26 : decode cX6_layOrder 26 = .ok (.getfield 37, 3) := by decide +kernel
theorem dX6_layOrder_29 : decode cX6_layOrder 29 = .ok (.aload_n 1, 1) := by decide +kernel
theorem dX6_layOrder_30 : decode cX6_layOrder 30 = .ok (.getfield 121, 3) := by decide +kernel
theorem dX6_layOrder_33 : decode cX6_layOrder 33 = .ok (.invokevirtual 270, 3) := by decide +kernel
theorem dX6_layOrder_36 : decode cX6_layOrder 36 = .ok (.aload_n 0, 1) := by decide +kernel
theorem dX6_layOrder_37 : decode cX6_layOrder 37 = .ok (.getfield 10, 3) := by decide +kernel
theorem dX6_layOrder_40 : decode cX6_layOrder 40 = .ok (.getfield 105, 3) := by decide +kernel
theorem dX6_layOrder_43 : decode cX6_layOrder 43 = .ok (.istore_n 2, 1) := by decide +kernel
theorem dX6_layOrder_44 : decode cX6_layOrder 44 = .ok (.aload_n 1, 1) := by decide +kernel
theorem dX6_layOrder_45 : decode cX6_layOrder 45 = .ok (.getfield 213, 3) := by decide +kernel
theorem dX6_layOrder_48 : decode cX6_layOrder 48 = .ok (.istore_n 3, 1) := by decide +kernel
theorem dX6_layOrder_49 : decode cX6_layOrder 49 = .ok (.iload_n 3, 1) := by decide +kernel
theorem dX6_layOrder_50 : decode cX6_layOrder 50 = .ok (.bipush 90, 2) := by decide +kernel
theorem dX6_layOrder_52 : decode cX6_layOrder 52 = .ok (.if_icmp .ge 28, 3) := by decide +kernel
theorem dX6_layOrder_55 : decode cX6_layOrder 55 = .ok (.iload_n 2, 1) := by decide +kernel
theorem dX6_layOrder_56 : decode cX6_layOrder 56 = .ok (.invokestatic 273, 3) := by decide +kernel
theorem dX6_layOrder_59 : decode cX6_layOrder 59 = .ok (.istore_n 2, 1) := by decide +kernel
theorem dX6_layOrder_60 : decode cX6_layOrder 60 = .ok (.aload_n 0, 1) := by decide +kernel
theorem dX6_layOrder_61 : decode cX6_layOrder 61 = .ok (.getfield 41, 3) := by decide +kernel
theorem dX6_layOrder_64 : decode cX6_layOrder 64 = .ok (.iload_n 3, 1) := by decide +kernel
theorem dX6_layOrder_65 : decode cX6_layOrder 65 = .ok (.aload_n 0, 1) := by decide +kernel
theorem dX6_layOrder_66 : decode cX6_layOrder 66 = .ok (.getfield 37, 3) := by decide +kernel
theorem dX6_layOrder_69 : decode cX6_layOrder 69 = .ok (.iload_n 2, 1) := by decide +kernel
theorem dX6_layOrder_70 : decode cX6_layOrder 70 = .ok (.invokevirtual 276, 3) := by decide +kernel
theorem dX6_layOrder_73 : decode cX6_layOrder 73 = .ok (.iastore, 1) := by decide +kernel
theorem dX6_layOrder_74 : decode cX6_layOrder 74 = .ok (.iinc 3 1, 3) := by decide +kernel
theorem dX6_layOrder_77 : decode cX6_layOrder 77 = .ok (.goto (-28), 3) := by decide +kernel
theorem dX6_layOrder_80 : decode cX6_layOrder 80 = .ok (.return_, 1) := by decide +kernel
theorem dX6_lastCallInOrder_0 : decode cX6_lastCallInOrder 0 = .ok (.iconst (-1), 1) := by decide +kernel
theorem dX6_lastCallInOrder_1 : decode cX6_lastCallInOrder 1 = .ok (.istore_n 2, 1) := by decide +kernel
theorem dX6_lastCallInOrder_2 : decode cX6_lastCallInOrder 2 = .ok (.iconst 0, 1) := by decide +kernel
theorem dX6_lastCallInOrder_3 : decode cX6_lastCallInOrder 3 = .ok (.istore_n 3, 1) := by decide +kernel
theorem dX6_lastCallInOrder_4 : decode cX6_lastCallInOrder 4 = .ok (.iload_n 3, 1) := by decide +kernel
theorem dX6_lastCallInOrder_5 : decode cX6_lastCallInOrder 5 = .ok (.bipush 90, 2) := by decide +kernel
theorem dX6_lastCallInOrder_7 : decode cX6_lastCallInOrder 7 = .ok (.if_icmp .ge 33, 3) := by decide +kernel
theorem dX6_lastCallInOrder_10 : decode cX6_lastCallInOrder 10 = .ok (.aload_n 0, 1) := by decide +kernel
theorem dX6_lastCallInOrder_11 : decode cX6_lastCallInOrder 11 = .ok (.getfield 10, 3) := by decide +kernel
theorem dX6_lastCallInOrder_14 : decode cX6_lastCallInOrder 14 = .ok (.getfield 69, 3) := by decide +kernel
theorem dX6_lastCallInOrder_17 : decode cX6_lastCallInOrder 17 = .ok (.iload_n 1, 1) := by decide +kernel
theorem dX6_lastCallInOrder_18 : decode cX6_lastCallInOrder 18 = .ok (.aload_n 0, 1) := by decide +kernel
theorem dX6_lastCallInOrder_19 : decode cX6_lastCallInOrder 19 = .ok (.getfield 41, 3) := by decide +kernel
theorem dX6_lastCallInOrder_22 : decode cX6_lastCallInOrder 22 = .ok (.iload_n 3, 1) := by decide +kernel
theorem dX6_lastCallInOrder_23 : decode cX6_lastCallInOrder 23 = .ok (.iaload, 1) := by decide +kernel
theorem dX6_lastCallInOrder_24 : decode cX6_lastCallInOrder 24 = .ok (.invokevirtual 365, 3) := by decide +kernel
theorem dX6_lastCallInOrder_27 : decode cX6_lastCallInOrder 27 = .ok (.ifCond .eq 7, 3) := by decide +kernel
theorem dX6_lastCallInOrder_30 : decode cX6_lastCallInOrder 30 = .ok (.iload_n 3, 1) := by decide +kernel
theorem dX6_lastCallInOrder_31 : decode cX6_lastCallInOrder 31 = .ok (.iconst 1, 1) := by decide +kernel
theorem dX6_lastCallInOrder_32 : decode cX6_lastCallInOrder 32 = .ok (.iadd, 1) := by decide +kernel
theorem dX6_lastCallInOrder_33 : decode cX6_lastCallInOrder 33 = .ok (.istore_n 2, 1) := by decide +kernel
theorem dX6_lastCallInOrder_34 : decode cX6_lastCallInOrder 34 = .ok (.iinc 3 1, 3) := by decide +kernel
theorem dX6_lastCallInOrder_37 : decode cX6_lastCallInOrder 37 = .ok (.goto (-33), 3) := by decide +kernel
theorem dX6_lastCallInOrder_40 : decode cX6_lastCallInOrder 40 = .ok (.iload_n 2, 1) := by decide +kernel
theorem dX6_lastCallInOrder_41 : decode cX6_lastCallInOrder 41 = .ok (.ireturn, 1) := by decide +kernel
theorem dJ6_bitCount_0f7a4_0 : decode cJ6_bitCount_0f7a4 0 = .ok (.iload_n 0, 1) := by decide +kernel
theorem dJ6_bitCount_0f7a4_1 : decode cJ6_bitCount_0f7a4 1 = .ok (.iload_n 0, 1) := by decide +kernel
theorem dJ6_bitCount_0f7a4_2 : decode cJ6_bitCount_0f7a4 2 = .ok (.iconst 1, 1) := by decide +kernel
theorem dJ6_bitCount_0f7a4_3 : decode cJ6_bitCount_0f7a4 3 = .ok (.iushr, 1) := by decide +kernel
theorem dJ6_bitCount_0f7a4_4 : decode cJ6_bitCount_0f7a4 4 = .ok (.ldc_w 265, 3) := by decide +kernel
theorem dJ6_bitCount_0f7a4_7 : decode cJ6_bitCount_0f7a4 7 = .ok (.iand, 1) := by decide +kernel
theorem dJ6_bitCount_0f7a4_8 : decode cJ6_bitCount_0f7a4 8 = .ok (.isub, 1) := by decide +kernel
theorem dJ6_bitCount_0f7a4_9 : decode cJ6_bitCount_0f7a4 9 = .ok (.istore_n 0, 1) := by decide +kernel
theorem dJ6_bitCount_0f7a4_10 : decode cJ6_bitCount_0f7a4 10 = .ok (.iload_n 0, 1) := by decide +kernel
theorem dJ6_bitCount_0f7a4_11 : decode cJ6_bitCount_0f7a4 11 = .ok (.ldc_w 266, 3) := by decide +kernel
theorem dJ6_bitCount_0f7a4_14 : decode cJ6_bitCount_0f7a4 14 = .ok (.iand, 1) := by decide +kernel
theorem dJ6_bitCount_0f7a4_15 : decode cJ6_bitCount_0f7a4 15 = .ok (.iload_n 0, 1) := by decide +kernel
theorem dJ6_bitCount_0f7a4_16 : decode cJ6_bitCount_0f7a4 16 = .ok (.iconst 2, 1) := by decide +kernel
theorem dJ6_bitCount_0f7a4_17 : decode cJ6_bitCount_0f7a4 17 = .ok (.iushr, 1) := by decide +kernel
theorem dJ6_bitCount_0f7a4_18 : decode cJ6_bitCount_0f7a4 18 = .ok (.ldc_w 266, 3) := by decide +kernel
theorem dJ6_bitCount_0f7a4_21 : decode cJ6_bitCount_0f7a4 21 = .ok (.iand, 1) := by decide +kernel
theorem dJ6_bitCount_0f7a4_22 : decode cJ6_bitCount_0f7a4 22 = .ok (.iadd, 1) := by decide +kernel
theorem dJ6_bitCount_0f7a4_23 : decode cJ6_bitCount_0f7a4 23 = .ok (.istore_n 0, 1) := by decide +kernel
theorem dJ6_bitCount_0f7a4_24 : decode cJ6_bitCount_0f7a4 24 = .ok (.iload_n 0, 1) := by decide +kernel
theorem dJ6_bitCount_0f7a4_25 : decode cJ6_bitCount_0f7a4 25 = .ok (.iload_n 0, 1) := by decide +kernel
theorem dJ6_bitCount_0f7a4_26 : decode cJ6_bitCount_0f7a4 26 = .ok (.iconst 4, 1) := by decide +kernel
theorem dJ6_bitCount_0f7a4_27 : decode cJ6_bitCount_0f7a4 27 = .ok (.iushr, 1) := by decide +kernel
theorem dJ6_bitCount_0f7a4_28 : decode cJ6_bitCount_0f7a4 28 = .ok (.iadd, 1) := by decide +kernel
theorem dJ6_bitCount_0f7a4_29 : decode cJ6_bitCount_0f7a4 29 = .ok (.ldc_w 267, 3) := by decide +kernel
theorem dJ6_bitCount_0f7a4_32 : decode cJ6_bitCount_0f7a4 32 = .ok (.iand, 1) := by decide +kernel
theorem dJ6_bitCount_0f7a4_33 : decode cJ6_bitCount_0f7a4 33 = .ok (.istore_n 0, 1) := by decide +kernel
theorem dJ6_bitCount_0f7a4_34 : decode cJ6_bitCount_0f7a4 34 = .ok (.iload_n 0, 1) := by decide +kernel
theorem dJ6_bitCount_0f7a4_35 : decode cJ6_bitCount_0f7a4 35 = .ok (.iload_n 0, 1) := by decide +kernel
theorem dJ6_bitCount_0f7a4_36 : decode cJ6_bitCount_0f7a4 36 = .ok (.bipush 8, 2) := by decide +kernel
theorem dJ6_bitCount_0f7a4_38 : decode cJ6_bitCount_0f7a4 38 = .ok (.iushr, 1) := by decide +kernel
theorem dJ6_bitCount_0f7a4_39 : decode cJ6_bitCount_0f7a4 39 = .ok (.iadd, 1) := by decide +kernel
theorem dJ6_bitCount_0f7a4_40 : decode cJ6_bitCount_0f7a4 40 = .ok (.istore_n 0, 1) := by decide +kernel
theorem dJ6_bitCount_0f7a4_41 : decode cJ6_bitCount_0f7a4 41 = .ok (.iload_n 0, 1) := by decide +kernel
theorem dJ6_bitCount_0f7a4_42 : decode cJ6_bitCount_0f7a4 42 = .ok (.iload_n 0, 1) := by decide +kernel
theorem dJ6_bitCount_0f7a4_43 : decode cJ6_bitCount_0f7a4 43 = .ok (.bipush 16, 2) := by decide +kernel
theorem dJ6_bitCount_0f7a4_45 : decode cJ6_bitCount_0f7a4 45 = .ok (.iushr, 1) := by decide +kernel
theorem dJ6_bitCount_0f7a4_46 : decode cJ6_bitCount_0f7a4 46 = .ok (.iadd, 1) := by decide +kernel
theorem dJ6_bitCount_0f7a4_47 : decode cJ6_bitCount_0f7a4 47 = .ok (.istore_n 0, 1) := by decide +kernel
theorem dJ6_bitCount_0f7a4_48 : decode cJ6_bitCount_0f7a4 48 = .ok (.iload_n 0, 1) := by decide +kernel
theorem dJ6_bitCount_0f7a4_49 : decode cJ6_bitCount_0f7a4 49 = .ok (.bipush 63, 2) := by decide +kernel
theorem dJ6_bitCount_0f7a4_51 : decode cJ6_bitCount_0f7a4 51 = .ok (.iand, 1) := by decide +kernel
theorem dJ6_bitCount_0f7a4_52 : decode cJ6_bitCount_0f7a4 52 = .ok (.ireturn, 1) := by decide +kernel
theorem dJ9_max_7cf53_0 : decode cJ9_max_7cf53 0 = .ok (.iload_n 0, 1) := by decide +kernel
theorem dJ9_max_7cf53_1 : decode cJ9_max_7cf53 1 = .ok (.iload_n 1, 1) := by decide +kernel
theorem dJ9_max_7cf53_2 : decode cJ9_max_7cf53 2 = .ok (.if_icmp .lt 7, 3) := by decide +kernel
theorem dJ9_max_7cf53_5 : decode cJ9_max_7cf53 5 = .ok (.iload_n 0, 1) := by decide +kernel
theorem dJ9_max_7cf53_6 : decode cJ9_max_7cf53 6 = .ok (.goto 4, 3) := by decide +kernel
theorem dJ9_max_7cf53_9 : decode cJ9_max_7cf53 9 = .ok (.iload_n 1, 1) := by decide +kernel
theorem dJ9_max_7cf53_10 : decode cJ9_max_7cf53 10 = .ok (.ireturn, 1) := by decide +kernel
theorem dJ9_min_7cf53_0 : decode cJ9_min_7cf53 0 = .ok (.iload_n 0, 1) := by decide +kernel
theorem dJ9_min_7cf53_1 : decode cJ9_min_7cf53 1 = .ok (.iload_n 1, 1) := by decide +kernel
theorem dJ9_min_7cf53_2 : decode cJ9_min_7cf53 2 = .ok (.if_icmp .gt 7, 3) := by decide +kernel
theorem dJ9_min_7cf53_5 : decode cJ9_min_7cf53 5 = .ok (.iload_n 0, 1) := by decide +kernel
theorem dJ9_min_7cf53_6 : decode cJ9_min_7cf53 6 = .ok (.goto 4, 3) := by decide +kernel
theorem dJ9_min_7cf53_9 : decode cJ9_min_7cf53 9 = .ok (.iload_n 1, 1) := by decide +kernel
theorem dJ9_min_7cf53_10 : decode cJ9_min_7cf53 10 = .ok (.ireturn, 1) := by decide +kernel
theorem dJ7_fill_53178_0 : decode cJ7_fill_53178 0 = .ok (.iconst 0, 1) := by decide +kernel
theorem dJ7_fill_53178_1 : decode cJ7_fill_53178 1 = .ok (.istore_n 2, 1) := by decide +kernel
theorem dJ7_fill_53178_2 : decode cJ7_fill_53178 2 = .ok (.aload_n 0, 1) := by decide +kernel
theorem dJ7_fill_53178_3 : decode cJ7_fill_53178 3 = .ok (.arraylength, 1) := by decide +kernel
theorem dJ7_fill_53178_4 : decode cJ7_fill_53178 4 = .ok (.istore_n 3, 1) := by decide +kernel
theorem dJ7_fill_53178_5 : decode cJ7_fill_53178 5 = .ok (.iload_n 2, 1) := by decide +kernel
theorem dJ7_fill_53178_6 : decode cJ7_fill_53178 6 = .ok (.iload_n 3, 1) := by decide +kernel
theorem dJ7_fill_53178_7 : decode cJ7_fill_53178 7 = .ok (.if_icmp .ge 13, 3) := by decide +kernel
theorem dJ7_fill_53178_10 : decode cJ7_fill_53178 10 = .ok (.aload_n 0, 1) := by decide +kernel
theorem dJ7_fill_53178_11 : decode cJ7_fill_53178 11 = .ok (.iload_n 2, 1) := by decide +kernel
theorem dJ7_fill_53178_12 : decode cJ7_fill_53178 12 = .ok (.iload_n 1, 1) := by decide +kernel
theorem dJ7_fill_53178_13 : decode cJ7_fill_53178 13 = .ok (.iastore, 1) := by decide +kernel
theorem dJ7_fill_53178_14 : decode cJ7_fill_53178 14 = .ok (.iinc 2 1, 3) := by decide +kernel
theorem dJ7_fill_53178_17 : decode cJ7_fill_53178 17 = .ok (.goto (-12), 3) := by decide +kernel
theorem dJ7_fill_53178_20 : decode cJ7_fill_53178 20 = .ok (.return_, 1) := by decide +kernel
theorem dL_cell_0 : decode cL_cell 0 = .ok (.iload_n 1, 1) := by decide +kernel
theorem dL_cell_1 : decode cL_cell 1 = .ok (.aload_n 0, 1) := by decide +kernel
theorem dL_cell_2 : decode cL_cell 2 = .ok (.arraylength, 1) := by decide +kernel
theorem dL_cell_3 : decode cL_cell 3 = .ok (.if_icmp .ge 9, 3) := by decide +kernel
theorem dL_cell_6 : decode cL_cell 6 = .ok (.aload_n 0, 1) := by decide +kernel
theorem dL_cell_7 : decode cL_cell 7 = .ok (.iload_n 1, 1) := by decide +kernel
theorem dL_cell_8 : decode cL_cell 8 = .ok (.iaload, 1) := by decide +kernel
theorem dL_cell_9 : decode cL_cell 9 = .ok (.goto 15, 3) := by decide +kernel
theorem dL_cell_12 : decode cL_cell 12 = .ok (.ldc 7, 2) := by decide +kernel
theorem dL_cell_14 : decode cL_cell 14 = .ok (.iload_n 1, 1) := by decide +kernel
theorem dL_cell_15 : decode cL_cell 15 = .ok (.sipush 4096, 3) := by decide +kernel
theorem dL_cell_18 : decode cL_cell 18 = .ok (.irem, 1) := by decide +kernel
theorem dL_cell_19 : decode cL_cell 19 = .ok (.imul, 1) := by decide +kernel
theorem dL_cell_20 : decode cL_cell 20 = .ok (.sipush 307, 3) := by decide +kernel
theorem dL_cell_23 : decode cL_cell 23 = .ok (.iadd, 1) := by decide +kernel
theorem dL_cell_24 : decode cL_cell 24 = .ok (.ldc 8, 2) := by decide +kernel
theorem dL_cell_26 : decode cL_cell 26 = .ok (.iand, 1) := by decide +kernel
theorem dL_cell_27 : decode cL_cell 27 = .ok (.ireturn, 1) := by decide +kernel
theorem dL_put_0 : decode cL_put 0 = .ok (.aload_n 0, 1) := by decide +kernel
theorem dL_put_1 : decode cL_put 1 = .ok (.iload_n 1, 1) := by decide +kernel
theorem dL_put_2 : decode cL_put 2 = .ok (.iload_n 2, 1) := by decide +kernel
theorem dL_put_3 : decode cL_put 3 = .ok (.iload_n 3, 1) := by decide +kernel
theorem dL_put_4 : decode cL_put 4 = .ok (.invokevirtual 9, 3) := by decide +kernel
theorem dL_put_7 : decode cL_put 7 = .ok (.ireturn, 1) := by decide +kernel
theorem dL_put_8 : decode cL_put 8 = .ok (.astore 4, 2) := by decide +kernel
theorem dL_put_10 : decode cL_put 10 = .ok (.ldc 17, 2) := by decide +kernel
theorem dL_put_12 : decode cL_put 12 = .ok (.ireturn, 1) := by decide +kernel
theorem dL_put_13 : decode cL_put 13 = .ok (.astore 4, 2) := by decide +kernel
theorem dL_put_15 : decode cL_put 15 = .ok (.ldc 20, 2) := by decide +kernel
theorem dL_put_17 : decode cL_put 17 = .ok (.ireturn, 1) := by decide +kernel
theorem dL_take_0 : decode cL_take 0 = .ok (.aload_n 0, 1) := by decide +kernel
theorem dL_take_1 : decode cL_take 1 = .ok (.iload_n 1, 1) := by decide +kernel
theorem dL_take_2 : decode cL_take 2 = .ok (.invokevirtual 21, 3) := by decide +kernel
theorem dL_take_5 : decode cL_take 5 = .ok (.ireturn, 1) := by decide +kernel
theorem dL_take_6 : decode cL_take 6 = .ok (.astore_n 2, 1) := by decide +kernel
theorem dL_take_7 : decode cL_take 7 = .ok (.ldc 17, 2) := by decide +kernel
theorem dL_take_9 : decode cL_take 9 = .ok (.ireturn, 1) := by decide +kernel
theorem dL_take_10 : decode cL_take 10 = .ok (.astore_n 2, 1) := by decide +kernel
theorem dL_take_11 : decode cL_take 11 = .ok (.ldc 20, 2) := by decide +kernel
theorem dL_take_13 : decode cL_take 13 = .ok (.ireturn, 1) := by decide +kernel
theorem dL_fill_0 : decode cL_fill 0 = .ok (.aload_n 0, 1) := by decide +kernel
theorem dL_fill_1 : decode cL_fill 1 = .ok (.iload_n 1, 1) := by decide +kernel
theorem dL_fill_2 : decode cL_fill 2 = .ok (.iload_n 2, 1) := by decide +kernel
theorem dL_fill_3 : decode cL_fill 3 = .ok (.invokevirtual 27, 3) := by decide +kernel
theorem dL_fill_6 : decode cL_fill 6 = .ok (.ireturn, 1) := by decide +kernel
theorem dL_fill_7 : decode cL_fill 7 = .ok (.astore_n 3, 1) := by decide +kernel
theorem dL_fill_8 : decode cL_fill 8 = .ok (.ldc 17, 2) := by decide +kernel
theorem dL_fill_10 : decode cL_fill 10 = .ok (.ireturn, 1) := by decide +kernel
theorem dL_fill_11 : decode cL_fill 11 = .ok (.astore_n 3, 1) := by decide +kernel
theorem dL_fill_12 : decode cL_fill 12 = .ok (.ldc 20, 2) := by decide +kernel
theorem dL_fill_14 : decode cL_fill 14 = .ok (.ireturn, 1) := by decide +kernel
theorem dL_fill_15 : decode cL_fill 15 = .ok (.astore_n 3, 1) := by decide +kernel
theorem dL_fill_16 : decode cL_fill 16 = .ok (.ldc 31, 2) := by decide +kernel
theorem dL_fill_18 : decode cL_fill 18 = .ok (.ireturn, 1) := by decide +kernel
theorem dL_buy_0 : decode cL_buy 0 = .ok (.aload_n 0, 1) := by decide +kernel
theorem dL_buy_1 : decode cL_buy 1 = .ok (.iload_n 1, 1) := by decide +kernel
theorem dL_buy_2 : decode cL_buy 2 = .ok (.invokevirtual 32, 3) := by decide +kernel
theorem dL_buy_5 : decode cL_buy 5 = .ok (.ireturn, 1) := by decide +kernel
theorem dL_buy_6 : decode cL_buy 6 = .ok (.astore_n 2, 1) := by decide +kernel
theorem dL_buy_7 : decode cL_buy 7 = .ok (.ldc 17, 2) := by decide +kernel
theorem dL_buy_9 : decode cL_buy 9 = .ok (.ireturn, 1) := by decide +kernel
theorem dL_buy_10 : decode cL_buy 10 = .ok (.astore_n 2, 1) := by decide +kernel
theorem dL_buy_11 : decode cL_buy 11 = .ok (.ldc 20, 2) := by decide +kernel
theorem dL_buy_13 : decode cL_buy 13 = .ok (.ireturn, 1) := by decide +kernel
theorem dL_seed_0 : decode cL_seed 0 = .ok (.aload_n 0, 1) := by decide +kernel
theorem dL_seed_1 : decode cL_seed 1 = .ok (.iload_n 1, 1) := by decide +kernel
theorem dL_seed_2 : decode cL_seed 2 = .ok (.invokevirtual 35, 3) := by decide +kernel
theorem dL_seed_5 : decode cL_seed 5 = .ok (.ireturn, 1) := by decide +kernel
theorem dL_seed_6 : decode cL_seed 6 = .ok (.astore_n 2, 1) := by decide +kernel
theorem dL_seed_7 : decode cL_seed 7 = .ok (.ldc 17, 2) := by decide +kernel
theorem dL_seed_9 : decode cL_seed 9 = .ok (.ireturn, 1) := by decide +kernel
theorem dL_set_0 : decode cL_set 0 = .ok (.aload_n 0, 1) := by decide +kernel
theorem dL_set_1 : decode cL_set 1 = .ok (.iload_n 1, 1) := by decide +kernel
theorem dL_set_2 : decode cL_set 2 = .ok (.iload_n 2, 1) := by decide +kernel
theorem dL_set_3 : decode cL_set 3 = .ok (.invokevirtual 38, 3) := by decide +kernel
theorem dL_set_6 : decode cL_set 6 = .ok (.ireturn, 1) := by decide +kernel
theorem dL_set_7 : decode cL_set 7 = .ok (.astore_n 3, 1) := by decide +kernel
theorem dL_set_8 : decode cL_set 8 = .ok (.ldc 17, 2) := by decide +kernel
theorem dL_set_10 : decode cL_set 10 = .ok (.ireturn, 1) := by decide +kernel
theorem dL_set_11 : decode cL_set 11 = .ok (.astore_n 3, 1) := by decide +kernel
theorem dL_set_12 : decode cL_set 12 = .ok (.ldc 20, 2) := by decide +kernel
theorem dL_set_14 : decode cL_set 14 = .ok (.ireturn, 1) := by decide +kernel
theorem dL_draw_0 : decode cL_draw 0 = .ok (.aload_n 0, 1) := by decide +kernel
theorem dL_draw_1 : decode cL_draw 1 = .ok (.iload_n 1, 1) := by decide +kernel
theorem dL_draw_2 : decode cL_draw 2 = .ok (.invokevirtual 41, 3) := by decide +kernel
theorem dL_draw_5 : decode cL_draw 5 = .ok (.ireturn, 1) := by decide +kernel
theorem dL_draw_6 : decode cL_draw 6 = .ok (.astore_n 2, 1) := by decide +kernel
theorem dL_draw_7 : decode cL_draw 7 = .ok (.ldc 17, 2) := by decide +kernel
theorem dL_draw_9 : decode cL_draw 9 = .ok (.ireturn, 1) := by decide +kernel
theorem dL_draw_10 : decode cL_draw 10 = .ok (.astore_n 2, 1) := by decide +kernel
theorem dL_draw_11 : decode cL_draw 11 = .ok (.ldc 20, 2) := by decide +kernel
theorem dL_draw_13 : decode cL_draw 13 = .ok (.ireturn, 1) := by decide +kernel
theorem dL_claim_0 : decode cL_claim 0 = .ok (.aload_n 0, 1) := by decide +kernel
theorem dL_claim_1 : decode cL_claim 1 = .ok (.iload_n 1, 1) := by decide +kernel
theorem dL_claim_2 : decode cL_claim 2 = .ok (.iload_n 2, 1) := by decide +kernel
theorem dL_claim_3 : decode cL_claim 3 = .ok (.invokevirtual 44, 3) := by decide +kernel
theorem dL_claim_6 : decode cL_claim 6 = .ok (.ireturn, 1) := by decide +kernel
theorem dL_claim_7 : decode cL_claim 7 = .ok (.astore_n 3, 1) := by decide +kernel
theorem dL_claim_8 : decode cL_claim 8 = .ok (.ldc 17, 2) := by decide +kernel
theorem dL_claim_10 : decode cL_claim 10 = .ok (.ireturn, 1) := by decide +kernel
theorem dL_claim_11 : decode cL_claim 11 = .ok (.astore_n 3, 1) := by decide +kernel
theorem dL_claim_12 : decode cL_claim 12 = .ok (.ldc 20, 2) := by decide +kernel
theorem dL_claim_14 : decode cL_claim 14 = .ok (.ireturn, 1) := by decide +kernel
theorem dL_append_0 : decode cL_append 0 = .ok (.aload_n 0, 1) := by decide +kernel
theorem dL_append_1 : decode cL_append 1 = .ok (.iload_n 1, 1) := by decide +kernel
theorem dL_append_2 : decode cL_append 2 = .ok (.invokevirtual 47, 3) := by decide +kernel
theorem dL_append_5 : decode cL_append 5 = .ok (.ireturn, 1) := by decide +kernel
theorem dL_append_6 : decode cL_append 6 = .ok (.astore_n 2, 1) := by decide +kernel
theorem dL_append_7 : decode cL_append 7 = .ok (.ldc 17, 2) := by decide +kernel
theorem dL_append_9 : decode cL_append 9 = .ok (.ireturn, 1) := by decide +kernel
theorem dL_append_10 : decode cL_append 10 = .ok (.astore_n 2, 1) := by decide +kernel
theorem dL_append_11 : decode cL_append 11 = .ok (.ldc 20, 2) := by decide +kernel
theorem dL_append_13 : decode cL_append 13 = .ok (.ireturn, 1) := by decide +kernel
theorem dL_run_0 : decode cL_run 0 = .ok (.aload_n 0, 1) := by decide +kernel
theorem dL_run_1 : decode cL_run 1 = .ok (.invokevirtual 50, 3) := by decide +kernel
theorem dL_run_4 : decode cL_run 4 = .ok (.ireturn, 1) := by decide +kernel
theorem dL_run_5 : decode cL_run 5 = .ok (.astore_n 1, 1) := by decide +kernel
theorem dL_run_6 : decode cL_run 6 = .ok (.ldc 17, 2) := by decide +kernel
theorem dL_run_8 : decode cL_run 8 = .ok (.ireturn, 1) := by decide +kernel
theorem dL_keep_0 : decode cL_keep 0 = .ok (.aload_n 0, 1) := by decide +kernel
theorem dL_keep_1 : decode cL_keep 1 = .ok (.iload_n 1, 1) := by decide +kernel
theorem dL_keep_2 : decode cL_keep 2 = .ok (.invokevirtual 54, 3) := by decide +kernel
theorem dL_keep_5 : decode cL_keep 5 = .ok (.ireturn, 1) := by decide +kernel
theorem dL_keep_6 : decode cL_keep 6 = .ok (.astore_n 2, 1) := by decide +kernel
theorem dL_keep_7 : decode cL_keep 7 = .ok (.ldc 17, 2) := by decide +kernel
theorem dL_keep_9 : decode cL_keep 9 = .ok (.ireturn, 1) := by decide +kernel
theorem dL_goBack_0 : decode cL_goBack 0 = .ok (.aload_n 0, 1) := by decide +kernel
theorem dL_goBack_1 : decode cL_goBack 1 = .ok (.iload_n 1, 1) := by decide +kernel
theorem dL_goBack_2 : decode cL_goBack 2 = .ok (.invokevirtual 57, 3) := by decide +kernel
theorem dL_goBack_5 : decode cL_goBack 5 = .ok (.ireturn, 1) := by decide +kernel
theorem dL_goBack_6 : decode cL_goBack 6 = .ok (.astore_n 2, 1) := by decide +kernel
theorem dL_goBack_7 : decode cL_goBack 7 = .ok (.ldc 17, 2) := by decide +kernel
theorem dL_goBack_9 : decode cL_goBack 9 = .ok (.ireturn, 1) := by decide +kernel
theorem dL_goBack_10 : decode cL_goBack 10 = .ok (.astore_n 2, 1) := by decide +kernel
theorem dL_goBack_11 : decode cL_goBack 11 = .ok (.ldc 20, 2) := by decide +kernel
theorem dL_goBack_13 : decode cL_goBack 13 = .ok (.ireturn, 1) := by decide +kernel
theorem dL_undo_0 : decode cL_undo 0 = .ok (.aload_n 0, 1) := by decide +kernel
theorem dL_undo_1 : decode cL_undo 1 = .ok (.invokevirtual 60, 3) := by decide +kernel
theorem dL_undo_4 : decode cL_undo 4 = .ok (.ireturn, 1) := by decide +kernel
theorem dL_undo_5 : decode cL_undo 5 = .ok (.astore_n 1, 1) := by decide +kernel
theorem dL_undo_6 : decode cL_undo 6 = .ok (.ldc 17, 2) := by decide +kernel
theorem dL_undo_8 : decode cL_undo 8 = .ok (.ireturn, 1) := by decide +kernel
theorem dL_at_0 : decode cL_at 0 = .ok (.aload_n 0, 1) := by decide +kernel
theorem dL_at_1 : decode cL_at 1 = .ok (.iload_n 1, 1) := by decide +kernel
theorem dL_at_2 : decode cL_at 2 = .ok (.iload_n 2, 1) := by decide +kernel
theorem dL_at_3 : decode cL_at 3 = .ok (.iload_n 3, 1) := by decide +kernel
theorem dL_at_4 : decode cL_at 4 = .ok (.invokevirtual 63, 3) := by decide +kernel
theorem dL_at_7 : decode cL_at 7 = .ok (.ireturn, 1) := by decide +kernel
theorem dL_at_8 : decode cL_at 8 = .ok (.astore 4, 2) := by decide +kernel
theorem dL_at_10 : decode cL_at 10 = .ok (.ldc 17, 2) := by decide +kernel
theorem dL_at_12 : decode cL_at 12 = .ok (.ireturn, 1) := by decide +kernel
theorem dL_cardOf_0 : decode cL_cardOf 0 = .ok (.aload_n 0, 1) := by decide +kernel
theorem dL_cardOf_1 : decode cL_cardOf 1 = .ok (.iload_n 1, 1) := by decide +kernel
theorem dL_cardOf_2 : decode cL_cardOf 2 = .ok (.iload_n 2, 1) := by decide +kernel
theorem dL_cardOf_3 : decode cL_cardOf 3 = .ok (.invokevirtual 66, 3) := by decide +kernel
theorem dL_cardOf_6 : decode cL_cardOf 6 = .ok (.ireturn, 1) := by decide +kernel
theorem dL_cardOf_7 : decode cL_cardOf 7 = .ok (.astore_n 3, 1) := by decide +kernel
theorem dL_cardOf_8 : decode cL_cardOf 8 = .ok (.ldc 17, 2) := by decide +kernel
theorem dL_cardOf_10 : decode cL_cardOf 10 = .ok (.ireturn, 1) := by decide +kernel
theorem dL_cardOf_11 : decode cL_cardOf 11 = .ok (.astore_n 3, 1) := by decide +kernel
theorem dL_cardOf_12 : decode cL_cardOf 12 = .ok (.ldc 20, 2) := by decide +kernel
theorem dL_cardOf_14 : decode cL_cardOf 14 = .ok (.ireturn, 1) := by decide +kernel
theorem dL_numberOf_0 : decode cL_numberOf 0 = .ok (.aload_n 0, 1) := by decide +kernel
theorem dL_numberOf_1 : decode cL_numberOf 1 = .ok (.iload_n 1, 1) := by decide +kernel
theorem dL_numberOf_2 : decode cL_numberOf 2 = .ok (.iload_n 2, 1) := by decide +kernel
theorem dL_numberOf_3 : decode cL_numberOf 3 = .ok (.invokevirtual 69, 3) := by decide +kernel
theorem dL_numberOf_6 : decode cL_numberOf 6 = .ok (.ireturn, 1) := by decide +kernel
theorem dL_numberOf_7 : decode cL_numberOf 7 = .ok (.astore_n 3, 1) := by decide +kernel
theorem dL_numberOf_8 : decode cL_numberOf 8 = .ok (.ldc 17, 2) := by decide +kernel
theorem dL_numberOf_10 : decode cL_numberOf 10 = .ok (.ireturn, 1) := by decide +kernel
theorem dL_called_0 : decode cL_called 0 = .ok (.aload_n 0, 1) := by decide +kernel
theorem dL_called_1 : decode cL_called 1 = .ok (.iload_n 1, 1) := by decide +kernel
theorem dL_called_2 : decode cL_called 2 = .ok (.iload_n 2, 1) := by decide +kernel
theorem dL_called_3 : decode cL_called 3 = .ok (.invokevirtual 72, 3) := by decide +kernel
theorem dL_called_6 : decode cL_called 6 = .ok (.ireturn, 1) := by decide +kernel
theorem dL_called_7 : decode cL_called 7 = .ok (.astore_n 3, 1) := by decide +kernel
theorem dL_called_8 : decode cL_called 8 = .ok (.ldc 17, 2) := by decide +kernel
theorem dL_called_10 : decode cL_called 10 = .ok (.ireturn, 1) := by decide +kernel
theorem dL_gameOf_0 : decode cL_gameOf 0 = .ok (.aload_n 0, 1) := by decide +kernel
theorem dL_gameOf_1 : decode cL_gameOf 1 = .ok (.iload_n 1, 1) := by decide +kernel
theorem dL_gameOf_2 : decode cL_gameOf 2 = .ok (.iload_n 2, 1) := by decide +kernel
theorem dL_gameOf_3 : decode cL_gameOf 3 = .ok (.invokevirtual 75, 3) := by decide +kernel
theorem dL_gameOf_6 : decode cL_gameOf 6 = .ok (.ireturn, 1) := by decide +kernel
theorem dL_gameOf_7 : decode cL_gameOf 7 = .ok (.astore_n 3, 1) := by decide +kernel
theorem dL_gameOf_8 : decode cL_gameOf 8 = .ok (.ldc 17, 2) := by decide +kernel
theorem dL_gameOf_10 : decode cL_gameOf 10 = .ok (.ireturn, 1) := by decide +kernel
theorem dL_gameOf_11 : decode cL_gameOf 11 = .ok (.astore_n 3, 1) := by decide +kernel
theorem dL_gameOf_12 : decode cL_gameOf 12 = .ok (.ldc 20, 2) := by decide +kernel
theorem dL_gameOf_14 : decode cL_gameOf 14 = .ok (.ireturn, 1) := by decide +kernel
theorem dL_count_0 : decode cL_count 0 = .ok (.aload_n 0, 1) := by decide +kernel
theorem dL_count_1 : decode cL_count 1 = .ok (.iload_n 1, 1) := by decide +kernel
theorem dL_count_2 : decode cL_count 2 = .ok (.invokevirtual 78, 3) := by decide +kernel
theorem dL_count_5 : decode cL_count 5 = .ok (.ireturn, 1) := by decide +kernel
theorem dL_count_6 : decode cL_count 6 = .ok (.astore_n 2, 1) := by decide +kernel
theorem dL_count_7 : decode cL_count 7 = .ok (.ldc 17, 2) := by decide +kernel
theorem dL_count_9 : decode cL_count 9 = .ok (.ireturn, 1) := by decide +kernel
theorem dL_setting_0 : decode cL_setting 0 = .ok (.aload_n 0, 1) := by decide +kernel
theorem dL_setting_1 : decode cL_setting 1 = .ok (.iload_n 1, 1) := by decide +kernel
theorem dL_setting_2 : decode cL_setting 2 = .ok (.invokevirtual 81, 3) := by decide +kernel
theorem dL_setting_5 : decode cL_setting 5 = .ok (.ireturn, 1) := by decide +kernel
theorem dL_setting_6 : decode cL_setting 6 = .ok (.astore_n 2, 1) := by decide +kernel
theorem dL_setting_7 : decode cL_setting 7 = .ok (.ldc 17, 2) := by decide +kernel
theorem dL_setting_9 : decode cL_setting 9 = .ok (.ireturn, 1) := by decide +kernel
theorem dL_whyNot_0 : decode cL_whyNot 0 = .ok (.aload_n 0, 1) := by decide +kernel
theorem dL_whyNot_1 : decode cL_whyNot 1 = .ok (.iload_n 1, 1) := by decide +kernel
theorem dL_whyNot_2 : decode cL_whyNot 2 = .ok (.iload_n 2, 1) := by decide +kernel
theorem dL_whyNot_3 : decode cL_whyNot 3 = .ok (.iload_n 3, 1) := by decide +kernel
theorem dL_whyNot_4 : decode cL_whyNot 4 = .ok (.invokevirtual 84, 3) := by decide +kernel
theorem dL_whyNot_7 : decode cL_whyNot 7 = .ok (.ireturn, 1) := by decide +kernel
theorem dL_whyNot_8 : decode cL_whyNot 8 = .ok (.astore 4, 2) := by decide +kernel
theorem dL_whyNot_10 : decode cL_whyNot 10 = .ok (.ldc 17, 2) := by decide +kernel
theorem dL_whyNot_12 : decode cL_whyNot 12 = .ok (.ireturn, 1) := by decide +kernel
theorem dL_whyNot_13 : decode cL_whyNot 13 = .ok (.astore 4, 2) := by decide +kernel
theorem dL_whyNot_15 : decode cL_whyNot 15 = .ok (.ldc 20, 2) := by decide +kernel
theorem dL_whyNot_17 : decode cL_whyNot 17 = .ok (.ireturn, 1) := by decide +kernel
theorem dL_ifClaimed_0 : decode cL_ifClaimed 0 = .ok (.aload_n 0, 1) := by decide +kernel
theorem dL_ifClaimed_1 : decode cL_ifClaimed 1 = .ok (.iload_n 1, 1) := by decide +kernel
theorem dL_ifClaimed_2 : decode cL_ifClaimed 2 = .ok (.iload_n 2, 1) := by decide +kernel
theorem dL_ifClaimed_3 : decode cL_ifClaimed 3 = .ok (.invokevirtual 87, 3) := by decide +kernel
theorem dL_ifClaimed_6 : decode cL_ifClaimed 6 = .ok (.ireturn, 1) := by decide +kernel
theorem dL_ifClaimed_7 : decode cL_ifClaimed 7 = .ok (.astore_n 3, 1) := by decide +kernel
theorem dL_ifClaimed_8 : decode cL_ifClaimed 8 = .ok (.ldc 17, 2) := by decide +kernel
theorem dL_ifClaimed_10 : decode cL_ifClaimed 10 = .ok (.ireturn, 1) := by decide +kernel
theorem dL_missing_0 : decode cL_missing 0 = .ok (.aload_n 0, 1) := by decide +kernel
theorem dL_missing_1 : decode cL_missing 1 = .ok (.iload_n 1, 1) := by decide +kernel
theorem dL_missing_2 : decode cL_missing 2 = .ok (.iload_n 2, 1) := by decide +kernel
theorem dL_missing_3 : decode cL_missing 3 = .ok (.iload_n 3, 1) := by decide +kernel
theorem dL_missing_4 : decode cL_missing 4 = .ok (.invokevirtual 90, 3) := by decide +kernel
theorem dL_missing_7 : decode cL_missing 7 = .ok (.ireturn, 1) := by decide +kernel
theorem dL_missing_8 : decode cL_missing 8 = .ok (.astore 4, 2) := by decide +kernel
theorem dL_missing_10 : decode cL_missing 10 = .ok (.ldc 17, 2) := by decide +kernel
theorem dL_missing_12 : decode cL_missing 12 = .ok (.ireturn, 1) := by decide +kernel
theorem dL_missing_13 : decode cL_missing 13 = .ok (.astore 4, 2) := by decide +kernel
theorem dL_missing_15 : decode cL_missing 15 = .ok (.ldc 20, 2) := by decide +kernel
theorem dL_missing_17 : decode cL_missing 17 = .ok (.ireturn, 1) := by decide +kernel
theorem dL_fullAt_0 : decode cL_fullAt 0 = .ok (.aload_n 0, 1) := by decide +kernel
theorem dL_fullAt_1 : decode cL_fullAt 1 = .ok (.iload_n 1, 1) := by decide +kernel
theorem dL_fullAt_2 : decode cL_fullAt 2 = .ok (.iload_n 2, 1) := by decide +kernel
theorem dL_fullAt_3 : decode cL_fullAt 3 = .ok (.invokevirtual 93, 3) := by decide +kernel
theorem dL_fullAt_6 : decode cL_fullAt 6 = .ok (.ireturn, 1) := by decide +kernel
theorem dL_fullAt_7 : decode cL_fullAt 7 = .ok (.astore_n 3, 1) := by decide +kernel
theorem dL_fullAt_8 : decode cL_fullAt 8 = .ok (.ldc 17, 2) := by decide +kernel
theorem dL_fullAt_10 : decode cL_fullAt 10 = .ok (.ireturn, 1) := by decide +kernel
theorem dL_fullAt_11 : decode cL_fullAt 11 = .ok (.astore_n 3, 1) := by decide +kernel
theorem dL_fullAt_12 : decode cL_fullAt 12 = .ok (.ldc 20, 2) := by decide +kernel
theorem dL_fullAt_14 : decode cL_fullAt 14 = .ok (.ireturn, 1) := by decide +kernel
theorem dL_next_0 : decode cL_next 0 = .ok (.aload_n 0, 1) := by decide +kernel
theorem dL_next_1 : decode cL_next 1 = .ok (.iload_n 1, 1) := by decide +kernel
theorem dL_next_2 : decode cL_next 2 = .ok (.invokevirtual 96, 3) := by decide +kernel
theorem dL_next_5 : decode cL_next 5 = .ok (.ireturn, 1) := by decide +kernel
theorem dL_next_6 : decode cL_next 6 = .ok (.astore_n 2, 1) := by decide +kernel
theorem dL_next_7 : decode cL_next 7 = .ok (.ldc 17, 2) := by decide +kernel
theorem dL_next_9 : decode cL_next 9 = .ok (.ireturn, 1) := by decide +kernel
theorem dL_lays_0 : decode cL_lays 0 = .ok (.iconst 1, 1) := by decide +kernel
theorem dL_lays_1 : decode cL_lays 1 = .ok (.istore_n 2, 1) := by decide +kernel
theorem dL_lays_2 : decode cL_lays 2 = .ok (.iconst 0, 1) := by decide +kernel
theorem dL_lays_3 : decode cL_lays 3 = .ok (.istore_n 3, 1) := by decide +kernel
theorem dL_lays_4 : decode cL_lays 4 = .ok (.iload_n 3, 1) := by decide +kernel
theorem dL_lays_5 : decode cL_lays 5 = .ok (.bipush 15, 2) := by decide +kernel
theorem dL_lays_7 : decode cL_lays 7 = .ok (.if_icmp .ge 72, 3) := by decide +kernel
theorem dL_lays_10 : decode cL_lays 10 = .ok (.iload_n 2, 1) := by decide +kernel
theorem dL_lays_11 : decode cL_lays 11 = .ok (.ifCond .eq 68, 3) := by decide +kernel
theorem dL_lays_14 : decode cL_lays 14 = .ok (.iload_n 3, 1) := by decide +kernel
theorem dL_lays_15 : decode cL_lays 15 = .ok (.iconst 5, 1) := by decide +kernel
theorem dL_lays_16 : decode cL_lays 16 = .ok (.idiv, 1) := by decide +kernel
theorem dL_lays_17 : decode cL_lays 17 = .ok (.istore 4, 2) := by decide +kernel
theorem dL_lays_19 : decode cL_lays 19 = .ok (.iload 4, 2) := by decide +kernel
theorem dL_lays_21 : decode cL_lays 21 = .ok (.iconst 2, 1) := by decide +kernel
theorem dL_lays_22 : decode cL_lays 22 = .ok (.iload_n 3, 1) := by decide +kernel
theorem dL_lays_23 : decode cL_lays 23 = .ok (.iconst 5, 1) := by decide +kernel
theorem dL_lays_24 : decode cL_lays 24 = .ok (.irem, 1) := by decide +kernel
theorem dL_lays_25 : decode cL_lays 25 = .ok (.imul, 1) := by decide +kernel
theorem dL_lays_26 : decode cL_lays 26 = .ok (.iadd, 1) := by decide +kernel
theorem dL_lays_27 : decode cL_lays 27 = .ok (.bipush 9, 2) := by decide +kernel
theorem dL_lays_29 : decode cL_lays 29 = .ok (.irem, 1) := by decide +kernel
theorem dL_lays_30 : decode cL_lays 30 = .ok (.istore 5, 2) := by decide +kernel
theorem dL_lays_32 : decode cL_lays 32 = .ok (.aload_n 0, 1) := by decide +kernel
theorem dL_lays_33 : decode cL_lays 33 = .ok (.iload_n 1, 1) := by decide +kernel
theorem dL_lays_34 : decode cL_lays 34 = .ok (.iload 4, 2) := by decide +kernel
theorem dL_lays_36 : decode cL_lays 36 = .ok (.bipush 10, 2) := by decide +kernel
theorem dL_lays_38 : decode cL_lays 38 = .ok (.iload 5, 2) := by decide +kernel
theorem dL_lays_40 : decode cL_lays 40 = .ok (.imul, 1) := by decide +kernel
theorem dL_lays_41 : decode cL_lays 41 = .ok (.iconst 3, 1) := by decide +kernel
theorem dL_lays_42 : decode cL_lays 42 = .ok (.iload_n 1, 1) := by decide +kernel
theorem dL_lays_43 : decode cL_lays 43 = .ok (.iconst 3, 1) := by decide +kernel
theorem dL_lays_44 : decode cL_lays 44 = .ok (.irem, 1) := by decide +kernel
theorem dL_lays_45 : decode cL_lays 45 = .ok (.imul, 1) := by decide +kernel
theorem dL_lays_46 : decode cL_lays 46 = .ok (.iadd, 1) := by decide +kernel
theorem dL_lays_47 : decode cL_lays 47 = .ok (.iload 4, 2) := by decide +kernel
theorem dL_lays_49 : decode cL_lays 49 = .ok (.iadd, 1) := by decide +kernel
theorem dL_lays_50 : decode cL_lays 50 = .ok (.iload 5, 2) := by decide +kernel
theorem dL_lays_52 : decode cL_lays 52 = .ok (.ifCond .ne 7, 3) := by decide +kernel
theorem dL_lays_55 : decode cL_lays 55 = .ok (.iconst 1, 1) := by decide +kernel
theorem dL_lays_56 : decode cL_lays 56 = .ok (.goto 4, 3) := by decide +kernel
theorem dL_lays_59 : decode cL_lays 59 = .ok (.iconst 0, 1) := by decide +kernel
theorem dL_lays_60 : decode cL_lays 60 = .ok (.iadd, 1) := by decide +kernel
theorem dL_lays_61 : decode cL_lays 61 = .ok (.invokestatic 99, 3) := by decide +kernel
theorem dL_lays_64 : decode cL_lays 64 = .ok (.ifCond .ne 7, 3) := by decide +kernel
theorem dL_lays_67 : decode cL_lays 67 = .ok (.iconst 1, 1) := by decide +kernel
theorem dL_lays_68 : decode cL_lays 68 = .ok (.goto 4, 3) := by decide +kernel
theorem dL_lays_71 : decode cL_lays 71 = .ok (.iconst 0, 1) := by decide +kernel
theorem dL_lays_72 : decode cL_lays 72 = .ok (.istore_n 2, 1) := by decide +kernel
theorem dL_lays_73 : decode cL_lays 73 = .ok (.iinc 3 1, 3) := by decide +kernel
theorem dL_lays_76 : decode cL_lays 76 = .ok (.goto (-72), 3) := by decide +kernel
theorem dL_lays_79 : decode cL_lays 79 = .ok (.iload_n 2, 1) := by decide +kernel
theorem dL_lays_80 : decode cL_lays 80 = .ok (.ireturn, 1) := by decide +kernel
theorem dL_acts_0 : decode cL_acts 0 = .ok (.iload_n 1, 1) := by decide +kernel
theorem dL_acts_1 : decode cL_acts 1 = .ok (.bipush 16, 2) := by decide +kernel
theorem dL_acts_3 : decode cL_acts 3 = .ok (.idiv, 1) := by decide +kernel
theorem dL_acts_4 : decode cL_acts 4 = .ok (.istore_n 2, 1) := by decide +kernel
theorem dL_acts_5 : decode cL_acts 5 = .ok (.iload_n 1, 1) := by decide +kernel
theorem dL_acts_6 : decode cL_acts 6 = .ok (.bipush 16, 2) := by decide +kernel
theorem dL_acts_8 : decode cL_acts 8 = .ok (.irem, 1) := by decide +kernel
theorem dL_acts_9 : decode cL_acts 9 = .ok (.tableswitch 270 0 12 #[67, 91, 102, 120, 120, 129, 204, 229, 229, 229, 229, 229, 242], 67) := by decide +kernel
theorem dL_acts_76 : decode cL_acts 76 = .ok (.aload_n 0, 1) := by decide +kernel
theorem dL_acts_77 : decode cL_acts 77 = .ok (.iload_n 2, 1) := by decide +kernel
theorem dL_acts_78 : decode cL_acts 78 = .ok (.bipush 6, 2) := by decide +kernel
theorem dL_acts_80 : decode cL_acts 80 = .ok (.irem, 1) := by decide +kernel
theorem dL_acts_81 : decode cL_acts 81 = .ok (.iload_n 2, 1) := by decide +kernel
theorem dL_acts_82 : decode cL_acts 82 = .ok (.bipush 8, 2) := by decide +kernel
theorem dL_acts_84 : decode cL_acts 84 = .ok (.idiv, 1) := by decide +kernel
theorem dL_acts_85 : decode cL_acts 85 = .ok (.iconst 3, 1) := by decide +kernel
theorem dL_acts_86 : decode cL_acts 86 = .ok (.irem, 1) := by decide +kernel
theorem dL_acts_87 : decode cL_acts 87 = .ok (.iconst 1, 1) := by decide +kernel
theorem dL_acts_88 : decode cL_acts 88 = .ok (.iload_n 2, 1) := by decide +kernel
theorem dL_acts_89 : decode cL_acts 89 = .ok (.bipush 32, 2) := by decide +kernel
theorem dL_acts_91 : decode cL_acts 91 = .ok (.idiv, 1) := by decide +kernel
theorem dL_acts_92 : decode cL_acts 92 = .ok (.bipush 90, 2) := by decide +kernel
theorem dL_acts_94 : decode cL_acts 94 = .ok (.irem, 1) := by decide +kernel
theorem dL_acts_95 : decode cL_acts 95 = .ok (.iadd, 1) := by decide +kernel
theorem dL_acts_96 : decode cL_acts 96 = .ok (.invokestatic 99, 3) := by decide +kernel
theorem dL_acts_99 : decode cL_acts 99 = .ok (.ireturn, 1) := by decide +kernel
theorem dL_acts_100 : decode cL_acts 100 = .ok (.aload_n 0, 1) := by decide +kernel
theorem dL_acts_101 : decode cL_acts 101 = .ok (.iconst 1, 1) := by decide +kernel
theorem dL_acts_102 : decode cL_acts 102 = .ok (.iload_n 2, 1) := by decide +kernel
theorem dL_acts_103 : decode cL_acts 103 = .ok (.bipush 90, 2) := by decide +kernel
theorem dL_acts_105 : decode cL_acts 105 = .ok (.irem, 1) := by decide +kernel
theorem dL_acts_106 : decode cL_acts 106 = .ok (.iadd, 1) := by decide +kernel
theorem dL_acts_107 : decode cL_acts 107 = .ok (.invokestatic 104, 3) := by decide +kernel
theorem dL_acts_110 : decode cL_acts 110 = .ok (.ireturn, 1) := by decide +kernel
theorem dL_acts_111 : decode cL_acts 111 = .ok (.aload_n 0, 1) := by decide +kernel
theorem dL_acts_112 : decode cL_acts 112 = .ok (.iconst 3, 1) := by decide +kernel
theorem dL_acts_113 : decode cL_acts 113 = .ok (.iload_n 2, 1) := by decide +kernel
theorem dL_acts_114 : decode cL_acts 114 = .ok (.iconst 3, 1) := by decide +kernel
theorem dL_acts_115 : decode cL_acts 115 = .ok (.irem, 1) := by decide +kernel
theorem dL_acts_116 : decode cL_acts 116 = .ok (.iadd, 1) := by decide +kernel
theorem dL_acts_117 : decode cL_acts 117 = .ok (.iconst 1, 1) := by decide +kernel
theorem dL_acts_118 : decode cL_acts 118 = .ok (.iload_n 2, 1) := by decide +kernel
theorem dL_acts_119 : decode cL_acts 119 = .ok (.iconst 4, 1) := by decide +kernel
theorem dL_acts_120 : decode cL_acts 120 = .ok (.idiv, 1) := by decide +kernel
theorem dL_acts_121 : decode cL_acts 121 = .ok (.bipush 20, 2) := by decide +kernel
theorem dL_acts_123 : decode cL_acts 123 = .ok (.irem, 1) := by decide +kernel
theorem dL_acts_124 : decode cL_acts 124 = .ok (.iadd, 1) := by decide +kernel
theorem dL_acts_125 : decode cL_acts 125 = .ok (.invokestatic 107, 3) := by decide +kernel
theorem dL_acts_128 : decode cL_acts 128 = .ok (.ireturn, 1) := by decide +kernel
theorem dL_acts_129 : decode cL_acts 129 = .ok (.aload_n 0, 1) := by decide +kernel
theorem dL_acts_130 : decode cL_acts 130 = .ok (.iload_n 2, 1) := by decide +kernel
theorem dL_acts_131 : decode cL_acts 131 = .ok (.bipush 6, 2) := by decide +kernel
theorem dL_acts_133 : decode cL_acts 133 = .ok (.irem, 1) := by decide +kernel
theorem dL_acts_134 : decode cL_acts 134 = .ok (.invokestatic 110, 3) := by decide +kernel
theorem dL_acts_137 : decode cL_acts 137 = .ok (.ireturn, 1) := by decide +kernel
theorem dL_acts_138 : decode cL_acts 138 = .ok (.iload_n 2, 1) := by decide +kernel
theorem dL_acts_139 : decode cL_acts 139 = .ok (.iconst 2, 1) := by decide +kernel
theorem dL_acts_140 : decode cL_acts 140 = .ok (.irem, 1) := by decide +kernel
theorem dL_acts_141 : decode cL_acts 141 = .ok (.ifCond .ne 17, 3) := by decide +kernel
theorem dL_acts_144 : decode cL_acts 144 = .ok (.aload_n 0, 1) := by decide +kernel
theorem dL_acts_145 : decode cL_acts 145 = .ok (.iload_n 2, 1) := by decide +kernel
theorem dL_acts_146 : decode cL_acts 146 = .ok (.iconst 2, 1) := by decide +kernel
theorem dL_acts_147 : decode cL_acts 147 = .ok (.idiv, 1) := by decide +kernel
theorem dL_acts_148 : decode cL_acts 148 = .ok (.sipush 10000, 3) := by decide +kernel
theorem dL_acts_151 : decode cL_acts 151 = .ok (.irem, 1) := by decide +kernel
theorem dL_acts_152 : decode cL_acts 152 = .ok (.invokestatic 112, 3) := by decide +kernel
theorem dL_acts_155 : decode cL_acts 155 = .ok (.goto 57, 3) := by decide +kernel
theorem dL_acts_158 : decode cL_acts 158 = .ok (.aload_n 0, 1) := by decide +kernel
theorem dL_acts_159 : decode cL_acts 159 = .ok (.iload_n 2, 1) := by decide +kernel
theorem dL_acts_160 : decode cL_acts 160 = .ok (.iconst 2, 1) := by decide +kernel
theorem dL_acts_161 : decode cL_acts 161 = .ok (.idiv, 1) := by decide +kernel
theorem dL_acts_162 : decode cL_acts 162 = .ok (.iconst 3, 1) := by decide +kernel
theorem dL_acts_163 : decode cL_acts 163 = .ok (.irem, 1) := by decide +kernel
theorem dL_acts_164 : decode cL_acts 164 = .ok (.iload_n 2, 1) := by decide +kernel
theorem dL_acts_165 : decode cL_acts 165 = .ok (.iconst 2, 1) := by decide +kernel
theorem dL_acts_166 : decode cL_acts 166 = .ok (.idiv, 1) := by decide +kernel
theorem dL_acts_167 : decode cL_acts 167 = .ok (.iconst 3, 1) := by decide +kernel
theorem dL_acts_168 : decode cL_acts 168 = .ok (.irem, 1) := by decide +kernel
theorem dL_acts_169 : decode cL_acts 169 = .ok (.ifCond .ne 15, 3) := by decide +kernel
theorem dL_acts_172 : decode cL_acts 172 = .ok (.iconst 1, 1) := by decide +kernel
theorem dL_acts_173 : decode cL_acts 173 = .ok (.iload_n 2, 1) := by decide +kernel
theorem dL_acts_174 : decode cL_acts 174 = .ok (.bipush 8, 2) := by decide +kernel
theorem dL_acts_176 : decode cL_acts 176 = .ok (.idiv, 1) := by decide +kernel
theorem dL_acts_177 : decode cL_acts 177 = .ok (.bipush 50, 2) := by decide +kernel
theorem dL_acts_179 : decode cL_acts 179 = .ok (.irem, 1) := by decide +kernel
theorem dL_acts_180 : decode cL_acts 180 = .ok (.iadd, 1) := by decide +kernel
theorem dL_acts_181 : decode cL_acts 181 = .ok (.goto 28, 3) := by decide +kernel
theorem dL_acts_184 : decode cL_acts 184 = .ok (.iload_n 2, 1) := by decide +kernel
theorem dL_acts_185 : decode cL_acts 185 = .ok (.iconst 2, 1) := by decide +kernel
theorem dL_acts_186 : decode cL_acts 186 = .ok (.idiv, 1) := by decide +kernel
theorem dL_acts_187 : decode cL_acts 187 = .ok (.iconst 3, 1) := by decide +kernel
theorem dL_acts_188 : decode cL_acts 188 = .ok (.irem, 1) := by decide +kernel
theorem dL_acts_189 : decode cL_acts 189 = .ok (.iconst 1, 1) := by decide +kernel
theorem dL_acts_190 : decode cL_acts 190 = .ok (.if_icmp .ne 13, 3) := by decide +kernel
theorem dL_acts_193 : decode cL_acts 193 = .ok (.iload_n 2, 1) := by decide +kernel
theorem dL_acts_194 : decode cL_acts 194 = .ok (.bipush 8, 2) := by decide +kernel
theorem dL_acts_196 : decode cL_acts 196 = .ok (.idiv, 1) := by decide +kernel
theorem dL_acts_197 : decode cL_acts 197 = .ok (.bipush 20, 2) := by decide +kernel
theorem dL_acts_199 : decode cL_acts 199 = .ok (.irem, 1) := by decide +kernel
theorem dL_acts_200 : decode cL_acts 200 = .ok (.goto 9, 3) := by decide +kernel
theorem dL_acts_203 : decode cL_acts 203 = .ok (.iload_n 2, 1) := by decide +kernel
theorem dL_acts_204 : decode cL_acts 204 = .ok (.bipush 8, 2) := by decide +kernel
theorem dL_acts_206 : decode cL_acts 206 = .ok (.idiv, 1) := by decide +kernel
theorem dL_acts_207 : decode cL_acts 207 = .ok (.iconst 2, 1) := by decide +kernel
theorem dL_acts_208 : decode cL_acts 208 = .ok (.irem, 1) := by decide +kernel
theorem dL_acts_209 : decode cL_acts 209 = .ok (.invokestatic 114, 3) := by decide +kernel
theorem dL_acts_212 : decode cL_acts 212 = .ok (.ireturn, 1) := by decide +kernel
theorem dL_acts_213 : decode cL_acts 213 = .ok (.iload_n 2, 1) := by decide +kernel
theorem dL_acts_214 : decode cL_acts 214 = .ok (.bipush 8, 2) := by decide +kernel
theorem dL_acts_216 : decode cL_acts 216 = .ok (.irem, 1) := by decide +kernel
theorem dL_acts_217 : decode cL_acts 217 = .ok (.ifCond .ne 10, 3) := by decide +kernel
theorem dL_acts_220 : decode cL_acts 220 = .ok (.aload_n 0, 1) := by decide +kernel
theorem dL_acts_221 : decode cL_acts 221 = .ok (.invokevirtual 116, 3) := by decide +kernel
theorem dL_acts_224 : decode cL_acts 224 = .ok (.goto 13, 3) := by decide +kernel
theorem dL_acts_227 : decode cL_acts 227 = .ok (.aload_n 0, 1) := by decide +kernel
theorem dL_acts_228 : decode cL_acts 228 = .ok (.iconst 1, 1) := by decide +kernel
theorem dL_acts_229 : decode cL_acts 229 = .ok (.iload_n 2, 1) := by decide +kernel
theorem dL_acts_230 : decode cL_acts 230 = .ok (.bipush 6, 2) := by decide +kernel
theorem dL_acts_232 : decode cL_acts 232 = .ok (.irem, 1) := by decide +kernel
theorem dL_acts_233 : decode cL_acts 233 = .ok (.iadd, 1) := by decide +kernel
theorem dL_acts_234 : decode cL_acts 234 = .ok (.invokestatic 119, 3) := by decide +kernel
theorem dL_acts_237 : decode cL_acts 237 = .ok (.ireturn, 1) := by decide +kernel
theorem dL_acts_238 : decode cL_acts 238 = .ok (.aload_n 0, 1) := by decide +kernel
theorem dL_acts_239 : decode cL_acts 239 = .ok (.iload_n 2, 1) := by decide +kernel
theorem dL_acts_240 : decode cL_acts 240 = .ok (.iconst 4, 1) := by decide +kernel
theorem dL_acts_241 : decode cL_acts 241 = .ok (.irem, 1) := by decide +kernel
theorem dL_acts_242 : decode cL_acts 242 = .ok (.iload_n 2, 1) := by decide +kernel
theorem dL_acts_243 : decode cL_acts 243 = .ok (.iconst 4, 1) := by decide +kernel
theorem dL_acts_244 : decode cL_acts 244 = .ok (.idiv, 1) := by decide +kernel
theorem dL_acts_245 : decode cL_acts 245 = .ok (.iconst 4, 1) := by decide +kernel
theorem dL_acts_246 : decode cL_acts 246 = .ok (.irem, 1) := by decide +kernel
theorem dL_acts_247 : decode cL_acts 247 = .ok (.invokestatic 121, 3) := by decide +kernel
theorem dL_acts_250 : decode cL_acts 250 = .ok (.ireturn, 1) := by decide +kernel
theorem dL_acts_251 : decode cL_acts 251 = .ok (.iload_n 2, 1) := by decide +kernel
theorem dL_acts_252 : decode cL_acts 252 = .ok (.iconst 2, 1) := by decide +kernel
theorem dL_acts_253 : decode cL_acts 253 = .ok (.irem, 1) := by decide +kernel
theorem dL_acts_254 : decode cL_acts 254 = .ok (.ifCond .ne 15, 3) := by decide +kernel
theorem dL_acts_257 : decode cL_acts 257 = .ok (.aload_n 0, 1) := by decide +kernel
theorem dL_acts_258 : decode cL_acts 258 = .ok (.iload_n 2, 1) := by decide +kernel
theorem dL_acts_259 : decode cL_acts 259 = .ok (.iconst 2, 1) := by decide +kernel
theorem dL_acts_260 : decode cL_acts 260 = .ok (.idiv, 1) := by decide +kernel
theorem dL_acts_261 : decode cL_acts 261 = .ok (.iconst 2, 1) := by decide +kernel
theorem dL_acts_262 : decode cL_acts 262 = .ok (.irem, 1) := by decide +kernel
theorem dL_acts_263 : decode cL_acts 263 = .ok (.invokestatic 123, 3) := by decide +kernel
theorem dL_acts_266 : decode cL_acts 266 = .ok (.goto 12, 3) := by decide +kernel
theorem dL_acts_269 : decode cL_acts 269 = .ok (.aload_n 0, 1) := by decide +kernel
theorem dL_acts_270 : decode cL_acts 270 = .ok (.iload_n 2, 1) := by decide +kernel
theorem dL_acts_271 : decode cL_acts 271 = .ok (.iconst 2, 1) := by decide +kernel
theorem dL_acts_272 : decode cL_acts 272 = .ok (.idiv, 1) := by decide +kernel
theorem dL_acts_273 : decode cL_acts 273 = .ok (.iconst 2, 1) := by decide +kernel
theorem dL_acts_274 : decode cL_acts 274 = .ok (.irem, 1) := by decide +kernel
theorem dL_acts_275 : decode cL_acts 275 = .ok (.invokestatic 125, 3) := by decide +kernel
theorem dL_acts_278 : decode cL_acts 278 = .ok (.ireturn, 1) := by decide +kernel
theorem dL_acts_279 : decode cL_acts 279 = .ok (.aload_n 0, 1) := by decide +kernel
theorem dL_acts_280 : decode cL_acts 280 = .ok (.iconst 1, 1) := by decide +kernel
theorem dL_acts_281 : decode cL_acts 281 = .ok (.iload_n 2, 1) := by decide +kernel
theorem dL_acts_282 : decode cL_acts 282 = .ok (.bipush 25, 2) := by decide +kernel
theorem dL_acts_284 : decode cL_acts 284 = .ok (.irem, 1) := by decide +kernel
theorem dL_acts_285 : decode cL_acts 285 = .ok (.iadd, 1) := by decide +kernel
theorem dL_acts_286 : decode cL_acts 286 = .ok (.invokestatic 119, 3) := by decide +kernel
theorem dL_acts_289 : decode cL_acts 289 = .ok (.ireturn, 1) := by decide +kernel
theorem dL_bits_0 : decode cL_bits 0 = .ok (.iconst 0, 1) := by decide +kernel
theorem dL_bits_1 : decode cL_bits 1 = .ok (.istore_n 1, 1) := by decide +kernel
theorem dL_bits_2 : decode cL_bits 2 = .ok (.iconst 0, 1) := by decide +kernel
theorem dL_bits_3 : decode cL_bits 3 = .ok (.istore_n 2, 1) := by decide +kernel
theorem dL_bits_4 : decode cL_bits 4 = .ok (.iload_n 2, 1) := by decide +kernel
theorem dL_bits_5 : decode cL_bits 5 = .ok (.bipush 6, 2) := by decide +kernel
theorem dL_bits_7 : decode cL_bits 7 = .ok (.if_icmp .ge 17, 3) := by decide +kernel
theorem dL_bits_10 : decode cL_bits 10 = .ok (.iload_n 1, 1) := by decide +kernel
theorem dL_bits_11 : decode cL_bits 11 = .ok (.iload_n 0, 1) := by decide +kernel
theorem dL_bits_12 : decode cL_bits 12 = .ok (.iload_n 2, 1) := by decide +kernel
theorem dL_bits_13 : decode cL_bits 13 = .ok (.ishr, 1) := by decide +kernel
theorem dL_bits_14 : decode cL_bits 14 = .ok (.iconst 1, 1) := by decide +kernel
theorem dL_bits_15 : decode cL_bits 15 = .ok (.iand, 1) := by decide +kernel
theorem dL_bits_16 : decode cL_bits 16 = .ok (.iadd, 1) := by decide +kernel
theorem dL_bits_17 : decode cL_bits 17 = .ok (.istore_n 1, 1) := by decide +kernel
theorem dL_bits_18 : decode cL_bits 18 = .ok (.iinc 2 1, 3) := by decide +kernel
theorem dL_bits_21 : decode cL_bits 21 = .ok (.goto (-17), 3) := by decide +kernel
theorem dL_bits_24 : decode cL_bits 24 = .ok (.iload_n 1, 1) := by decide +kernel
theorem dL_bits_25 : decode cL_bits 25 = .ok (.ireturn, 1) := by decide +kernel
theorem dL_hangs_0 : decode cL_hangs 0 = .ok (.aload_n 0, 1) := by decide +kernel
theorem dL_hangs_1 : decode cL_hangs 1 = .ok (.bipush 8, 2) := by decide +kernel
theorem dL_hangs_3 : decode cL_hangs 3 = .ok (.invokestatic 127, 3) := by decide +kernel
theorem dL_hangs_6 : decode cL_hangs 6 = .ok (.istore_n 1, 1) := by decide +kernel
theorem dL_hangs_7 : decode cL_hangs 7 = .ok (.iconst 0, 1) := by decide +kernel
theorem dL_hangs_8 : decode cL_hangs 8 = .ok (.istore_n 2, 1) := by decide +kernel
theorem dL_hangs_9 : decode cL_hangs 9 = .ok (.iconst 0, 1) := by decide +kernel
theorem dL_hangs_10 : decode cL_hangs 10 = .ok (.istore_n 3, 1) := by decide +kernel
theorem dL_hangs_11 : decode cL_hangs 11 = .ok (.iconst 0, 1) := by decide +kernel
theorem dL_hangs_12 : decode cL_hangs 12 = .ok (.istore 4, 2) := by decide +kernel
theorem dL_hangs_14 : decode cL_hangs 14 = .ok (.aload_n 0, 1) := by decide +kernel
theorem dL_hangs_15 : decode cL_hangs 15 = .ok (.iload_n 1, 1) := by decide +kernel
theorem dL_hangs_16 : decode cL_hangs 16 = .ok (.iconst 0, 1) := by decide +kernel
theorem dL_hangs_17 : decode cL_hangs 17 = .ok (.invokestatic 129, 3) := by decide +kernel
theorem dL_hangs_20 : decode cL_hangs 20 = .ok (.iconst (-1), 1) := by decide +kernel
theorem dL_hangs_21 : decode cL_hangs 21 = .ok (.if_icmp .ne 19, 3) := by decide +kernel
theorem dL_hangs_24 : decode cL_hangs 24 = .ok (.aload_n 0, 1) := by decide +kernel
theorem dL_hangs_25 : decode cL_hangs 25 = .ok (.bipush 91, 2) := by decide +kernel
theorem dL_hangs_27 : decode cL_hangs 27 = .ok (.iconst 0, 1) := by decide +kernel
theorem dL_hangs_28 : decode cL_hangs 28 = .ok (.invokestatic 132, 3) := by decide +kernel
theorem dL_hangs_31 : decode cL_hangs 31 = .ok (.ldc 17, 2) := by decide +kernel
theorem dL_hangs_33 : decode cL_hangs 33 = .ok (.if_icmp .ne 7, 3) := by decide +kernel
theorem dL_hangs_36 : decode cL_hangs 36 = .ok (.iconst 1, 1) := by decide +kernel
theorem dL_hangs_37 : decode cL_hangs 37 = .ok (.goto 4, 3) := by decide +kernel
theorem dL_hangs_40 : decode cL_hangs 40 = .ok (.iconst 0, 1) := by decide +kernel
theorem dL_hangs_41 : decode cL_hangs 41 = .ok (.istore 5, 2) := by decide +kernel
theorem dL_hangs_43 : decode cL_hangs 43 = .ok (.iconst 1, 1) := by decide +kernel
theorem dL_hangs_44 : decode cL_hangs 44 = .ok (.istore 6, 2) := by decide +kernel
theorem dL_hangs_46 : decode cL_hangs 46 = .ok (.iload 6, 2) := by decide +kernel
theorem dL_hangs_48 : decode cL_hangs 48 = .ok (.bipush 90, 2) := by decide +kernel
theorem dL_hangs_50 : decode cL_hangs 50 = .ok (.if_icmp .gt 171, 3) := by decide +kernel
theorem dL_hangs_53 : decode cL_hangs 53 = .ok (.iload 5, 2) := by decide +kernel
theorem dL_hangs_55 : decode cL_hangs 55 = .ok (.ifCond .eq 166, 3) := by decide +kernel
theorem dL_hangs_58 : decode cL_hangs 58 = .ok (.aload_n 0, 1) := by decide +kernel
theorem dL_hangs_59 : decode cL_hangs 59 = .ok (.iload 6, 2) := by decide +kernel
theorem dL_hangs_61 : decode cL_hangs 61 = .ok (.iconst 0, 1) := by decide +kernel
theorem dL_hangs_62 : decode cL_hangs 62 = .ok (.invokestatic 132, 3) := by decide +kernel
theorem dL_hangs_65 : decode cL_hangs 65 = .ok (.istore 7, 2) := by decide +kernel
theorem dL_hangs_67 : decode cL_hangs 67 = .ok (.aload_n 0, 1) := by decide +kernel
theorem dL_hangs_68 : decode cL_hangs 68 = .ok (.iload 6, 2) := by decide +kernel
theorem dL_hangs_70 : decode cL_hangs 70 = .ok (.iconst 1, 1) := by decide +kernel
theorem dL_hangs_71 : decode cL_hangs 71 = .ok (.invokestatic 132, 3) := by decide +kernel
theorem dL_hangs_74 : decode cL_hangs 74 = .ok (.istore 8, 2) := by decide +kernel
theorem dL_hangs_76 : decode cL_hangs 76 = .ok (.aload_n 0, 1) := by decide +kernel
theorem dL_hangs_77 : decode cL_hangs 77 = .ok (.iload 6, 2) := by decide +kernel
theorem dL_hangs_79 : decode cL_hangs 79 = .ok (.iconst 2, 1) := by decide +kernel
theorem dL_hangs_80 : decode cL_hangs 80 = .ok (.invokestatic 132, 3) := by decide +kernel
theorem dL_hangs_83 : decode cL_hangs 83 = .ok (.istore 9, 2) := by decide +kernel
theorem dL_hangs_85 : decode cL_hangs 85 = .ok (.iload_n 2, 1) := by decide +kernel
theorem dL_hangs_86 : decode cL_hangs 86 = .ok (.iload 7, 2) := by decide +kernel
theorem dL_hangs_88 : decode cL_hangs 88 = .ok (.ifCond .lt 7, 3) := by decide +kernel
theorem dL_hangs_91 : decode cL_hangs 91 = .ok (.iconst 1, 1) := by decide +kernel
theorem dL_hangs_92 : decode cL_hangs 92 = .ok (.goto 4, 3) := by decide +kernel
theorem dL_hangs_95 : decode cL_hangs 95 = .ok (.iconst 0, 1) := by decide +kernel
theorem dL_hangs_96 : decode cL_hangs 96 = .ok (.iadd, 1) := by decide +kernel
theorem dL_hangs_97 : decode cL_hangs 97 = .ok (.istore_n 2, 1) := by decide +kernel
theorem dL_hangs_98 : decode cL_hangs 98 = .ok (.iload_n 3, 1) := by decide +kernel
theorem dL_hangs_99 : decode cL_hangs 99 = .ok (.iload 9, 2) := by decide +kernel
theorem dL_hangs_101 : decode cL_hangs 101 = .ok (.ifCond .le 7, 3) := by decide +kernel
theorem dL_hangs_104 : decode cL_hangs 104 = .ok (.iconst 1, 1) := by decide +kernel
theorem dL_hangs_105 : decode cL_hangs 105 = .ok (.goto 4, 3) := by decide +kernel
theorem dL_hangs_108 : decode cL_hangs 108 = .ok (.iconst 0, 1) := by decide +kernel
theorem dL_hangs_109 : decode cL_hangs 109 = .ok (.iadd, 1) := by decide +kernel
theorem dL_hangs_110 : decode cL_hangs 110 = .ok (.istore_n 3, 1) := by decide +kernel
theorem dL_hangs_111 : decode cL_hangs 111 = .ok (.iload 4, 2) := by decide +kernel
theorem dL_hangs_113 : decode cL_hangs 113 = .ok (.aload_n 0, 1) := by decide +kernel
theorem dL_hangs_114 : decode cL_hangs 114 = .ok (.iload 6, 2) := by decide +kernel
theorem dL_hangs_116 : decode cL_hangs 116 = .ok (.iconst 3, 1) := by decide +kernel
theorem dL_hangs_117 : decode cL_hangs 117 = .ok (.invokestatic 132, 3) := by decide +kernel
theorem dL_hangs_120 : decode cL_hangs 120 = .ok (.iadd, 1) := by decide +kernel
theorem dL_hangs_121 : decode cL_hangs 121 = .ok (.istore 4, 2) := by decide +kernel
theorem dL_hangs_123 : decode cL_hangs 123 = .ok (.iload 7, 2) := by decide +kernel
theorem dL_hangs_125 : decode cL_hangs 125 = .ok (.iconst (-1), 1) := by decide +kernel
theorem dL_hangs_126 : decode cL_hangs 126 = .ok (.if_icmp .ne 7, 3) := by decide +kernel
theorem dL_hangs_129 : decode cL_hangs 129 = .ok (.iconst 1, 1) := by decide +kernel
theorem dL_hangs_130 : decode cL_hangs 130 = .ok (.goto 4, 3) := by decide +kernel
theorem dL_hangs_133 : decode cL_hangs 133 = .ok (.iconst 0, 1) := by decide +kernel
theorem dL_hangs_134 : decode cL_hangs 134 = .ok (.iload 8, 2) := by decide +kernel
theorem dL_hangs_136 : decode cL_hangs 136 = .ok (.iconst (-1), 1) := by decide +kernel
theorem dL_hangs_137 : decode cL_hangs 137 = .ok (.if_icmp .ne 7, 3) := by decide +kernel
theorem dL_hangs_140 : decode cL_hangs 140 = .ok (.iconst 1, 1) := by decide +kernel
theorem dL_hangs_141 : decode cL_hangs 141 = .ok (.goto 4, 3) := by decide +kernel
theorem dL_hangs_144 : decode cL_hangs 144 = .ok (.iconst 0, 1) := by decide +kernel
theorem dL_hangs_145 : decode cL_hangs 145 = .ok (.if_icmp .ne 67, 3) := by decide +kernel
theorem dL_hangs_148 : decode cL_hangs 148 = .ok (.iload 7, 2) := by decide +kernel
theorem dL_hangs_150 : decode cL_hangs 150 = .ok (.ifCond .lt 33, 3) := by decide +kernel
theorem dL_hangs_153 : decode cL_hangs 153 = .ok (.aload_n 0, 1) := by decide +kernel
theorem dL_hangs_154 : decode cL_hangs 154 = .ok (.iload 7, 2) := by decide +kernel
theorem dL_hangs_156 : decode cL_hangs 156 = .ok (.iload 8, 2) := by decide +kernel
theorem dL_hangs_158 : decode cL_hangs 158 = .ok (.iload 6, 2) := by decide +kernel
theorem dL_hangs_160 : decode cL_hangs 160 = .ok (.bipush 90, 2) := by decide +kernel
theorem dL_hangs_162 : decode cL_hangs 162 = .ok (.if_icmp .ne 8, 3) := by decide +kernel
theorem dL_hangs_165 : decode cL_hangs 165 = .ok (.bipush 8, 2) := by decide +kernel
theorem dL_hangs_167 : decode cL_hangs 167 = .ok (.goto 8, 3) := by decide +kernel
theorem dL_hangs_170 : decode cL_hangs 170 = .ok (.iload 6, 2) := by decide +kernel
theorem dL_hangs_172 : decode cL_hangs 172 = .ok (.bipush 10, 2) := by decide +kernel
theorem dL_hangs_174 : decode cL_hangs 174 = .ok (.idiv, 1) := by decide +kernel
theorem dL_hangs_175 : decode cL_hangs 175 = .ok (.invokestatic 134, 3) := by decide +kernel
theorem dL_hangs_178 : decode cL_hangs 178 = .ok (.iload 6, 2) := by decide +kernel
theorem dL_hangs_180 : decode cL_hangs 180 = .ok (.if_icmp .ne 32, 3) := by decide +kernel
theorem dL_hangs_183 : decode cL_hangs 183 = .ok (.iload 9, 2) := by decide +kernel
theorem dL_hangs_185 : decode cL_hangs 185 = .ok (.iload_n 1, 1) := by decide +kernel
theorem dL_hangs_186 : decode cL_hangs 186 = .ok (.if_icmp .gt 26, 3) := by decide +kernel
theorem dL_hangs_189 : decode cL_hangs 189 = .ok (.iload 9, 2) := by decide +kernel
theorem dL_hangs_191 : decode cL_hangs 191 = .ok (.ifCond .eq 17, 3) := by decide +kernel
theorem dL_hangs_194 : decode cL_hangs 194 = .ok (.aload_n 0, 1) := by decide +kernel
theorem dL_hangs_195 : decode cL_hangs 195 = .ok (.iload_n 1, 1) := by decide +kernel
theorem dL_hangs_196 : decode cL_hangs 196 = .ok (.iload 9, 2) := by decide +kernel
theorem dL_hangs_198 : decode cL_hangs 198 = .ok (.isub, 1) := by decide +kernel
theorem dL_hangs_199 : decode cL_hangs 199 = .ok (.iconst 0, 1) := by decide +kernel
theorem dL_hangs_200 : decode cL_hangs 200 = .ok (.invokestatic 129, 3) := by decide +kernel
theorem dL_hangs_203 : decode cL_hangs 203 = .ok (.iload 6, 2) := by decide +kernel
theorem dL_hangs_205 : decode cL_hangs 205 = .ok (.if_icmp .ne 7, 3) := by decide +kernel
theorem dL_hangs_208 : decode cL_hangs 208 = .ok (.iconst 1, 1) := by decide +kernel
theorem dL_hangs_209 : decode cL_hangs 209 = .ok (.goto 4, 3) := by decide +kernel
theorem dL_hangs_212 : decode cL_hangs 212 = .ok (.iconst 0, 1) := by decide +kernel
theorem dL_hangs_213 : decode cL_hangs 213 = .ok (.istore 5, 2) := by decide +kernel
theorem dL_hangs_215 : decode cL_hangs 215 = .ok (.iinc 6 1, 3) := by decide +kernel
theorem dL_hangs_218 : decode cL_hangs 218 = .ok (.goto (-172), 3) := by decide +kernel
theorem dL_hangs_221 : decode cL_hangs 221 = .ok (.iconst 0, 1) := by decide +kernel
theorem dL_hangs_222 : decode cL_hangs 222 = .ok (.istore 6, 2) := by decide +kernel
theorem dL_hangs_224 : decode cL_hangs 224 = .ok (.iconst 0, 1) := by decide +kernel
theorem dL_hangs_225 : decode cL_hangs 225 = .ok (.istore 7, 2) := by decide +kernel
theorem dL_hangs_227 : decode cL_hangs 227 = .ok (.iload 7, 2) := by decide +kernel
theorem dL_hangs_229 : decode cL_hangs 229 = .ok (.iload_n 1, 1) := by decide +kernel
theorem dL_hangs_230 : decode cL_hangs 230 = .ok (.if_icmp .ge 41, 3) := by decide +kernel
theorem dL_hangs_233 : decode cL_hangs 233 = .ok (.iload 5, 2) := by decide +kernel
theorem dL_hangs_235 : decode cL_hangs 235 = .ok (.ifCond .eq 36, 3) := by decide +kernel
theorem dL_hangs_238 : decode cL_hangs 238 = .ok (.iload 6, 2) := by decide +kernel
theorem dL_hangs_240 : decode cL_hangs 240 = .ok (.aload_n 0, 1) := by decide +kernel
theorem dL_hangs_241 : decode cL_hangs 241 = .ok (.iload 7, 2) := by decide +kernel
theorem dL_hangs_243 : decode cL_hangs 243 = .ok (.iconst 0, 1) := by decide +kernel
theorem dL_hangs_244 : decode cL_hangs 244 = .ok (.invokestatic 129, 3) := by decide +kernel
theorem dL_hangs_247 : decode cL_hangs 247 = .ok (.aload_n 0, 1) := by decide +kernel
theorem dL_hangs_248 : decode cL_hangs 248 = .ok (.iload 7, 2) := by decide +kernel
theorem dL_hangs_250 : decode cL_hangs 250 = .ok (.iconst 1, 1) := by decide +kernel
theorem dL_hangs_251 : decode cL_hangs 251 = .ok (.invokestatic 129, 3) := by decide +kernel
theorem dL_hangs_254 : decode cL_hangs 254 = .ok (.if_icmp .eq 7, 3) := by decide +kernel
theorem dL_hangs_257 : decode cL_hangs 257 = .ok (.iconst 1, 1) := by decide +kernel
theorem dL_hangs_258 : decode cL_hangs 258 = .ok (.goto 4, 3) := by decide +kernel
theorem dL_hangs_261 : decode cL_hangs 261 = .ok (.iconst 0, 1) := by decide +kernel
theorem dL_hangs_262 : decode cL_hangs 262 = .ok (.iadd, 1) := by decide +kernel
theorem dL_hangs_263 : decode cL_hangs 263 = .ok (.istore 6, 2) := by decide +kernel
theorem dL_hangs_265 : decode cL_hangs 265 = .ok (.iinc 7 1, 3) := by decide +kernel
theorem dL_hangs_268 : decode cL_hangs 268 = .ok (.goto (-41), 3) := by decide +kernel
theorem dL_hangs_271 : decode cL_hangs 271 = .ok (.iconst 0, 1) := by decide +kernel
theorem dL_hangs_272 : decode cL_hangs 272 = .ok (.istore 7, 2) := by decide +kernel
theorem dL_hangs_274 : decode cL_hangs 274 = .ok (.iconst 0, 1) := by decide +kernel
theorem dL_hangs_275 : decode cL_hangs 275 = .ok (.istore 8, 2) := by decide +kernel
theorem dL_hangs_277 : decode cL_hangs 277 = .ok (.iconst 0, 1) := by decide +kernel
theorem dL_hangs_278 : decode cL_hangs 278 = .ok (.istore 9, 2) := by decide +kernel
theorem dL_hangs_280 : decode cL_hangs 280 = .ok (.iconst 0, 1) := by decide +kernel
theorem dL_hangs_281 : decode cL_hangs 281 = .ok (.istore 10, 2) := by decide +kernel
theorem dL_hangs_283 : decode cL_hangs 283 = .ok (.iconst 0, 1) := by decide +kernel
theorem dL_hangs_284 : decode cL_hangs 284 = .ok (.istore 11, 2) := by decide +kernel
theorem dL_hangs_286 : decode cL_hangs 286 = .ok (.iconst 0, 1) := by decide +kernel
theorem dL_hangs_287 : decode cL_hangs 287 = .ok (.istore 12, 2) := by decide +kernel
theorem dL_hangs_289 : decode cL_hangs 289 = .ok (.iload 12, 2) := by decide +kernel
theorem dL_hangs_291 : decode cL_hangs 291 = .ok (.bipush 6, 2) := by decide +kernel
theorem dL_hangs_293 : decode cL_hangs 293 = .ok (.if_icmp .ge 287, 3) := by decide +kernel
theorem dL_hangs_296 : decode cL_hangs 296 = .ok (.iload 5, 2) := by decide +kernel
theorem dL_hangs_298 : decode cL_hangs 298 = .ok (.ifCond .eq 282, 3) := by decide +kernel
theorem dL_hangs_301 : decode cL_hangs 301 = .ok (.aload_n 0, 1) := by decide +kernel
theorem dL_hangs_302 : decode cL_hangs 302 = .ok (.iload 12, 2) := by decide +kernel
theorem dL_hangs_304 : decode cL_hangs 304 = .ok (.iconst 0, 1) := by decide +kernel
theorem dL_hangs_305 : decode cL_hangs 305 = .ok (.invokestatic 136, 3) := by decide +kernel
theorem dL_hangs_308 : decode cL_hangs 308 = .ok (.istore 13, 2) := by decide +kernel
theorem dL_hangs_310 : decode cL_hangs 310 = .ok (.aload_n 0, 1) := by decide +kernel
theorem dL_hangs_311 : decode cL_hangs 311 = .ok (.iload 12, 2) := by decide +kernel
theorem dL_hangs_313 : decode cL_hangs 313 = .ok (.iconst 1, 1) := by decide +kernel
theorem dL_hangs_314 : decode cL_hangs 314 = .ok (.invokestatic 136, 3) := by decide +kernel
theorem dL_hangs_317 : decode cL_hangs 317 = .ok (.iconst 1, 1) := by decide +kernel
theorem dL_hangs_318 : decode cL_hangs 318 = .ok (.if_icmp .ne 7, 3) := by decide +kernel
theorem dL_hangs_321 : decode cL_hangs 321 = .ok (.iconst 1, 1) := by decide +kernel
theorem dL_hangs_322 : decode cL_hangs 322 = .ok (.goto 4, 3) := by decide +kernel
theorem dL_hangs_325 : decode cL_hangs 325 = .ok (.iconst 0, 1) := by decide +kernel
theorem dL_hangs_326 : decode cL_hangs 326 = .ok (.istore 14, 2) := by decide +kernel
theorem dL_hangs_328 : decode cL_hangs 328 = .ok (.aload_n 0, 1) := by decide +kernel
theorem dL_hangs_329 : decode cL_hangs 329 = .ok (.iload 12, 2) := by decide +kernel
theorem dL_hangs_331 : decode cL_hangs 331 = .ok (.iconst 0, 1) := by decide +kernel
theorem dL_hangs_332 : decode cL_hangs 332 = .ok (.invokestatic 138, 3) := by decide +kernel
theorem dL_hangs_335 : decode cL_hangs 335 = .ok (.istore 15, 2) := by decide +kernel
theorem dL_hangs_337 : decode cL_hangs 337 = .ok (.iload 7, 2) := by decide +kernel
theorem dL_hangs_339 : decode cL_hangs 339 = .ok (.iload 13, 2) := by decide +kernel
theorem dL_hangs_341 : decode cL_hangs 341 = .ok (.iadd, 1) := by decide +kernel
theorem dL_hangs_342 : decode cL_hangs 342 = .ok (.istore 7, 2) := by decide +kernel
theorem dL_hangs_344 : decode cL_hangs 344 = .ok (.iload 8, 2) := by decide +kernel
theorem dL_hangs_346 : decode cL_hangs 346 = .ok (.iload 14, 2) := by decide +kernel
theorem dL_hangs_348 : decode cL_hangs 348 = .ok (.ifCond .eq 7, 3) := by decide +kernel
theorem dL_hangs_351 : decode cL_hangs 351 = .ok (.iconst 1, 1) := by decide +kernel
theorem dL_hangs_352 : decode cL_hangs 352 = .ok (.goto 4, 3) := by decide +kernel
theorem dL_hangs_355 : decode cL_hangs 355 = .ok (.iconst 0, 1) := by decide +kernel
theorem dL_hangs_356 : decode cL_hangs 356 = .ok (.iadd, 1) := by decide +kernel
theorem dL_hangs_357 : decode cL_hangs 357 = .ok (.istore 8, 2) := by decide +kernel
theorem dL_hangs_359 : decode cL_hangs 359 = .ok (.iload 9, 2) := by decide +kernel
theorem dL_hangs_361 : decode cL_hangs 361 = .ok (.aload_n 0, 1) := by decide +kernel
theorem dL_hangs_362 : decode cL_hangs 362 = .ok (.iload 12, 2) := by decide +kernel
theorem dL_hangs_364 : decode cL_hangs 364 = .ok (.iconst 2, 1) := by decide +kernel
theorem dL_hangs_365 : decode cL_hangs 365 = .ok (.invokestatic 136, 3) := by decide +kernel
theorem dL_hangs_368 : decode cL_hangs 368 = .ok (.iadd, 1) := by decide +kernel
theorem dL_hangs_369 : decode cL_hangs 369 = .ok (.istore 9, 2) := by decide +kernel
theorem dL_hangs_371 : decode cL_hangs 371 = .ok (.iload 10, 2) := by decide +kernel
theorem dL_hangs_373 : decode cL_hangs 373 = .ok (.aload_n 0, 1) := by decide +kernel
theorem dL_hangs_374 : decode cL_hangs 374 = .ok (.iload 12, 2) := by decide +kernel
theorem dL_hangs_376 : decode cL_hangs 376 = .ok (.bipush 7, 2) := by decide +kernel
theorem dL_hangs_378 : decode cL_hangs 378 = .ok (.invokestatic 136, 3) := by decide +kernel
theorem dL_hangs_381 : decode cL_hangs 381 = .ok (.iadd, 1) := by decide +kernel
theorem dL_hangs_382 : decode cL_hangs 382 = .ok (.istore 10, 2) := by decide +kernel
theorem dL_hangs_384 : decode cL_hangs 384 = .ok (.iload 11, 2) := by decide +kernel
theorem dL_hangs_386 : decode cL_hangs 386 = .ok (.aload_n 0, 1) := by decide +kernel
theorem dL_hangs_387 : decode cL_hangs 387 = .ok (.iload 12, 2) := by decide +kernel
theorem dL_hangs_389 : decode cL_hangs 389 = .ok (.bipush 8, 2) := by decide +kernel
theorem dL_hangs_391 : decode cL_hangs 391 = .ok (.invokestatic 136, 3) := by decide +kernel
theorem dL_hangs_394 : decode cL_hangs 394 = .ok (.iadd, 1) := by decide +kernel
theorem dL_hangs_395 : decode cL_hangs 395 = .ok (.istore 11, 2) := by decide +kernel
theorem dL_hangs_397 : decode cL_hangs 397 = .ok (.iload 14, 2) := by decide +kernel
theorem dL_hangs_399 : decode cL_hangs 399 = .ok (.ifCond .eq 10, 3) := by decide +kernel
theorem dL_hangs_402 : decode cL_hangs 402 = .ok (.iload 13, 2) := by decide +kernel
theorem dL_hangs_404 : decode cL_hangs 404 = .ok (.bipush 15, 2) := by decide +kernel
theorem dL_hangs_406 : decode cL_hangs 406 = .ok (.if_icmp .ne 165, 3) := by decide +kernel
theorem dL_hangs_409 : decode cL_hangs 409 = .ok (.aload_n 0, 1) := by decide +kernel
theorem dL_hangs_410 : decode cL_hangs 410 = .ok (.iload 12, 2) := by decide +kernel
theorem dL_hangs_412 : decode cL_hangs 412 = .ok (.iconst 3, 1) := by decide +kernel
theorem dL_hangs_413 : decode cL_hangs 413 = .ok (.invokestatic 136, 3) := by decide +kernel
theorem dL_hangs_416 : decode cL_hangs 416 = .ok (.iload 13, 2) := by decide +kernel
theorem dL_hangs_418 : decode cL_hangs 418 = .ok (.if_icmp .gt 153, 3) := by decide +kernel
theorem dL_hangs_421 : decode cL_hangs 421 = .ok (.aload_n 0, 1) := by decide +kernel
theorem dL_hangs_422 : decode cL_hangs 422 = .ok (.iload 12, 2) := by decide +kernel
theorem dL_hangs_424 : decode cL_hangs 424 = .ok (.iconst 4, 1) := by decide +kernel
theorem dL_hangs_425 : decode cL_hangs 425 = .ok (.invokestatic 136, 3) := by decide +kernel
theorem dL_hangs_428 : decode cL_hangs 428 = .ok (.iload 13, 2) := by decide +kernel
theorem dL_hangs_430 : decode cL_hangs 430 = .ok (.if_icmp .gt 141, 3) := by decide +kernel
theorem dL_hangs_433 : decode cL_hangs 433 = .ok (.aload_n 0, 1) := by decide +kernel
theorem dL_hangs_434 : decode cL_hangs 434 = .ok (.iload 12, 2) := by decide +kernel
theorem dL_hangs_436 : decode cL_hangs 436 = .ok (.iconst 2, 1) := by decide +kernel
theorem dL_hangs_437 : decode cL_hangs 437 = .ok (.invokestatic 136, 3) := by decide +kernel
theorem dL_hangs_440 : decode cL_hangs 440 = .ok (.ifCond .eq 8, 3) := by decide +kernel
theorem dL_hangs_443 : decode cL_hangs 443 = .ok (.iload 14, 2) := by decide +kernel
theorem dL_hangs_445 : decode cL_hangs 445 = .ok (.ifCond .eq 126, 3) := by decide +kernel
theorem dL_hangs_448 : decode cL_hangs 448 = .ok (.iload 14, 2) := by decide +kernel
theorem dL_hangs_450 : decode cL_hangs 450 = .ok (.ifCond .eq 77, 3) := by decide +kernel
theorem dL_hangs_453 : decode cL_hangs 453 = .ok (.iload 15, 2) := by decide +kernel
theorem dL_hangs_455 : decode cL_hangs 455 = .ok (.bipush 15, 2) := by decide +kernel
theorem dL_hangs_457 : decode cL_hangs 457 = .ok (.if_icmp .lt 114, 3) := by decide +kernel
theorem dL_hangs_460 : decode cL_hangs 460 = .ok (.iload 15, 2) := by decide +kernel
theorem dL_hangs_462 : decode cL_hangs 462 = .ok (.aload_n 0, 1) := by decide +kernel
theorem dL_hangs_463 : decode cL_hangs 463 = .ok (.iload 12, 2) := by decide +kernel
theorem dL_hangs_465 : decode cL_hangs 465 = .ok (.iconst 1, 1) := by decide +kernel
theorem dL_hangs_466 : decode cL_hangs 466 = .ok (.invokestatic 138, 3) := by decide +kernel
theorem dL_hangs_469 : decode cL_hangs 469 = .ok (.if_icmp .ne 102, 3) := by decide +kernel
theorem dL_hangs_472 : decode cL_hangs 472 = .ok (.aload_n 0, 1) := by decide +kernel
theorem dL_hangs_473 : decode cL_hangs 473 = .ok (.iload 12, 2) := by decide +kernel
theorem dL_hangs_475 : decode cL_hangs 475 = .ok (.iconst 3, 1) := by decide +kernel
theorem dL_hangs_476 : decode cL_hangs 476 = .ok (.iconst 0, 1) := by decide +kernel
theorem dL_hangs_477 : decode cL_hangs 477 = .ok (.invokestatic 140, 3) := by decide +kernel
theorem dL_hangs_480 : decode cL_hangs 480 = .ok (.bipush 15, 2) := by decide +kernel
theorem dL_hangs_482 : decode cL_hangs 482 = .ok (.aload_n 0, 1) := by decide +kernel
theorem dL_hangs_483 : decode cL_hangs 483 = .ok (.iload 12, 2) := by decide +kernel
theorem dL_hangs_485 : decode cL_hangs 485 = .ok (.iconst 3, 1) := by decide +kernel
theorem dL_hangs_486 : decode cL_hangs 486 = .ok (.invokestatic 136, 3) := by decide +kernel
theorem dL_hangs_489 : decode cL_hangs 489 = .ok (.isub, 1) := by decide +kernel
theorem dL_hangs_490 : decode cL_hangs 490 = .ok (.if_icmp .ne 81, 3) := by decide +kernel
theorem dL_hangs_493 : decode cL_hangs 493 = .ok (.iload 15, 2) := by decide +kernel
theorem dL_hangs_495 : decode cL_hangs 495 = .ok (.iload_n 1, 1) := by decide +kernel
theorem dL_hangs_496 : decode cL_hangs 496 = .ok (.if_icmp .gt 7, 3) := by decide +kernel
theorem dL_hangs_499 : decode cL_hangs 499 = .ok (.iconst 1, 1) := by decide +kernel
theorem dL_hangs_500 : decode cL_hangs 500 = .ok (.goto 4, 3) := by decide +kernel
theorem dL_hangs_503 : decode cL_hangs 503 = .ok (.iconst 0, 1) := by decide +kernel
theorem dL_hangs_504 : decode cL_hangs 504 = .ok (.aload_n 0, 1) := by decide +kernel
theorem dL_hangs_505 : decode cL_hangs 505 = .ok (.iload 12, 2) := by decide +kernel
theorem dL_hangs_507 : decode cL_hangs 507 = .ok (.iconst 3, 1) := by decide +kernel
theorem dL_hangs_508 : decode cL_hangs 508 = .ok (.invokestatic 136, 3) := by decide +kernel
theorem dL_hangs_511 : decode cL_hangs 511 = .ok (.bipush 15, 2) := by decide +kernel
theorem dL_hangs_513 : decode cL_hangs 513 = .ok (.if_icmp .ne 7, 3) := by decide +kernel
theorem dL_hangs_516 : decode cL_hangs 516 = .ok (.iconst 1, 1) := by decide +kernel
theorem dL_hangs_517 : decode cL_hangs 517 = .ok (.goto 4, 3) := by decide +kernel
theorem dL_hangs_520 : decode cL_hangs 520 = .ok (.iconst 0, 1) := by decide +kernel
theorem dL_hangs_521 : decode cL_hangs 521 = .ok (.if_icmp .ne 50, 3) := by decide +kernel
theorem dL_hangs_524 : decode cL_hangs 524 = .ok (.goto 21, 3) := by decide +kernel
theorem dL_hangs_527 : decode cL_hangs 527 = .ok (.iload 15, 2) := by decide +kernel
theorem dL_hangs_529 : decode cL_hangs 529 = .ok (.iconst (-1), 1) := by decide +kernel
theorem dL_hangs_530 : decode cL_hangs 530 = .ok (.if_icmp .ne 41, 3) := by decide +kernel
theorem dL_hangs_533 : decode cL_hangs 533 = .ok (.aload_n 0, 1) := by decide +kernel
theorem dL_hangs_534 : decode cL_hangs 534 = .ok (.iload 12, 2) := by decide +kernel
theorem dL_hangs_536 : decode cL_hangs 536 = .ok (.iconst 0, 1) := by decide +kernel
theorem dL_hangs_537 : decode cL_hangs 537 = .ok (.iconst 0, 1) := by decide +kernel
theorem dL_hangs_538 : decode cL_hangs 538 = .ok (.invokestatic 140, 3) := by decide +kernel
theorem dL_hangs_541 : decode cL_hangs 541 = .ok (.iconst (-1), 1) := by decide +kernel
theorem dL_hangs_542 : decode cL_hangs 542 = .ok (.if_icmp .ne 29, 3) := by decide +kernel
theorem dL_hangs_545 : decode cL_hangs 545 = .ok (.aload_n 0, 1) := by decide +kernel
theorem dL_hangs_546 : decode cL_hangs 546 = .ok (.iload 12, 2) := by decide +kernel
theorem dL_hangs_548 : decode cL_hangs 548 = .ok (.bipush 6, 2) := by decide +kernel
theorem dL_hangs_550 : decode cL_hangs 550 = .ok (.invokestatic 136, 3) := by decide +kernel
theorem dL_hangs_553 : decode cL_hangs 553 = .ok (.ifCond .eq 14, 3) := by decide +kernel
theorem dL_hangs_556 : decode cL_hangs 556 = .ok (.aload_n 0, 1) := by decide +kernel
theorem dL_hangs_557 : decode cL_hangs 557 = .ok (.iload 12, 2) := by decide +kernel
theorem dL_hangs_559 : decode cL_hangs 559 = .ok (.iconst 2, 1) := by decide +kernel
theorem dL_hangs_560 : decode cL_hangs 560 = .ok (.invokestatic 136, 3) := by decide +kernel
theorem dL_hangs_563 : decode cL_hangs 563 = .ok (.iconst 1, 1) := by decide +kernel
theorem dL_hangs_564 : decode cL_hangs 564 = .ok (.if_icmp .ne 7, 3) := by decide +kernel
theorem dL_hangs_567 : decode cL_hangs 567 = .ok (.iconst 1, 1) := by decide +kernel
theorem dL_hangs_568 : decode cL_hangs 568 = .ok (.goto 4, 3) := by decide +kernel
theorem dL_hangs_571 : decode cL_hangs 571 = .ok (.iconst 0, 1) := by decide +kernel
theorem dL_hangs_572 : decode cL_hangs 572 = .ok (.istore 5, 2) := by decide +kernel
theorem dL_hangs_574 : decode cL_hangs 574 = .ok (.iinc 12 1, 3) := by decide +kernel
theorem dL_hangs_577 : decode cL_hangs 577 = .ok (.goto (-288), 3) := by decide +kernel
theorem dL_hangs_580 : decode cL_hangs 580 = .ok (.iload 5, 2) := by decide +kernel
theorem dL_hangs_582 : decode cL_hangs 582 = .ok (.ifCond .eq 152, 3) := by decide +kernel
theorem dL_hangs_585 : decode cL_hangs 585 = .ok (.iload_n 2, 1) := by decide +kernel
theorem dL_hangs_586 : decode cL_hangs 586 = .ok (.aload_n 0, 1) := by decide +kernel
theorem dL_hangs_587 : decode cL_hangs 587 = .ok (.iconst 0, 1) := by decide +kernel
theorem dL_hangs_588 : decode cL_hangs 588 = .ok (.invokestatic 127, 3) := by decide +kernel
theorem dL_hangs_591 : decode cL_hangs 591 = .ok (.if_icmp .ne 143, 3) := by decide +kernel
theorem dL_hangs_594 : decode cL_hangs 594 = .ok (.iload_n 3, 1) := by decide +kernel
theorem dL_hangs_595 : decode cL_hangs 595 = .ok (.iload_n 1, 1) := by decide +kernel
theorem dL_hangs_596 : decode cL_hangs 596 = .ok (.if_icmp .ne 138, 3) := by decide +kernel
theorem dL_hangs_599 : decode cL_hangs 599 = .ok (.iload 4, 2) := by decide +kernel
theorem dL_hangs_601 : decode cL_hangs 601 = .ok (.iload_n 1, 1) := by decide +kernel
theorem dL_hangs_602 : decode cL_hangs 602 = .ok (.if_icmp .ne 132, 3) := by decide +kernel
theorem dL_hangs_605 : decode cL_hangs 605 = .ok (.iload 6, 2) := by decide +kernel
theorem dL_hangs_607 : decode cL_hangs 607 = .ok (.aload_n 0, 1) := by decide +kernel
theorem dL_hangs_608 : decode cL_hangs 608 = .ok (.bipush 9, 2) := by decide +kernel
theorem dL_hangs_610 : decode cL_hangs 610 = .ok (.invokestatic 127, 3) := by decide +kernel
theorem dL_hangs_613 : decode cL_hangs 613 = .ok (.if_icmp .ne 121, 3) := by decide +kernel
theorem dL_hangs_616 : decode cL_hangs 616 = .ok (.iload 7, 2) := by decide +kernel
theorem dL_hangs_618 : decode cL_hangs 618 = .ok (.iload_n 2, 1) := by decide +kernel
theorem dL_hangs_619 : decode cL_hangs 619 = .ok (.if_icmp .ne 115, 3) := by decide +kernel
theorem dL_hangs_622 : decode cL_hangs 622 = .ok (.iload 8, 2) := by decide +kernel
theorem dL_hangs_624 : decode cL_hangs 624 = .ok (.aload_n 0, 1) := by decide +kernel
theorem dL_hangs_625 : decode cL_hangs 625 = .ok (.iconst 1, 1) := by decide +kernel
theorem dL_hangs_626 : decode cL_hangs 626 = .ok (.invokestatic 127, 3) := by decide +kernel
theorem dL_hangs_629 : decode cL_hangs 629 = .ok (.if_icmp .ne 105, 3) := by decide +kernel
theorem dL_hangs_632 : decode cL_hangs 632 = .ok (.iload 9, 2) := by decide +kernel
theorem dL_hangs_634 : decode cL_hangs 634 = .ok (.aload_n 0, 1) := by decide +kernel
theorem dL_hangs_635 : decode cL_hangs 635 = .ok (.iconst 2, 1) := by decide +kernel
theorem dL_hangs_636 : decode cL_hangs 636 = .ok (.invokestatic 127, 3) := by decide +kernel
theorem dL_hangs_639 : decode cL_hangs 639 = .ok (.if_icmp .ne 95, 3) := by decide +kernel
theorem dL_hangs_642 : decode cL_hangs 642 = .ok (.iload 10, 2) := by decide +kernel
theorem dL_hangs_644 : decode cL_hangs 644 = .ok (.aload_n 0, 1) := by decide +kernel
theorem dL_hangs_645 : decode cL_hangs 645 = .ok (.iconst 5, 1) := by decide +kernel
theorem dL_hangs_646 : decode cL_hangs 646 = .ok (.invokestatic 127, 3) := by decide +kernel
theorem dL_hangs_649 : decode cL_hangs 649 = .ok (.if_icmp .ne 85, 3) := by decide +kernel
theorem dL_hangs_652 : decode cL_hangs 652 = .ok (.iload 11, 2) := by decide +kernel
theorem dL_hangs_654 : decode cL_hangs 654 = .ok (.aload_n 0, 1) := by decide +kernel
theorem dL_hangs_655 : decode cL_hangs 655 = .ok (.bipush 11, 2) := by decide +kernel
theorem dL_hangs_657 : decode cL_hangs 657 = .ok (.invokestatic 127, 3) := by decide +kernel
theorem dL_hangs_660 : decode cL_hangs 660 = .ok (.if_icmp .ne 74, 3) := by decide +kernel
theorem dL_hangs_663 : decode cL_hangs 663 = .ok (.aload_n 0, 1) := by decide +kernel
theorem dL_hangs_664 : decode cL_hangs 664 = .ok (.bipush 7, 2) := by decide +kernel
theorem dL_hangs_666 : decode cL_hangs 666 = .ok (.invokestatic 127, 3) := by decide +kernel
theorem dL_hangs_669 : decode cL_hangs 669 = .ok (.bipush 90, 2) := by decide +kernel
theorem dL_hangs_671 : decode cL_hangs 671 = .ok (.iload_n 1, 1) := by decide +kernel
theorem dL_hangs_672 : decode cL_hangs 672 = .ok (.isub, 1) := by decide +kernel
theorem dL_hangs_673 : decode cL_hangs 673 = .ok (.if_icmp .ne 61, 3) := by decide +kernel
theorem dL_hangs_676 : decode cL_hangs 676 = .ok (.aload_n 0, 1) := by decide +kernel
theorem dL_hangs_677 : decode cL_hangs 677 = .ok (.iconst 4, 1) := by decide +kernel
theorem dL_hangs_678 : decode cL_hangs 678 = .ok (.invokestatic 127, 3) := by decide +kernel
theorem dL_hangs_681 : decode cL_hangs 681 = .ok (.aload_n 0, 1) := by decide +kernel
theorem dL_hangs_682 : decode cL_hangs 682 = .ok (.iconst 3, 1) := by decide +kernel
theorem dL_hangs_683 : decode cL_hangs 683 = .ok (.invokestatic 127, 3) := by decide +kernel
theorem dL_hangs_686 : decode cL_hangs 686 = .ok (.aload_n 0, 1) := by decide +kernel
theorem dL_hangs_687 : decode cL_hangs 687 = .ok (.iconst 5, 1) := by decide +kernel
theorem dL_hangs_688 : decode cL_hangs 688 = .ok (.invokestatic 127, 3) := by decide +kernel
theorem dL_hangs_691 : decode cL_hangs 691 = .ok (.iadd, 1) := by decide +kernel
theorem dL_hangs_692 : decode cL_hangs 692 = .ok (.aload_n 0, 1) := by decide +kernel
theorem dL_hangs_693 : decode cL_hangs 693 = .ok (.bipush 6, 2) := by decide +kernel
theorem dL_hangs_695 : decode cL_hangs 695 = .ok (.invokestatic 127, 3) := by decide +kernel
theorem dL_hangs_698 : decode cL_hangs 698 = .ok (.iadd, 1) := by decide +kernel
theorem dL_hangs_699 : decode cL_hangs 699 = .ok (.if_icmp .ne 35, 3) := by decide +kernel
theorem dL_hangs_702 : decode cL_hangs 702 = .ok (.iload_n 1, 1) := by decide +kernel
theorem dL_hangs_703 : decode cL_hangs 703 = .ok (.bipush 90, 2) := by decide +kernel
theorem dL_hangs_705 : decode cL_hangs 705 = .ok (.if_icmp .ne 7, 3) := by decide +kernel
theorem dL_hangs_708 : decode cL_hangs 708 = .ok (.iconst 1, 1) := by decide +kernel
theorem dL_hangs_709 : decode cL_hangs 709 = .ok (.goto 4, 3) := by decide +kernel
theorem dL_hangs_712 : decode cL_hangs 712 = .ok (.iconst 0, 1) := by decide +kernel
theorem dL_hangs_713 : decode cL_hangs 713 = .ok (.aload_n 0, 1) := by decide +kernel
theorem dL_hangs_714 : decode cL_hangs 714 = .ok (.iconst 1, 1) := by decide +kernel
theorem dL_hangs_715 : decode cL_hangs 715 = .ok (.invokestatic 142, 3) := by decide +kernel
theorem dL_hangs_718 : decode cL_hangs 718 = .ok (.iconst (-1), 1) := by decide +kernel
theorem dL_hangs_719 : decode cL_hangs 719 = .ok (.if_icmp .ne 7, 3) := by decide +kernel
theorem dL_hangs_722 : decode cL_hangs 722 = .ok (.iconst 1, 1) := by decide +kernel
theorem dL_hangs_723 : decode cL_hangs 723 = .ok (.goto 4, 3) := by decide +kernel
theorem dL_hangs_726 : decode cL_hangs 726 = .ok (.iconst 0, 1) := by decide +kernel
theorem dL_hangs_727 : decode cL_hangs 727 = .ok (.if_icmp .ne 7, 3) := by decide +kernel
theorem dL_hangs_730 : decode cL_hangs 730 = .ok (.iconst 1, 1) := by decide +kernel
theorem dL_hangs_731 : decode cL_hangs 731 = .ok (.goto 4, 3) := by decide +kernel
theorem dL_hangs_734 : decode cL_hangs 734 = .ok (.iconst 0, 1) := by decide +kernel
theorem dL_hangs_735 : decode cL_hangs 735 = .ok (.istore 5, 2) := by decide +kernel
theorem dL_hangs_737 : decode cL_hangs 737 = .ok (.iconst 0, 1) := by decide +kernel
theorem dL_hangs_738 : decode cL_hangs 738 = .ok (.istore 12, 2) := by decide +kernel
theorem dL_hangs_740 : decode cL_hangs 740 = .ok (.iload 12, 2) := by decide +kernel
theorem dL_hangs_742 : decode cL_hangs 742 = .ok (.iconst 4, 1) := by decide +kernel
theorem dL_hangs_743 : decode cL_hangs 743 = .ok (.if_icmp .ge 204, 3) := by decide +kernel
theorem dL_hangs_746 : decode cL_hangs 746 = .ok (.iload 5, 2) := by decide +kernel
theorem dL_hangs_748 : decode cL_hangs 748 = .ok (.ifCond .eq 199, 3) := by decide +kernel
theorem dL_hangs_751 : decode cL_hangs 751 = .ok (.aload_n 0, 1) := by decide +kernel
theorem dL_hangs_752 : decode cL_hangs 752 = .ok (.iload 12, 2) := by decide +kernel
theorem dL_hangs_754 : decode cL_hangs 754 = .ok (.iconst 0, 1) := by decide +kernel
theorem dL_hangs_755 : decode cL_hangs 755 = .ok (.invokestatic 144, 3) := by decide +kernel
theorem dL_hangs_758 : decode cL_hangs 758 = .ok (.istore 13, 2) := by decide +kernel
theorem dL_hangs_760 : decode cL_hangs 760 = .ok (.aload_n 0, 1) := by decide +kernel
theorem dL_hangs_761 : decode cL_hangs 761 = .ok (.iload 12, 2) := by decide +kernel
theorem dL_hangs_763 : decode cL_hangs 763 = .ok (.iconst 3, 1) := by decide +kernel
theorem dL_hangs_764 : decode cL_hangs 764 = .ok (.invokestatic 144, 3) := by decide +kernel
theorem dL_hangs_767 : decode cL_hangs 767 = .ok (.istore 14, 2) := by decide +kernel
theorem dL_hangs_769 : decode cL_hangs 769 = .ok (.iload 12, 2) := by decide +kernel
theorem dL_hangs_771 : decode cL_hangs 771 = .ok (.iconst 2, 1) := by decide +kernel
theorem dL_hangs_772 : decode cL_hangs 772 = .ok (.if_icmp .ge 8, 3) := by decide +kernel
theorem dL_hangs_775 : decode cL_hangs 775 = .ok (.bipush 10, 2) := by decide +kernel
theorem dL_hangs_777 : decode cL_hangs 777 = .ok (.goto 16, 3) := by decide +kernel
theorem dL_hangs_780 : decode cL_hangs 780 = .ok (.iload 12, 2) := by decide +kernel
theorem dL_hangs_782 : decode cL_hangs 782 = .ok (.iconst 2, 1) := by decide +kernel
theorem dL_hangs_783 : decode cL_hangs 783 = .ok (.if_icmp .ne 8, 3) := by decide +kernel
theorem dL_hangs_786 : decode cL_hangs 786 = .ok (.bipush 20, 2) := by decide +kernel
theorem dL_hangs_788 : decode cL_hangs 788 = .ok (.goto 5, 3) := by decide +kernel
theorem dL_hangs_791 : decode cL_hangs 791 = .ok (.bipush 40, 2) := by decide +kernel
theorem dL_hangs_793 : decode cL_hangs 793 = .ok (.istore 15, 2) := by decide +kernel
theorem dL_hangs_795 : decode cL_hangs 795 = .ok (.iload 13, 2) := by decide +kernel
theorem dL_hangs_797 : decode cL_hangs 797 = .ok (.ifCond .ne 7, 3) := by decide +kernel
theorem dL_hangs_800 : decode cL_hangs 800 = .ok (.iconst 1, 1) := by decide +kernel
theorem dL_hangs_801 : decode cL_hangs 801 = .ok (.goto 4, 3) := by decide +kernel
theorem dL_hangs_804 : decode cL_hangs 804 = .ok (.iconst 0, 1) := by decide +kernel
theorem dL_hangs_805 : decode cL_hangs 805 = .ok (.aload_n 0, 1) := by decide +kernel
theorem dL_hangs_806 : decode cL_hangs 806 = .ok (.iload 12, 2) := by decide +kernel
theorem dL_hangs_808 : decode cL_hangs 808 = .ok (.iconst 1, 1) := by decide +kernel
theorem dL_hangs_809 : decode cL_hangs 809 = .ok (.invokestatic 144, 3) := by decide +kernel
theorem dL_hangs_812 : decode cL_hangs 812 = .ok (.ifCond .ne 7, 3) := by decide +kernel
theorem dL_hangs_815 : decode cL_hangs 815 = .ok (.iconst 1, 1) := by decide +kernel
theorem dL_hangs_816 : decode cL_hangs 816 = .ok (.goto 4, 3) := by decide +kernel
theorem dL_hangs_819 : decode cL_hangs 819 = .ok (.iconst 0, 1) := by decide +kernel
theorem dL_hangs_820 : decode cL_hangs 820 = .ok (.if_icmp .ne 67, 3) := by decide +kernel
theorem dL_hangs_823 : decode cL_hangs 823 = .ok (.aload_n 0, 1) := by decide +kernel
theorem dL_hangs_824 : decode cL_hangs 824 = .ok (.iload 12, 2) := by decide +kernel
theorem dL_hangs_826 : decode cL_hangs 826 = .ok (.iconst 1, 1) := by decide +kernel
theorem dL_hangs_827 : decode cL_hangs 827 = .ok (.invokestatic 144, 3) := by decide +kernel
theorem dL_hangs_830 : decode cL_hangs 830 = .ok (.iload_n 1, 1) := by decide +kernel
theorem dL_hangs_831 : decode cL_hangs 831 = .ok (.if_icmp .gt 56, 3) := by decide +kernel
theorem dL_hangs_834 : decode cL_hangs 834 = .ok (.iload 14, 2) := by decide +kernel
theorem dL_hangs_836 : decode cL_hangs 836 = .ok (.iload 13, 2) := by decide +kernel
theorem dL_hangs_838 : decode cL_hangs 838 = .ok (.ifCond .ne 7, 3) := by decide +kernel
theorem dL_hangs_841 : decode cL_hangs 841 = .ok (.iconst 0, 1) := by decide +kernel
theorem dL_hangs_842 : decode cL_hangs 842 = .ok (.goto 20, 3) := by decide +kernel
theorem dL_hangs_845 : decode cL_hangs 845 = .ok (.aload_n 0, 1) := by decide +kernel
theorem dL_hangs_846 : decode cL_hangs 846 = .ok (.iconst 3, 1) := by decide +kernel
theorem dL_hangs_847 : decode cL_hangs 847 = .ok (.invokestatic 127, 3) := by decide +kernel
theorem dL_hangs_850 : decode cL_hangs 850 = .ok (.iload 15, 2) := by decide +kernel
theorem dL_hangs_852 : decode cL_hangs 852 = .ok (.imul, 1) := by decide +kernel
theorem dL_hangs_853 : decode cL_hangs 853 = .ok (.bipush 100, 2) := by decide +kernel
theorem dL_hangs_855 : decode cL_hangs 855 = .ok (.idiv, 1) := by decide +kernel
theorem dL_hangs_856 : decode cL_hangs 856 = .ok (.iload 13, 2) := by decide +kernel
theorem dL_hangs_858 : decode cL_hangs 858 = .ok (.invokestatic 146, 3) := by decide +kernel
theorem dL_hangs_861 : decode cL_hangs 861 = .ok (.idiv, 1) := by decide +kernel
theorem dL_hangs_862 : decode cL_hangs 862 = .ok (.if_icmp .ne 25, 3) := by decide +kernel
theorem dL_hangs_865 : decode cL_hangs 865 = .ok (.aload_n 0, 1) := by decide +kernel
theorem dL_hangs_866 : decode cL_hangs 866 = .ok (.iload 12, 2) := by decide +kernel
theorem dL_hangs_868 : decode cL_hangs 868 = .ok (.iconst 2, 1) := by decide +kernel
theorem dL_hangs_869 : decode cL_hangs 869 = .ok (.invokestatic 144, 3) := by decide +kernel
theorem dL_hangs_872 : decode cL_hangs 872 = .ok (.iload 14, 2) := by decide +kernel
theorem dL_hangs_874 : decode cL_hangs 874 = .ok (.iload 13, 2) := by decide +kernel
theorem dL_hangs_876 : decode cL_hangs 876 = .ok (.invokestatic 146, 3) := by decide +kernel
theorem dL_hangs_879 : decode cL_hangs 879 = .ok (.imul, 1) := by decide +kernel
theorem dL_hangs_880 : decode cL_hangs 880 = .ok (.if_icmp .ne 7, 3) := by decide +kernel
theorem dL_hangs_883 : decode cL_hangs 883 = .ok (.iconst 1, 1) := by decide +kernel
theorem dL_hangs_884 : decode cL_hangs 884 = .ok (.goto 4, 3) := by decide +kernel
theorem dL_hangs_887 : decode cL_hangs 887 = .ok (.iconst 0, 1) := by decide +kernel
theorem dL_hangs_888 : decode cL_hangs 888 = .ok (.istore 5, 2) := by decide +kernel
theorem dL_hangs_890 : decode cL_hangs 890 = .ok (.iconst 0, 1) := by decide +kernel
theorem dL_hangs_891 : decode cL_hangs 891 = .ok (.istore 16, 2) := by decide +kernel
theorem dL_hangs_893 : decode cL_hangs 893 = .ok (.iload 16, 2) := by decide +kernel
theorem dL_hangs_895 : decode cL_hangs 895 = .ok (.bipush 6, 2) := by decide +kernel
theorem dL_hangs_897 : decode cL_hangs 897 = .ok (.if_icmp .ge 44, 3) := by decide +kernel
theorem dL_hangs_900 : decode cL_hangs 900 = .ok (.iload 5, 2) := by decide +kernel
theorem dL_hangs_902 : decode cL_hangs 902 = .ok (.ifCond .eq 30, 3) := by decide +kernel
theorem dL_hangs_905 : decode cL_hangs 905 = .ok (.aload_n 0, 1) := by decide +kernel
theorem dL_hangs_906 : decode cL_hangs 906 = .ok (.iload 16, 2) := by decide +kernel
theorem dL_hangs_908 : decode cL_hangs 908 = .ok (.bipush 6, 2) := by decide +kernel
theorem dL_hangs_910 : decode cL_hangs 910 = .ok (.invokestatic 136, 3) := by decide +kernel
theorem dL_hangs_913 : decode cL_hangs 913 = .ok (.iload 12, 2) := by decide +kernel
theorem dL_hangs_915 : decode cL_hangs 915 = .ok (.ishr, 1) := by decide +kernel
theorem dL_hangs_916 : decode cL_hangs 916 = .ok (.iconst 1, 1) := by decide +kernel
theorem dL_hangs_917 : decode cL_hangs 917 = .ok (.iand, 1) := by decide +kernel
theorem dL_hangs_918 : decode cL_hangs 918 = .ok (.iload 13, 2) := by decide +kernel
theorem dL_hangs_920 : decode cL_hangs 920 = .ok (.iload 16, 2) := by decide +kernel
theorem dL_hangs_922 : decode cL_hangs 922 = .ok (.ishr, 1) := by decide +kernel
theorem dL_hangs_923 : decode cL_hangs 923 = .ok (.iconst 1, 1) := by decide +kernel
theorem dL_hangs_924 : decode cL_hangs 924 = .ok (.iand, 1) := by decide +kernel
theorem dL_hangs_925 : decode cL_hangs 925 = .ok (.if_icmp .ne 7, 3) := by decide +kernel
theorem dL_hangs_928 : decode cL_hangs 928 = .ok (.iconst 1, 1) := by decide +kernel
theorem dL_hangs_929 : decode cL_hangs 929 = .ok (.goto 4, 3) := by decide +kernel
theorem dL_hangs_932 : decode cL_hangs 932 = .ok (.iconst 0, 1) := by decide +kernel
theorem dL_hangs_933 : decode cL_hangs 933 = .ok (.istore 5, 2) := by decide +kernel
theorem dL_hangs_935 : decode cL_hangs 935 = .ok (.iinc 16 1, 3) := by decide +kernel
theorem dL_hangs_938 : decode cL_hangs 938 = .ok (.goto (-45), 3) := by decide +kernel
theorem dL_hangs_941 : decode cL_hangs 941 = .ok (.iinc 12 1, 3) := by decide +kernel
theorem dL_hangs_944 : decode cL_hangs 944 = .ok (.goto (-204), 3) := by decide +kernel
theorem dL_hangs_947 : decode cL_hangs 947 = .ok (.iload 5, 2) := by decide +kernel
theorem dL_hangs_949 : decode cL_hangs 949 = .ok (.ifCond .eq 10, 3) := by decide +kernel
theorem dL_hangs_952 : decode cL_hangs 952 = .ok (.aload_n 0, 1) := by decide +kernel
theorem dL_hangs_953 : decode cL_hangs 953 = .ok (.invokevirtual 149, 3) := by decide +kernel
theorem dL_hangs_956 : decode cL_hangs 956 = .ok (.goto 4, 3) := by decide +kernel
theorem dL_hangs_959 : decode cL_hangs 959 = .ok (.iconst 0, 1) := by decide +kernel
theorem dL_hangs_960 : decode cL_hangs 960 = .ok (.istore 12, 2) := by decide +kernel
theorem dL_hangs_962 : decode cL_hangs 962 = .ok (.iconst 0, 1) := by decide +kernel
theorem dL_hangs_963 : decode cL_hangs 963 = .ok (.istore 13, 2) := by decide +kernel
theorem dL_hangs_965 : decode cL_hangs 965 = .ok (.iload 13, 2) := by decide +kernel
theorem dL_hangs_967 : decode cL_hangs 967 = .ok (.bipush 6, 2) := by decide +kernel
theorem dL_hangs_969 : decode cL_hangs 969 = .ok (.if_icmp .ge 53, 3) := by decide +kernel
theorem dL_hangs_972 : decode cL_hangs 972 = .ok (.iload 5, 2) := by decide +kernel
theorem dL_hangs_974 : decode cL_hangs 974 = .ok (.ifCond .eq 48, 3) := by decide +kernel
theorem dL_hangs_977 : decode cL_hangs 977 = .ok (.aload_n 0, 1) := by decide +kernel
theorem dL_hangs_978 : decode cL_hangs 978 = .ok (.iload 13, 2) := by decide +kernel
theorem dL_hangs_980 : decode cL_hangs 980 = .ok (.iconst 1, 1) := by decide +kernel
theorem dL_hangs_981 : decode cL_hangs 981 = .ok (.invokestatic 138, 3) := by decide +kernel
theorem dL_hangs_984 : decode cL_hangs 984 = .ok (.istore 14, 2) := by decide +kernel
theorem dL_hangs_986 : decode cL_hangs 986 = .ok (.iload 14, 2) := by decide +kernel
theorem dL_hangs_988 : decode cL_hangs 988 = .ok (.iconst (-1), 1) := by decide +kernel
theorem dL_hangs_989 : decode cL_hangs 989 = .ok (.if_icmp .eq 20, 3) := by decide +kernel
theorem dL_hangs_992 : decode cL_hangs 992 = .ok (.iload 12, 2) := by decide +kernel
theorem dL_hangs_994 : decode cL_hangs 994 = .ok (.ifCond .lt 19, 3) := by decide +kernel
theorem dL_hangs_997 : decode cL_hangs 997 = .ok (.aload_n 0, 1) := by decide +kernel
theorem dL_hangs_998 : decode cL_hangs 998 = .ok (.iload 12, 2) := by decide +kernel
theorem dL_hangs_1000 : decode cL_hangs 1000 = .ok (.iconst 0, 1) := by decide +kernel
theorem dL_hangs_1001 : decode cL_hangs 1001 = .ok (.invokestatic 138, 3) := by decide +kernel
theorem dL_hangs_1004 : decode cL_hangs 1004 = .ok (.iload 14, 2) := by decide +kernel
theorem dL_hangs_1006 : decode cL_hangs 1006 = .ok (.if_icmp .gt 7, 3) := by decide +kernel
theorem dL_hangs_1009 : decode cL_hangs 1009 = .ok (.iconst 1, 1) := by decide +kernel
theorem dL_hangs_1010 : decode cL_hangs 1010 = .ok (.goto 4, 3) := by decide +kernel
theorem dL_hangs_1013 : decode cL_hangs 1013 = .ok (.iconst 0, 1) := by decide +kernel
theorem dL_hangs_1014 : decode cL_hangs 1014 = .ok (.istore 5, 2) := by decide +kernel
theorem dL_hangs_1016 : decode cL_hangs 1016 = .ok (.iinc 13 1, 3) := by decide +kernel
theorem dL_hangs_1019 : decode cL_hangs 1019 = .ok (.goto (-54), 3) := by decide +kernel
theorem dL_hangs_1022 : decode cL_hangs 1022 = .ok (.iload 5, 2) := by decide +kernel
theorem dL_hangs_1024 : decode cL_hangs 1024 = .ok (.ifCond .eq 31, 3) := by decide +kernel
theorem dL_hangs_1027 : decode cL_hangs 1027 = .ok (.iload 12, 2) := by decide +kernel
theorem dL_hangs_1029 : decode cL_hangs 1029 = .ok (.iconst (-1), 1) := by decide +kernel
theorem dL_hangs_1030 : decode cL_hangs 1030 = .ok (.if_icmp .ne 7, 3) := by decide +kernel
theorem dL_hangs_1033 : decode cL_hangs 1033 = .ok (.iconst 1, 1) := by decide +kernel
theorem dL_hangs_1034 : decode cL_hangs 1034 = .ok (.goto 4, 3) := by decide +kernel
theorem dL_hangs_1037 : decode cL_hangs 1037 = .ok (.iconst 0, 1) := by decide +kernel
theorem dL_hangs_1038 : decode cL_hangs 1038 = .ok (.iload 8, 2) := by decide +kernel
theorem dL_hangs_1040 : decode cL_hangs 1040 = .ok (.ifCond .ne 7, 3) := by decide +kernel
theorem dL_hangs_1043 : decode cL_hangs 1043 = .ok (.iconst 1, 1) := by decide +kernel
theorem dL_hangs_1044 : decode cL_hangs 1044 = .ok (.goto 4, 3) := by decide +kernel
theorem dL_hangs_1047 : decode cL_hangs 1047 = .ok (.iconst 0, 1) := by decide +kernel
theorem dL_hangs_1048 : decode cL_hangs 1048 = .ok (.if_icmp .ne 7, 3) := by decide +kernel
theorem dL_hangs_1051 : decode cL_hangs 1051 = .ok (.iconst 1, 1) := by decide +kernel
theorem dL_hangs_1052 : decode cL_hangs 1052 = .ok (.goto 4, 3) := by decide +kernel
theorem dL_hangs_1055 : decode cL_hangs 1055 = .ok (.iconst 0, 1) := by decide +kernel
theorem dL_hangs_1056 : decode cL_hangs 1056 = .ok (.ireturn, 1) := by decide +kernel
theorem dL_law_0 : decode cL_law 0 = .ok (.new 10, 3) := by decide +kernel
theorem dL_law_3 : decode cL_law 3 = .ok (.dup, 1) := by decide +kernel
theorem dL_law_4 : decode cL_law 4 = .ok (.invokespecial 152, 3) := by decide +kernel
theorem dL_law_7 : decode cL_law 7 = .ok (.astore_n 1, 1) := by decide +kernel
theorem dL_law_8 : decode cL_law 8 = .ok (.aload_n 1, 1) := by decide +kernel
theorem dL_law_9 : decode cL_law 9 = .ok (.invokestatic 153, 3) := by decide +kernel
theorem dL_law_12 : decode cL_law 12 = .ok (.ldc 17, 2) := by decide +kernel
theorem dL_law_14 : decode cL_law 14 = .ok (.if_icmp .ne 101, 3) := by decide +kernel
theorem dL_law_17 : decode cL_law 17 = .ok (.aload_n 1, 1) := by decide +kernel
theorem dL_law_18 : decode cL_law 18 = .ok (.iconst 0, 1) := by decide +kernel
theorem dL_law_19 : decode cL_law 19 = .ok (.invokestatic 123, 3) := by decide +kernel
theorem dL_law_22 : decode cL_law 22 = .ok (.ldc 20, 2) := by decide +kernel
theorem dL_law_24 : decode cL_law 24 = .ok (.if_icmp .ne 91, 3) := by decide +kernel
theorem dL_law_27 : decode cL_law 27 = .ok (.aload_n 1, 1) := by decide +kernel
theorem dL_law_28 : decode cL_law 28 = .ok (.invokestatic 156, 3) := by decide +kernel
theorem dL_law_31 : decode cL_law 31 = .ok (.ldc 17, 2) := by decide +kernel
