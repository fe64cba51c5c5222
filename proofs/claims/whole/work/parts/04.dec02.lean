theorem dX6_digest_95 : decode cX6_digest 95 = .ok (.lload_n 1, 1) := by decide +kernel
theorem dX6_digest_96 : decode cX6_digest 96 = .ok (.invokevirtual 297, 3) := by decide +kernel
theorem dX6_digest_99 : decode cX6_digest 99 = .ok (.lstore_n 1, 1) := by decide +kernel
theorem dX6_digest_100 : decode cX6_digest 100 = .ok (.ldc2_w 281, 3) := by decide +kernel
theorem dX6_digest_103 : decode cX6_digest 103 = .ok (.lload_n 1, 1) := by decide +kernel
theorem dX6_digest_104 : decode cX6_digest 104 = .ok (.lmul, 1) := by decide +kernel
theorem dX6_digest_105 : decode cX6_digest 105 = .ok (.aload_n 0, 1) := by decide +kernel
theorem dX6_digest_106 : decode cX6_digest 106 = .ok (.invokevirtual 300, 3) := by decide +kernel
theorem dX6_digest_109 : decode cX6_digest 109 = .ok (.i2l, 1) := by decide +kernel
theorem dX6_digest_110 : decode cX6_digest 110 = .ok (.ladd, 1) := by decide +kernel
theorem dX6_digest_111 : decode cX6_digest 111 = .ok (.lstore_n 1, 1) := by decide +kernel
theorem dX6_digest_112 : decode cX6_digest 112 = .ok (.iconst 1, 1) := by decide +kernel
theorem dX6_digest_113 : decode cX6_digest 113 = .ok (.istore_n 3, 1) := by decide +kernel
theorem dX6_digest_114 : decode cX6_digest 114 = .ok (.iload_n 3, 1) := by decide +kernel
theorem dX6_digest_115 : decode cX6_digest 115 = .ok (.iconst 3, 1) := by decide +kernel
theorem dX6_digest_116 : decode cX6_digest 116 = .ok (.if_icmp .gt 22, 3) := by decide +kernel
theorem dX6_digest_119 : decode cX6_digest 119 = .ok (.ldc2_w 281, 3) := by decide +kernel
theorem dX6_digest_122 : decode cX6_digest 122 = .ok (.lload_n 1, 1) := by decide +kernel
theorem dX6_digest_123 : decode cX6_digest 123 = .ok (.lmul, 1) := by decide +kernel
theorem dX6_digest_124 : decode cX6_digest 124 = .ok (.aload_n 0, 1) := by decide +kernel
theorem dX6_digest_125 : decode cX6_digest 125 = .ok (.iload_n 3, 1) := by decide +kernel
theorem dX6_digest_126 : decode cX6_digest 126 = .ok (.invokevirtual 303, 3) := by decide +kernel
theorem dX6_digest_129 : decode cX6_digest 129 = .ok (.i2l, 1) := by decide +kernel
theorem dX6_digest_130 : decode cX6_digest 130 = .ok (.ladd, 1) := by decide +kernel
theorem dX6_digest_131 : decode cX6_digest 131 = .ok (.lstore_n 1, 1) := by decide +kernel
theorem dX6_digest_132 : decode cX6_digest 132 = .ok (.iinc 3 1, 3) := by decide +kernel
theorem dX6_digest_135 : decode cX6_digest 135 = .ok (.goto (-21), 3) := by decide +kernel
theorem dX6_digest_138 : decode cX6_digest 138 = .ok (.ldc2_w 281, 3) := by decide +kernel
theorem dX6_digest_141 : decode cX6_digest 141 = .ok (.lload_n 1, 1) := by decide +kernel
theorem dX6_digest_142 : decode cX6_digest 142 = .ok (.lmul, 1) := by decide +kernel
theorem dX6_digest_143 : decode cX6_digest 143 = .ok (.aload_n 0, 1) := by decide +kernel
theorem dX6_digest_144 : decode cX6_digest 144 = .ok (.invokevirtual 306, 3) := by decide +kernel
theorem dX6_digest_147 : decode cX6_digest 147 = .ok (.invokestatic 310, 3) := by decide +kernel
theorem dX6_digest_150 : decode cX6_digest 150 = .ok (.ladd, 1) := by decide +kernel
theorem dX6_digest_151 : decode cX6_digest 151 = .ok (.lstore_n 1, 1) := by decide +kernel
theorem dX6_digest_152 : decode cX6_digest 152 = .ok (.aload_n 0, 1) := by decide +kernel
theorem dX6_digest_153 : decode cX6_digest 153 = .ok (.lload_n 1, 1) := by decide +kernel
theorem dX6_digest_154 : decode cX6_digest 154 = .ok (.invokevirtual 314, 3) := by decide +kernel
theorem dX6_digest_157 : decode cX6_digest 157 = .ok (.lreturn, 1) := by decide +kernel
theorem dX6_withPlaces_0 : decode cX6_withPlaces 0 = .ok (.lload_n 1, 1) := by decide +kernel
theorem dX6_withPlaces_1 : decode cX6_withPlaces 1 = .ok (.lstore_n 3, 1) := by decide +kernel
theorem dX6_withPlaces_2 : decode cX6_withPlaces 2 = .ok (.iconst 0, 1) := by decide +kernel
theorem dX6_withPlaces_3 : decode cX6_withPlaces 3 = .ok (.istore 5, 2) := by decide +kernel
theorem dX6_withPlaces_5 : decode cX6_withPlaces 5 = .ok (.iload 5, 2) := by decide +kernel
theorem dX6_withPlaces_7 : decode cX6_withPlaces 7 = .ok (.bipush 18, 2) := by decide +kernel
theorem dX6_withPlaces_9 : decode cX6_withPlaces 9 = .ok (.if_icmp .ge 47, 3) := by decide +kernel
theorem dX6_withPlaces_12 : decode cX6_withPlaces 12 = .ok (.iconst 0, 1) := by decide +kernel
theorem dX6_withPlaces_13 : decode cX6_withPlaces 13 = .ok (.istore 6, 2) := by decide +kernel
theorem dX6_withPlaces_15 : decode cX6_withPlaces 15 = .ok (.iload 6, 2) := by decide +kernel
theorem dX6_withPlaces_17 : decode cX6_withPlaces 17 = .ok (.bipush 9, 2) := by decide +kernel
theorem dX6_withPlaces_19 : decode cX6_withPlaces 19 = .ok (.if_icmp .ge 31, 3) := by decide +kernel
theorem dX6_withPlaces_22 : decode cX6_withPlaces 22 = .ok (.ldc2_w 281, 3) := by decide +kernel
theorem dX6_withPlaces_25 : decode cX6_withPlaces 25 = .ok (.lload_n 3, 1) := by decide +kernel
theorem dX6_withPlaces_26 : decode cX6_withPlaces 26 = .ok (.lmul, 1) := by decide +kernel
theorem dX6_withPlaces_27 : decode cX6_withPlaces 27 = .ok (.aload_n 0, 1) := by decide +kernel
theorem dX6_withPlaces_28 : decode cX6_withPlaces 28 = .ok (.getfield 10, 3) := by decide +kernel
theorem dX6_withPlaces_31 : decode cX6_withPlaces 31 = .ok (.getfield 69, 3) := by decide +kernel
theorem dX6_withPlaces_34 : decode cX6_withPlaces 34 = .ok (.iload 5, 2) := by decide +kernel
theorem dX6_withPlaces_36 : decode cX6_withPlaces 36 = .ok (.iload 6, 2) := by decide +kernel
theorem dX6_withPlaces_38 : decode cX6_withPlaces 38 = .ok (.invokevirtual 176, 3) := by decide +kernel
theorem dX6_withPlaces_41 : decode cX6_withPlaces 41 = .ok (.i2l, 1) := by decide +kernel
theorem dX6_withPlaces_42 : decode cX6_withPlaces 42 = .ok (.ladd, 1) := by decide +kernel
theorem dX6_withPlaces_43 : decode cX6_withPlaces 43 = .ok (.lstore_n 3, 1) := by decide +kernel
theorem dX6_withPlaces_44 : decode cX6_withPlaces 44 = .ok (.iinc 6 1, 3) := by decide +kernel
theorem dX6_withPlaces_47 : decode cX6_withPlaces 47 = .ok (.goto (-32), 3) := by decide +kernel
theorem dX6_withPlaces_50 : decode cX6_withPlaces 50 = .ok (.iinc 5 1, 3) := by decide +kernel
theorem dX6_withPlaces_53 : decode cX6_withPlaces 53 = .ok (.goto (-48), 3) := by decide +kernel
theorem dX6_withPlaces_56 : decode cX6_withPlaces 56 = .ok (.lload_n 3, 1) := by decide +kernel
theorem dX6_withPlaces_57 : decode cX6_withPlaces 57 = .ok (.lreturn, 1) := by decide +kernel
theorem dX6_withCard_0 : decode cX6_withCard 0 = .ok (.lload_n 1, 1) := by decide +kernel
theorem dX6_withCard_1 : decode cX6_withCard 1 = .ok (.lstore 4, 2) := by decide +kernel
theorem dX6_withCard_3 : decode cX6_withCard 3 = .ok (.iconst 0, 1) := by decide +kernel
theorem dX6_withCard_4 : decode cX6_withCard 4 = .ok (.istore 6, 2) := by decide +kernel
theorem dX6_withCard_6 : decode cX6_withCard 6 = .ok (.iload 6, 2) := by decide +kernel
theorem dX6_withCard_8 : decode cX6_withCard 8 = .ok (.bipush 9, 2) := by decide +kernel
theorem dX6_withCard_10 : decode cX6_withCard 10 = .ok (.if_icmp .ge 26, 3) := by decide +kernel
theorem dX6_withCard_13 : decode cX6_withCard 13 = .ok (.ldc2_w 281, 3) := by decide +kernel
theorem dX6_withCard_16 : decode cX6_withCard 16 = .ok (.lload 4, 2) := by decide +kernel
theorem dX6_withCard_18 : decode cX6_withCard 18 = .ok (.lmul, 1) := by decide +kernel
theorem dX6_withCard_19 : decode cX6_withCard 19 = .ok (.aload_n 0, 1) := by decide +kernel
theorem dX6_withCard_20 : decode cX6_withCard 20 = .ok (.iload_n 3, 1) := by decide +kernel
theorem dX6_withCard_21 : decode cX6_withCard 21 = .ok (.iload 6, 2) := by decide +kernel
theorem dX6_withCard_23 : decode cX6_withCard 23 = .ok (.invokevirtual 317, 3) := by decide +kernel
theorem dX6_withCard_26 : decode cX6_withCard 26 = .ok (.i2l, 1) := by decide +kernel
theorem dX6_withCard_27 : decode cX6_withCard 27 = .ok (.ladd, 1) := by decide +kernel
theorem dX6_withCard_28 : decode cX6_withCard 28 = .ok (.lstore 4, 2) := by decide +kernel
theorem dX6_withCard_30 : decode cX6_withCard 30 = .ok (.iinc 6 1, 3) := by decide +kernel
theorem dX6_withCard_33 : decode cX6_withCard 33 = .ok (.goto (-27), 3) := by decide +kernel
theorem dX6_withCard_36 : decode cX6_withCard 36 = .ok (.iconst 0, 1) := by decide +kernel
theorem dX6_withCard_37 : decode cX6_withCard 37 = .ok (.istore 6, 2) := by decide +kernel
theorem dX6_withCard_39 : decode cX6_withCard 39 = .ok (.iload 6, 2) := by decide +kernel
theorem dX6_withCard_41 : decode cX6_withCard 41 = .ok (.iconst 4, 1) := by decide +kernel
theorem dX6_withCard_42 : decode cX6_withCard 42 = .ok (.if_icmp .ge 62, 3) := by decide +kernel
theorem dX6_withCard_45 : decode cX6_withCard 45 = .ok (.ldc2_w 281, 3) := by decide +kernel
theorem dX6_withCard_48 : decode cX6_withCard 48 = .ok (.lload 4, 2) := by decide +kernel
theorem dX6_withCard_50 : decode cX6_withCard 50 = .ok (.lmul, 1) := by decide +kernel
theorem dX6_withCard_51 : decode cX6_withCard 51 = .ok (.aload_n 0, 1) := by decide +kernel
theorem dX6_withCard_52 : decode cX6_withCard 52 = .ok (.iload_n 3, 1) := by decide +kernel
theorem dX6_withCard_53 : decode cX6_withCard 53 = .ok (.iload 6, 2) := by decide +kernel
theorem dX6_withCard_55 : decode cX6_withCard 55 = .ok (.invokevirtual 320, 3) := by decide +kernel
theorem dX6_withCard_58 : decode cX6_withCard 58 = .ok (.i2l, 1) := by decide +kernel
theorem dX6_withCard_59 : decode cX6_withCard 59 = .ok (.ladd, 1) := by decide +kernel
theorem dX6_withCard_60 : decode cX6_withCard 60 = .ok (.lstore 4, 2) := by decide +kernel
theorem dX6_withCard_62 : decode cX6_withCard 62 = .ok (.ldc2_w 281, 3) := by decide +kernel
theorem dX6_withCard_65 : decode cX6_withCard 65 = .ok (.lload 4, 2) := by decide +kernel
theorem dX6_withCard_67 : decode cX6_withCard 67 = .ok (.lmul, 1) := by decide +kernel
theorem dX6_withCard_68 : decode cX6_withCard 68 = .ok (.aload_n 0, 1) := by decide +kernel
theorem dX6_withCard_69 : decode cX6_withCard 69 = .ok (.iload_n 3, 1) := by decide +kernel
theorem dX6_withCard_70 : decode cX6_withCard 70 = .ok (.iload 6, 2) := by decide +kernel
theorem dX6_withCard_72 : decode cX6_withCard 72 = .ok (.iconst 0, 1) := by decide +kernel
theorem dX6_withCard_73 : decode cX6_withCard 73 = .ok (.invokevirtual 323, 3) := by decide +kernel
theorem dX6_withCard_76 : decode cX6_withCard 76 = .ok (.i2l, 1) := by decide +kernel
theorem dX6_withCard_77 : decode cX6_withCard 77 = .ok (.ladd, 1) := by decide +kernel
theorem dX6_withCard_78 : decode cX6_withCard 78 = .ok (.lstore 4, 2) := by decide +kernel
theorem dX6_withCard_80 : decode cX6_withCard 80 = .ok (.ldc2_w 281, 3) := by decide +kernel
theorem dX6_withCard_83 : decode cX6_withCard 83 = .ok (.lload 4, 2) := by decide +kernel
theorem dX6_withCard_85 : decode cX6_withCard 85 = .ok (.lmul, 1) := by decide +kernel
theorem dX6_withCard_86 : decode cX6_withCard 86 = .ok (.aload_n 0, 1) := by decide +kernel
theorem dX6_withCard_87 : decode cX6_withCard 87 = .ok (.iload_n 3, 1) := by decide +kernel
theorem dX6_withCard_88 : decode cX6_withCard 88 = .ok (.iload 6, 2) := by decide +kernel
theorem dX6_withCard_90 : decode cX6_withCard 90 = .ok (.iconst 1, 1) := by decide +kernel
theorem dX6_withCard_91 : decode cX6_withCard 91 = .ok (.invokevirtual 323, 3) := by decide +kernel
theorem dX6_withCard_94 : decode cX6_withCard 94 = .ok (.i2l, 1) := by decide +kernel
theorem dX6_withCard_95 : decode cX6_withCard 95 = .ok (.ladd, 1) := by decide +kernel
theorem dX6_withCard_96 : decode cX6_withCard 96 = .ok (.lstore 4, 2) := by decide +kernel
theorem dX6_withCard_98 : decode cX6_withCard 98 = .ok (.iinc 6 1, 3) := by decide +kernel
theorem dX6_withCard_101 : decode cX6_withCard 101 = .ok (.goto (-62), 3) := by decide +kernel
theorem dX6_withCard_104 : decode cX6_withCard 104 = .ok (.ldc2_w 281, 3) := by decide +kernel
theorem dX6_withCard_107 : decode cX6_withCard 107 = .ok (.lload 4, 2) := by decide +kernel
theorem dX6_withCard_109 : decode cX6_withCard 109 = .ok (.lmul, 1) := by decide +kernel
theorem dX6_withCard_110 : decode cX6_withCard 110 = .ok (.aload_n 0, 1) := by decide +kernel
theorem dX6_withCard_111 : decode cX6_withCard 111 = .ok (.iload_n 3, 1) := by decide +kernel
theorem dX6_withCard_112 : decode cX6_withCard 112 = .ok (.iconst 0, 1) := by decide +kernel
theorem dX6_withCard_113 : decode cX6_withCard 113 = .ok (.invokevirtual 327, 3) := by decide +kernel
theorem dX6_withCard_116 : decode cX6_withCard 116 = .ok (.i2l, 1) := by decide +kernel
theorem dX6_withCard_117 : decode cX6_withCard 117 = .ok (.ladd, 1) := by decide +kernel
theorem dX6_withCard_118 : decode cX6_withCard 118 = .ok (.lreturn, 1) := by decide +kernel
theorem dX6_withNumbersAndCalls_0 : decode cX6_withNumbersAndCalls 0 = .ok (.lload_n 1, 1) := by decide +kernel
theorem dX6_withNumbersAndCalls_1 : decode cX6_withNumbersAndCalls 1 = .ok (.lstore_n 3, 1) := by decide +kernel
theorem dX6_withNumbersAndCalls_2 : decode cX6_withNumbersAndCalls 2 = .ok (.iconst 1, 1) := by decide +kernel
theorem dX6_withNumbersAndCalls_3 : decode cX6_withNumbersAndCalls 3 = .ok (.istore 5, 2) := by decide +kernel
theorem dX6_withNumbersAndCalls_5 : decode cX6_withNumbersAndCalls 5 = .ok (.iload 5, 2) := by decide +kernel
theorem dX6_withNumbersAndCalls_7 : decode cX6_withNumbersAndCalls 7 = .ok (.bipush 90, 2) := by decide +kernel
theorem dX6_withNumbersAndCalls_9 : decode cX6_withNumbersAndCalls 9 = .ok (.if_icmp .gt 40, 3) := by decide +kernel
theorem dX6_withNumbersAndCalls_12 : decode cX6_withNumbersAndCalls 12 = .ok (.iconst 0, 1) := by decide +kernel
theorem dX6_withNumbersAndCalls_13 : decode cX6_withNumbersAndCalls 13 = .ok (.istore 6, 2) := by decide +kernel
theorem dX6_withNumbersAndCalls_15 : decode cX6_withNumbersAndCalls 15 = .ok (.iload 6, 2) := by decide +kernel
theorem dX6_withNumbersAndCalls_17 : decode cX6_withNumbersAndCalls 17 = .ok (.iconst 4, 1) := by decide +kernel
theorem dX6_withNumbersAndCalls_18 : decode cX6_withNumbersAndCalls 18 = .ok (.if_icmp .ge 25, 3) := by decide +kernel
theorem dX6_withNumbersAndCalls_21 : decode cX6_withNumbersAndCalls 21 = .ok (.ldc2_w 281, 3) := by decide +kernel
theorem dX6_withNumbersAndCalls_24 : decode cX6_withNumbersAndCalls 24 = .ok (.lload_n 3, 1) := by decide +kernel
theorem dX6_withNumbersAndCalls_25 : decode cX6_withNumbersAndCalls 25 = .ok (.lmul, 1) := by decide +kernel
theorem dX6_withNumbersAndCalls_26 : decode cX6_withNumbersAndCalls 26 = .ok (.aload_n 0, 1) := by decide +kernel
theorem dX6_withNumbersAndCalls_27 : decode cX6_withNumbersAndCalls 27 = .ok (.iload 5, 2) := by decide +kernel
theorem dX6_withNumbersAndCalls_29 : decode cX6_withNumbersAndCalls 29 = .ok (.iload 6, 2) := by decide +kernel
theorem dX6_withNumbersAndCalls_31 : decode cX6_withNumbersAndCalls 31 = .ok (.invokevirtual 330, 3) := by decide +kernel
theorem dX6_withNumbersAndCalls_34 : decode cX6_withNumbersAndCalls 34 = .ok (.i2l, 1) := by decide +kernel
theorem dX6_withNumbersAndCalls_35 : decode cX6_withNumbersAndCalls 35 = .ok (.ladd, 1) := by decide +kernel
theorem dX6_withNumbersAndCalls_36 : decode cX6_withNumbersAndCalls 36 = .ok (.lstore_n 3, 1) := by decide +kernel
theorem dX6_withNumbersAndCalls_37 : decode cX6_withNumbersAndCalls 37 = .ok (.iinc 6 1, 3) := by decide +kernel
theorem dX6_withNumbersAndCalls_40 : decode cX6_withNumbersAndCalls 40 = .ok (.goto (-25), 3) := by decide +kernel
theorem dX6_withNumbersAndCalls_43 : decode cX6_withNumbersAndCalls 43 = .ok (.iinc 5 1, 3) := by decide +kernel
theorem dX6_withNumbersAndCalls_46 : decode cX6_withNumbersAndCalls 46 = .ok (.goto (-41), 3) := by decide +kernel
theorem dX6_withNumbersAndCalls_49 : decode cX6_withNumbersAndCalls 49 = .ok (.iconst 0, 1) := by decide +kernel
theorem dX6_withNumbersAndCalls_50 : decode cX6_withNumbersAndCalls 50 = .ok (.istore 5, 2) := by decide +kernel
theorem dX6_withNumbersAndCalls_52 : decode cX6_withNumbersAndCalls 52 = .ok (.iload 5, 2) := by decide +kernel
theorem dX6_withNumbersAndCalls_54 : decode cX6_withNumbersAndCalls 54 = .ok (.bipush 10, 2) := by decide +kernel
theorem dX6_withNumbersAndCalls_56 : decode cX6_withNumbersAndCalls 56 = .ok (.if_icmp .ge 39, 3) := by decide +kernel
theorem dX6_withNumbersAndCalls_59 : decode cX6_withNumbersAndCalls 59 = .ok (.ldc2_w 281, 3) := by decide +kernel
theorem dX6_withNumbersAndCalls_62 : decode cX6_withNumbersAndCalls 62 = .ok (.lload_n 3, 1) := by decide +kernel
theorem dX6_withNumbersAndCalls_63 : decode cX6_withNumbersAndCalls 63 = .ok (.lmul, 1) := by decide +kernel
theorem dX6_withNumbersAndCalls_64 : decode cX6_withNumbersAndCalls 64 = .ok (.aload_n 0, 1) := by decide +kernel
theorem dX6_withNumbersAndCalls_65 : decode cX6_withNumbersAndCalls 65 = .ok (.iload 5, 2) := by decide +kernel
theorem dX6_withNumbersAndCalls_67 : decode cX6_withNumbersAndCalls 67 = .ok (.iconst 0, 1) := by decide +kernel
theorem dX6_withNumbersAndCalls_68 : decode cX6_withNumbersAndCalls 68 = .ok (.invokevirtual 333, 3) := by decide +kernel
theorem dX6_withNumbersAndCalls_71 : decode cX6_withNumbersAndCalls 71 = .ok (.i2l, 1) := by decide +kernel
theorem dX6_withNumbersAndCalls_72 : decode cX6_withNumbersAndCalls 72 = .ok (.ladd, 1) := by decide +kernel
theorem dX6_withNumbersAndCalls_73 : decode cX6_withNumbersAndCalls 73 = .ok (.lstore_n 3, 1) := by decide +kernel
theorem dX6_withNumbersAndCalls_74 : decode cX6_withNumbersAndCalls 74 = .ok (.ldc2_w 281, 3) := by decide +kernel
theorem dX6_withNumbersAndCalls_77 : decode cX6_withNumbersAndCalls 77 = .ok (.lload_n 3, 1) := by decide +kernel
theorem dX6_withNumbersAndCalls_78 : decode cX6_withNumbersAndCalls 78 = .ok (.lmul, 1) := by decide +kernel
theorem dX6_withNumbersAndCalls_79 : decode cX6_withNumbersAndCalls 79 = .ok (.aload_n 0, 1) := by decide +kernel
theorem dX6_withNumbersAndCalls_80 : decode cX6_withNumbersAndCalls 80 = .ok (.iload 5, 2) := by decide +kernel
theorem dX6_withNumbersAndCalls_82 : decode cX6_withNumbersAndCalls 82 = .ok (.iconst 1, 1) := by decide +kernel
theorem dX6_withNumbersAndCalls_83 : decode cX6_withNumbersAndCalls 83 = .ok (.invokevirtual 333, 3) := by decide +kernel
theorem dX6_withNumbersAndCalls_86 : decode cX6_withNumbersAndCalls 86 = .ok (.i2l, 1) := by decide +kernel
theorem dX6_withNumbersAndCalls_87 : decode cX6_withNumbersAndCalls 87 = .ok (.ladd, 1) := by decide +kernel
theorem dX6_withNumbersAndCalls_88 : decode cX6_withNumbersAndCalls 88 = .ok (.lstore_n 3, 1) := by decide +kernel
theorem dX6_withNumbersAndCalls_89 : decode cX6_withNumbersAndCalls 89 = .ok (.iinc 5 1, 3) := by decide +kernel
theorem dX6_withNumbersAndCalls_92 : decode cX6_withNumbersAndCalls 92 = .ok (.goto (-40), 3) := by decide +kernel
theorem dX6_withNumbersAndCalls_95 : decode cX6_withNumbersAndCalls 95 = .ok (.lload_n 3, 1) := by decide +kernel
theorem dX6_withNumbersAndCalls_96 : decode cX6_withNumbersAndCalls 96 = .ok (.lreturn, 1) := by decide +kernel
theorem dX6_withGamesAndRows_0 : decode cX6_withGamesAndRows 0 = .ok (.lload_n 1, 1) := by decide +kernel
theorem dX6_withGamesAndRows_1 : decode cX6_withGamesAndRows 1 = .ok (.lstore_n 3, 1) := by decide +kernel
theorem dX6_withGamesAndRows_2 : decode cX6_withGamesAndRows 2 = .ok (.iconst 0, 1) := by decide +kernel
theorem dX6_withGamesAndRows_3 : decode cX6_withGamesAndRows 3 = .ok (.istore 5, 2) := by decide +kernel
theorem dX6_withGamesAndRows_5 : decode cX6_withGamesAndRows 5 = .ok (.iload 5, 2) := by decide +kernel
theorem dX6_withGamesAndRows_7 : decode cX6_withGamesAndRows 7 = .ok (.iconst 4, 1) := by decide +kernel
theorem dX6_withGamesAndRows_8 : decode cX6_withGamesAndRows 8 = .ok (.if_icmp .ge 40, 3) := by decide +kernel
theorem dX6_withGamesAndRows_11 : decode cX6_withGamesAndRows 11 = .ok (.iconst 0, 1) := by decide +kernel
theorem dX6_withGamesAndRows_12 : decode cX6_withGamesAndRows 12 = .ok (.istore 6, 2) := by decide +kernel
theorem dX6_withGamesAndRows_14 : decode cX6_withGamesAndRows 14 = .ok (.iload 6, 2) := by decide +kernel
theorem dX6_withGamesAndRows_16 : decode cX6_withGamesAndRows 16 = .ok (.iconst 4, 1) := by decide +kernel
theorem dX6_withGamesAndRows_17 : decode cX6_withGamesAndRows 17 = .ok (.if_icmp .ge 25, 3) := by decide +kernel
theorem dX6_withGamesAndRows_20 : decode cX6_withGamesAndRows 20 = .ok (.ldc2_w 281, 3) := by decide +kernel
theorem dX6_withGamesAndRows_23 : decode cX6_withGamesAndRows 23 = .ok (.lload_n 3, 1) := by decide +kernel
theorem dX6_withGamesAndRows_24 : decode cX6_withGamesAndRows 24 = .ok (.lmul, 1) := by decide +kernel
theorem dX6_withGamesAndRows_25 : decode cX6_withGamesAndRows 25 = .ok (.aload_n 0, 1) := by decide +kernel
theorem dX6_withGamesAndRows_26 : decode cX6_withGamesAndRows 26 = .ok (.iload 5, 2) := by decide +kernel
theorem dX6_withGamesAndRows_28 : decode cX6_withGamesAndRows 28 = .ok (.iload 6, 2) := by decide +kernel
theorem dX6_withGamesAndRows_30 : decode cX6_withGamesAndRows 30 = .ok (.invokevirtual 336, 3) := by decide +kernel
theorem dX6_withGamesAndRows_33 : decode cX6_withGamesAndRows 33 = .ok (.i2l, 1) := by decide +kernel
theorem dX6_withGamesAndRows_34 : decode cX6_withGamesAndRows 34 = .ok (.ladd, 1) := by decide +kernel
theorem dX6_withGamesAndRows_35 : decode cX6_withGamesAndRows 35 = .ok (.lstore_n 3, 1) := by decide +kernel
theorem dX6_withGamesAndRows_36 : decode cX6_withGamesAndRows 36 = .ok (.iinc 6 1, 3) := by decide +kernel
theorem dX6_withGamesAndRows_39 : decode cX6_withGamesAndRows 39 = .ok (.goto (-25), 3) := by decide +kernel
theorem dX6_withGamesAndRows_42 : decode cX6_withGamesAndRows 42 = .ok (.iinc 5 1, 3) := by decide +kernel
theorem dX6_withGamesAndRows_45 : decode cX6_withGamesAndRows 45 = .ok (.goto (-40), 3) := by decide +kernel
theorem dX6_withGamesAndRows_48 : decode cX6_withGamesAndRows 48 = .ok (.iconst 0, 1) := by decide +kernel
theorem dX6_withGamesAndRows_49 : decode cX6_withGamesAndRows 49 = .ok (.istore 5, 2) := by decide +kernel
theorem dX6_withGamesAndRows_51 : decode cX6_withGamesAndRows 51 = .ok (.iload 5, 2) := by decide +kernel
theorem dX6_withGamesAndRows_53 : decode cX6_withGamesAndRows 53 = .ok (.bipush 18, 2) := by decide +kernel
theorem dX6_withGamesAndRows_55 : decode cX6_withGamesAndRows 55 = .ok (.if_icmp .ge 28, 3) := by decide +kernel
theorem dX6_withGamesAndRows_58 : decode cX6_withGamesAndRows 58 = .ok (.ldc2_w 281, 3) := by decide +kernel
theorem dX6_withGamesAndRows_61 : decode cX6_withGamesAndRows 61 = .ok (.lload_n 3, 1) := by decide +kernel
theorem dX6_withGamesAndRows_62 : decode cX6_withGamesAndRows 62 = .ok (.lmul, 1) := by decide +kernel
theorem dX6_withGamesAndRows_63 : decode cX6_withGamesAndRows 63 = .ok (.aload_n 0, 1) := by decide +kernel
theorem dX6_withGamesAndRows_64 : decode cX6_withGamesAndRows 64 = .ok (.getfield 10, 3) := by decide +kernel
theorem dX6_withGamesAndRows_67 : decode cX6_withGamesAndRows 67 = .ok (.iload 5, 2) := by decide +kernel
theorem dX6_withGamesAndRows_69 : decode cX6_withGamesAndRows 69 = .ok (.bipush 45, 2) := by decide +kernel
theorem dX6_withGamesAndRows_71 : decode cX6_withGamesAndRows 71 = .ok (.invokevirtual 248, 3) := by decide +kernel
theorem dX6_withGamesAndRows_74 : decode cX6_withGamesAndRows 74 = .ok (.i2l, 1) := by decide +kernel
theorem dX6_withGamesAndRows_75 : decode cX6_withGamesAndRows 75 = .ok (.ladd, 1) := by decide +kernel
theorem dX6_withGamesAndRows_76 : decode cX6_withGamesAndRows 76 = .ok (.lstore_n 3, 1) := by decide +kernel
theorem dX6_withGamesAndRows_77 : decode cX6_withGamesAndRows 77 = .ok (.iinc 5 1, 3) := by decide +kernel
theorem dX6_withGamesAndRows_80 : decode cX6_withGamesAndRows 80 = .ok (.goto (-29), 3) := by decide +kernel
theorem dX6_withGamesAndRows_83 : decode cX6_withGamesAndRows 83 = .ok (.lload_n 3, 1) := by decide +kernel
theorem dX6_withGamesAndRows_84 : decode cX6_withGamesAndRows 84 = .ok (.lreturn, 1) := by decide +kernel
theorem dX6_withSlotsAndBuffer_0 : decode cX6_withSlotsAndBuffer 0 = .ok (.lload_n 1, 1) := by decide +kernel
theorem dX6_withSlotsAndBuffer_1 : decode cX6_withSlotsAndBuffer 1 = .ok (.lstore_n 3, 1) := by decide +kernel
theorem dX6_withSlotsAndBuffer_2 : decode cX6_withSlotsAndBuffer 2 = .ok (.iconst 0, 1) := by decide +kernel
theorem dX6_withSlotsAndBuffer_3 : decode cX6_withSlotsAndBuffer 3 = .ok (.istore 5, 2) := by decide +kernel
theorem dX6_withSlotsAndBuffer_5 : decode cX6_withSlotsAndBuffer 5 = .ok (.iload 5, 2) := by decide +kernel
theorem dX6_withSlotsAndBuffer_7 : decode cX6_withSlotsAndBuffer 7 = .ok (.iconst 2, 1) := by decide +kernel
theorem dX6_withSlotsAndBuffer_8 : decode cX6_withSlotsAndBuffer 8 = .ok (.if_icmp .ge 32, 3) := by decide +kernel
theorem dX6_withSlotsAndBuffer_11 : decode cX6_withSlotsAndBuffer 11 = .ok (.ldc2_w 281, 3) := by decide +kernel
theorem dX6_withSlotsAndBuffer_14 : decode cX6_withSlotsAndBuffer 14 = .ok (.lload_n 3, 1) := by decide +kernel
theorem dX6_withSlotsAndBuffer_15 : decode cX6_withSlotsAndBuffer 15 = .ok (.lmul, 1) := by decide +kernel
theorem dX6_withSlotsAndBuffer_16 : decode cX6_withSlotsAndBuffer 16 = .ok (.aload_n 0, 1) := by decide +kernel
theorem dX6_withSlotsAndBuffer_17 : decode cX6_withSlotsAndBuffer 17 = .ok (.getfield 20, 3) := by decide +kernel
theorem dX6_withSlotsAndBuffer_20 : decode cX6_withSlotsAndBuffer 20 = .ok (.iload 5, 2) := by decide +kernel
theorem dX6_withSlotsAndBuffer_22 : decode cX6_withSlotsAndBuffer 22 = .ok (.baload, 1) := by decide +kernel
theorem dX6_withSlotsAndBuffer_23 : decode cX6_withSlotsAndBuffer 23 = .ok (.ifCond .eq 7, 3) := by decide +kernel
theorem dX6_withSlotsAndBuffer_26 : decode cX6_withSlotsAndBuffer 26 = .ok (.iconst 1, 1) := by decide +kernel
theorem dX6_withSlotsAndBuffer_27 : decode cX6_withSlotsAndBuffer 27 = .ok (.goto 4, 3) := by decide +kernel
theorem dX6_withSlotsAndBuffer_30 : decode cX6_withSlotsAndBuffer 30 = .ok (.iconst 0, 1) := by decide +kernel
theorem dX6_withSlotsAndBuffer_31 : decode cX6_withSlotsAndBuffer 31 = .ok (.i2l, 1) := by decide +kernel
theorem dX6_withSlotsAndBuffer_32 : decode cX6_withSlotsAndBuffer 32 = .ok (.ladd, 1) := by decide +kernel
theorem dX6_withSlotsAndBuffer_33 : decode cX6_withSlotsAndBuffer 33 = .ok (.lstore_n 3, 1) := by decide +kernel
theorem dX6_withSlotsAndBuffer_34 : decode cX6_withSlotsAndBuffer 34 = .ok (.iinc 5 1, 3) := by decide +kernel
theorem dX6_withSlotsAndBuffer_37 : decode cX6_withSlotsAndBuffer 37 = .ok (.goto (-32), 3) := by decide +kernel
theorem dX6_withSlotsAndBuffer_40 : decode cX6_withSlotsAndBuffer 40 = .ok (.ldc2_w 281, 3) := by decide +kernel
theorem dX6_withSlotsAndBuffer_43 : decode cX6_withSlotsAndBuffer 43 = .ok (.lload_n 3, 1) := by decide +kernel
theorem dX6_withSlotsAndBuffer_44 : decode cX6_withSlotsAndBuffer 44 = .ok (.lmul, 1) := by decide +kernel
theorem dX6_withSlotsAndBuffer_45 : decode cX6_withSlotsAndBuffer 45 = .ok (.aload_n 0, 1) := by decide +kernel
theorem dX6_withSlotsAndBuffer_46 : decode cX6_withSlotsAndBuffer 46 = .ok (.getfield 30, 3) := by decide +kernel
theorem dX6_withSlotsAndBuffer_49 : decode cX6_withSlotsAndBuffer 49 = .ok (.getfield 140, 3) := by decide +kernel
theorem dX6_withSlotsAndBuffer_52 : decode cX6_withSlotsAndBuffer 52 = .ok (.i2l, 1) := by decide +kernel
theorem dX6_withSlotsAndBuffer_53 : decode cX6_withSlotsAndBuffer 53 = .ok (.ladd, 1) := by decide +kernel
theorem dX6_withSlotsAndBuffer_54 : decode cX6_withSlotsAndBuffer 54 = .ok (.lstore_n 3, 1) := by decide +kernel
theorem dX6_withSlotsAndBuffer_55 : decode cX6_withSlotsAndBuffer 55 = .ok (.iconst 0, 1) := by decide +kernel
theorem dX6_withSlotsAndBuffer_56 : decode cX6_withSlotsAndBuffer 56 = .ok (.istore 5, 2) := by decide +kernel
theorem dX6_withSlotsAndBuffer_58 : decode cX6_withSlotsAndBuffer 58 = .ok (.iload 5, 2) := by decide +kernel
theorem dX6_withSlotsAndBuffer_60 : decode cX6_withSlotsAndBuffer 60 = .ok (.aload_n 0, 1) := by decide +kernel
theorem dX6_withSlotsAndBuffer_61 : decode cX6_withSlotsAndBuffer 61 = .ok (.getfield 30, 3) := by decide +kernel
theorem dX6_withSlotsAndBuffer_64 : decode cX6_withSlotsAndBuffer 64 = .ok (.getfield 140, 3) := by decide +kernel
theorem dX6_withSlotsAndBuffer_67 : decode cX6_withSlotsAndBuffer 67 = .ok (.if_icmp .ge 26, 3) := by decide +kernel
theorem dX6_withSlotsAndBuffer_70 : decode cX6_withSlotsAndBuffer 70 = .ok (.ldc2_w 281, 3) := by decide +kernel
theorem dX6_withSlotsAndBuffer_73 : decode cX6_withSlotsAndBuffer 73 = .ok (.lload_n 3, 1) := by decide +kernel
theorem dX6_withSlotsAndBuffer_74 : decode cX6_withSlotsAndBuffer 74 = .ok (.lmul, 1) := by decide +kernel
theorem dX6_withSlotsAndBuffer_75 : decode cX6_withSlotsAndBuffer 75 = .ok (.aload_n 0, 1) := by decide +kernel
theorem dX6_withSlotsAndBuffer_76 : decode cX6_withSlotsAndBuffer 76 = .ok (.getfield 30, 3) := by decide +kernel
theorem dX6_withSlotsAndBuffer_79 : decode cX6_withSlotsAndBuffer 79 = .ok (.iload 5, 2) := by decide +kernel
theorem dX6_withSlotsAndBuffer_81 : decode cX6_withSlotsAndBuffer 81 = .ok (.invokevirtual 156, 3) := by decide +kernel
theorem dX6_withSlotsAndBuffer_84 : decode cX6_withSlotsAndBuffer 84 = .ok (.i2l, 1) := by decide +kernel
theorem dX6_withSlotsAndBuffer_85 : decode cX6_withSlotsAndBuffer 85 = .ok (.ladd, 1) := by decide +kernel
theorem dX6_withSlotsAndBuffer_86 : decode cX6_withSlotsAndBuffer 86 = .ok (.lstore_n 3, 1) := by decide +kernel
theorem dX6_withSlotsAndBuffer_87 : decode cX6_withSlotsAndBuffer 87 = .ok (.iinc 5 1, 3) := by decide +kernel
theorem dX6_withSlotsAndBuffer_90 : decode cX6_withSlotsAndBuffer 90 = .ok (.goto (-32), 3) := by decide +kernel
theorem dX6_withSlotsAndBuffer_93 : decode cX6_withSlotsAndBuffer 93 = .ok (.lload_n 3, 1) := by decide +kernel
theorem dX6_withSlotsAndBuffer_94 : decode cX6_withSlotsAndBuffer 94 = .ok (.lreturn, 1) := by decide +kernel
theorem dX6_bitsOfShare_0 : decode cX6_bitsOfShare 0 = .ok (.dload_n 0, 1) := by decide +kernel
theorem dX6_bitsOfShare_1 : decode cX6_bitsOfShare 1 = .ok (.dconst 0, 1) := by decide +kernel
theorem dX6_bitsOfShare_2 : decode cX6_bitsOfShare 2 = .ok (.dcmp .g, 1) := by decide +kernel
theorem dX6_bitsOfShare_3 : decode cX6_bitsOfShare 3 = .ok (.ifCond .gt 5, 3) := by decide +kernel
theorem dX6_bitsOfShare_6 : decode cX6_bitsOfShare 6 = .ok (.lconst 0, 1) := by decide +kernel
theorem dX6_bitsOfShare_7 : decode cX6_bitsOfShare 7 = .ok (.lreturn, 1) := by decide +kernel
theorem dX6_bitsOfShare_8 : decode cX6_bitsOfShare 8 = .ok (.dload_n 0, 1) := by decide +kernel
theorem dX6_bitsOfShare_9 : decode cX6_bitsOfShare 9 = .ok (.dstore_n 2, 1) := by decide +kernel
theorem dX6_bitsOfShare_10 : decode cX6_bitsOfShare 10 = .ok (.ldc2_w 339, 3) := by decide +kernel
theorem dX6_bitsOfShare_13 : decode cX6_bitsOfShare 13 = .ok (.lstore 4, 2) := by decide +kernel
theorem dX6_bitsOfShare_15 : decode cX6_bitsOfShare 15 = .ok (.iconst 0, 1) := by decide +kernel
theorem dX6_bitsOfShare_16 : decode cX6_bitsOfShare 16 = .ok (.istore 6, 2) := by decide +kernel
theorem dX6_bitsOfShare_18 : decode cX6_bitsOfShare 18 = .ok (.iload 6, 2) := by decide +kernel
theorem dX6_bitsOfShare_20 : decode cX6_bitsOfShare 20 = .ok (.bipush 64, 2) := by decide +kernel
theorem dX6_bitsOfShare_22 : decode cX6_bitsOfShare 22 = .ok (.if_icmp .ge 27, 3) := by decide +kernel
theorem dX6_bitsOfShare_25 : decode cX6_bitsOfShare 25 = .ok (.dload_n 2, 1) := by decide +kernel
theorem dX6_bitsOfShare_26 : decode cX6_bitsOfShare 26 = .ok (.dconst 1, 1) := by decide +kernel
theorem dX6_bitsOfShare_27 : decode cX6_bitsOfShare 27 = .ok (.dcmp .g, 1) := by decide +kernel
theorem dX6_bitsOfShare_28 : decode cX6_bitsOfShare 28 = .ok (.ifCond .ge 21, 3) := by decide +kernel
theorem dX6_bitsOfShare_31 : decode cX6_bitsOfShare 31 = .ok (.dload_n 2, 1) := by decide +kernel
theorem dX6_bitsOfShare_32 : decode cX6_bitsOfShare 32 = .ok (.ldc2_w 341, 3) := by decide +kernel
theorem dX6_bitsOfShare_35 : decode cX6_bitsOfShare 35 = .ok (.dmul, 1) := by decide +kernel
theorem dX6_bitsOfShare_36 : decode cX6_bitsOfShare 36 = .ok (.dstore_n 2, 1) := by decide +kernel
theorem dX6_bitsOfShare_37 : decode cX6_bitsOfShare 37 = .ok (.lload 4, 2) := by decide +kernel
theorem dX6_bitsOfShare_39 : decode cX6_bitsOfShare 39 = .ok (.lconst 1, 1) := by decide +kernel
theorem dX6_bitsOfShare_40 : decode cX6_bitsOfShare 40 = .ok (.lsub, 1) := by decide +kernel
theorem dX6_bitsOfShare_41 : decode cX6_bitsOfShare 41 = .ok (.lstore 4, 2) := by decide +kernel
theorem dX6_bitsOfShare_43 : decode cX6_bitsOfShare 43 = .ok (.iinc 6 1, 3) := by decide +kernel
theorem dX6_bitsOfShare_46 : decode cX6_bitsOfShare 46 = .ok (.goto (-28), 3) := by decide +kernel
theorem dX6_bitsOfShare_49 : decode cX6_bitsOfShare 49 = .ok (.lload 4, 2) := by decide +kernel
theorem dX6_bitsOfShare_51 : decode cX6_bitsOfShare 51 = .ok (.bipush 52, 2) := by decide +kernel
theorem dX6_bitsOfShare_53 : decode cX6_bitsOfShare 53 = .ok (.lshl, 1) := by decide +kernel
theorem dX6_bitsOfShare_54 : decode cX6_bitsOfShare 54 = .ok (.dload_n 2, 1) := by decide +kernel
theorem dX6_bitsOfShare_55 : decode cX6_bitsOfShare 55 = .ok (.dconst 1, 1) := by decide +kernel
theorem dX6_bitsOfShare_56 : decode cX6_bitsOfShare 56 = .ok (.dsub, 1) := by decide +kernel
theorem dX6_bitsOfShare_57 : decode cX6_bitsOfShare 57 = .ok (.ldc2_w 343, 3) := by decide +kernel
theorem dX6_bitsOfShare_60 : decode cX6_bitsOfShare 60 = .ok (.dmul, 1) := by decide +kernel
theorem dX6_bitsOfShare_61 : decode cX6_bitsOfShare 61 = .ok (.d2l, 1) := by decide +kernel
theorem dX6_bitsOfShare_62 : decode cX6_bitsOfShare 62 = .ok (.ladd, 1) := by decide +kernel
theorem dX6_bitsOfShare_63 : decode cX6_bitsOfShare 63 = .ok (.lreturn, 1) := by decide +kernel
theorem dX6_needPlace_0 : decode cX6_needPlace 0 = .ok (.iload_n 0, 1) := by decide +kernel
theorem dX6_needPlace_1 : decode cX6_needPlace 1 = .ok (.ifCond .ne 14, 3) := by decide +kernel
theorem dX6_needPlace_4 : decode cX6_needPlace 4 = .ok (.new 345, 3) := by decide +kernel
theorem dX6_needPlace_7 : decode cX6_needPlace 7 = .ok (.dup, 1) := by decide +kernel
theorem dX6_needPlace_8 : decode cX6_needPlace 8 = .ok (.ldc_w 347, 3) := by decide +kernel
theorem dX6_needPlace_11 : decode cX6_needPlace 11 = .ok (.invokespecial 349, 3) := by decide +kernel
theorem dX6_needPlace_14 : decode cX6_needPlace 14 = .ok (.athrow, 1) := by decide +kernel
theorem dX6_needPlace_15 : decode cX6_needPlace 15 = .ok (.return_, 1) := by decide +kernel
theorem dX6_needValue_0 : decode cX6_needValue 0 = .ok (.iload_n 0, 1) := by decide +kernel
theorem dX6_needValue_1 : decode cX6_needValue 1 = .ok (.ifCond .ne 14, 3) := by decide +kernel
theorem dX6_needValue_4 : decode cX6_needValue 4 = .ok (.new 352, 3) := by decide +kernel
theorem dX6_needValue_7 : decode cX6_needValue 7 = .ok (.dup, 1) := by decide +kernel
theorem dX6_needValue_8 : decode cX6_needValue 8 = .ok (.ldc_w 354, 3) := by decide +kernel
theorem dX6_needValue_11 : decode cX6_needValue 11 = .ok (.invokespecial 356, 3) := by decide +kernel
theorem dX6_needValue_14 : decode cX6_needValue 14 = .ok (.athrow, 1) := by decide +kernel
theorem dX6_needValue_15 : decode cX6_needValue 15 = .ok (.return_, 1) := by decide +kernel
theorem dX6_needState_0 : decode cX6_needState 0 = .ok (.iload_n 0, 1) := by decide +kernel
theorem dX6_needState_1 : decode cX6_needState 1 = .ok (.ifCond .ne 14, 3) := by decide +kernel
theorem dX6_needState_4 : decode cX6_needState 4 = .ok (.new 357, 3) := by decide +kernel
theorem dX6_needState_7 : decode cX6_needState 7 = .ok (.dup, 1) := by decide +kernel
theorem dX6_needState_8 : decode cX6_needState 8 = .ok (.ldc_w 359, 3) := by decide +kernel
theorem dX6_needState_11 : decode cX6_needState 11 = .ok (.invokespecial 361, 3) := by decide +kernel
theorem dX6_needState_14 : decode cX6_needState 14 = .ok (.athrow, 1) := by decide +kernel
theorem dX6_needState_15 : decode cX6_needState 15 = .ok (.return_, 1) := by decide +kernel
theorem dX6_isCard_0 : decode cX6_isCard 0 = .ok (.iload_n 0, 1) := by decide +kernel
theorem dX6_isCard_1 : decode cX6_isCard 1 = .ok (.ifCond .lt 13, 3) := by decide +kernel
theorem dX6_isCard_4 : decode cX6_isCard 4 = .ok (.iload_n 0, 1) := by decide +kernel
theorem dX6_isCard_5 : decode cX6_isCard 5 = .ok (.bipush 6, 2) := by decide +kernel
theorem dX6_isCard_7 : decode cX6_isCard 7 = .ok (.if_icmp .ge 7, 3) := by decide +kernel
theorem dX6_isCard_10 : decode cX6_isCard 10 = .ok (.iconst 1, 1) := by decide +kernel
theorem dX6_isCard_11 : decode cX6_isCard 11 = .ok (.goto 4, 3) := by decide +kernel
theorem dX6_isCard_14 : decode cX6_isCard 14 = .ok (.iconst 0, 1) := by decide +kernel
theorem dX6_isCard_15 : decode cX6_isCard 15 = .ok (.ireturn, 1) := by decide +kernel
theorem dX6_isRow_0 : decode cX6_isRow 0 = .ok (.iload_n 0, 1) := by decide +kernel
theorem dX6_isRow_1 : decode cX6_isRow 1 = .ok (.ifCond .lt 12, 3) := by decide +kernel
theorem dX6_isRow_4 : decode cX6_isRow 4 = .ok (.iload_n 0, 1) := by decide +kernel
theorem dX6_isRow_5 : decode cX6_isRow 5 = .ok (.iconst 3, 1) := by decide +kernel
theorem dX6_isRow_6 : decode cX6_isRow 6 = .ok (.if_icmp .ge 7, 3) := by decide +kernel
theorem dX6_isRow_9 : decode cX6_isRow 9 = .ok (.iconst 1, 1) := by decide +kernel
theorem dX6_isRow_10 : decode cX6_isRow 10 = .ok (.goto 4, 3) := by decide +kernel
theorem dX6_isRow_13 : decode cX6_isRow 13 = .ok (.iconst 0, 1) := by decide +kernel
theorem dX6_isRow_14 : decode cX6_isRow 14 = .ok (.ireturn, 1) := by decide +kernel
theorem dX6_isNumber_0 : decode cX6_isNumber 0 = .ok (.iload_n 0, 1) := by decide +kernel
theorem dX6_isNumber_1 : decode cX6_isNumber 1 = .ok (.iconst 1, 1) := by decide +kernel
theorem dX6_isNumber_2 : decode cX6_isNumber 2 = .ok (.if_icmp .lt 13, 3) := by decide +kernel
theorem dX6_isNumber_5 : decode cX6_isNumber 5 = .ok (.iload_n 0, 1) := by decide +kernel
theorem dX6_isNumber_6 : decode cX6_isNumber 6 = .ok (.bipush 90, 2) := by decide +kernel
theorem dX6_isNumber_8 : decode cX6_isNumber 8 = .ok (.if_icmp .gt 7, 3) := by decide +kernel
theorem dX6_isNumber_11 : decode cX6_isNumber 11 = .ok (.iconst 1, 1) := by decide +kernel
theorem dX6_isNumber_12 : decode cX6_isNumber 12 = .ok (.goto 4, 3) := by decide +kernel
theorem dX6_isNumber_15 : decode cX6_isNumber 15 = .ok (.iconst 0, 1) := by decide +kernel
theorem dX6_isNumber_16 : decode cX6_isNumber 16 = .ok (.ireturn, 1) := by decide +kernel
theorem dX6_isGame_0 : decode cX6_isGame 0 = .ok (.iload_n 0, 1) := by decide +kernel
theorem dX6_isGame_1 : decode cX6_isGame 1 = .ok (.ifCond .lt 12, 3) := by decide +kernel
theorem dX6_isGame_4 : decode cX6_isGame 4 = .ok (.iload_n 0, 1) := by decide +kernel
theorem dX6_isGame_5 : decode cX6_isGame 5 = .ok (.iconst 4, 1) := by decide +kernel
theorem dX6_isGame_6 : decode cX6_isGame 6 = .ok (.if_icmp .ge 7, 3) := by decide +kernel
theorem dX6_isGame_9 : decode cX6_isGame 9 = .ok (.iconst 1, 1) := by decide +kernel
theorem dX6_isGame_10 : decode cX6_isGame 10 = .ok (.goto 4, 3) := by decide +kernel
theorem dX6_isGame_13 : decode cX6_isGame 13 = .ok (.iconst 0, 1) := by decide +kernel
theorem dX6_isGame_14 : decode cX6_isGame 14 = .ok (.ireturn, 1) := by decide +kernel
theorem dX6_isSetting_0 : decode cX6_isSetting 0 = .ok (.iload_n 0, 1) := by decide +kernel
theorem dX6_isSetting_1 : decode cX6_isSetting 1 = .ok (.ifCond .lt 12, 3) := by decide +kernel
theorem dX6_isSetting_4 : decode cX6_isSetting 4 = .ok (.iload_n 0, 1) := by decide +kernel
theorem dX6_isSetting_5 : decode cX6_isSetting 5 = .ok (.iconst 3, 1) := by decide +kernel
theorem dX6_isSetting_6 : decode cX6_isSetting 6 = .ok (.if_icmp .ge 7, 3) := by decide +kernel
theorem dX6_isSetting_9 : decode cX6_isSetting 9 = .ok (.iconst 1, 1) := by decide +kernel
theorem dX6_isSetting_10 : decode cX6_isSetting 10 = .ok (.goto 4, 3) := by decide +kernel
theorem dX6_isSetting_13 : decode cX6_isSetting 13 = .ok (.iconst 0, 1) := by decide +kernel
theorem dX6_isSetting_14 : decode cX6_isSetting 14 = .ok (.ireturn, 1) := by decide +kernel
theorem dX6_isSlot_0 : decode cX6_isSlot 0 = .ok (.iload_n 0, 1) := by decide +kernel
theorem dX6_isSlot_1 : decode cX6_isSlot 1 = .ok (.ifCond .lt 12, 3) := by decide +kernel
theorem dX6_isSlot_4 : decode cX6_isSlot 4 = .ok (.iload_n 0, 1) := by decide +kernel
theorem dX6_isSlot_5 : decode cX6_isSlot 5 = .ok (.iconst 2, 1) := by decide +kernel
theorem dX6_isSlot_6 : decode cX6_isSlot 6 = .ok (.if_icmp .ge 7, 3) := by decide +kernel
theorem dX6_isSlot_9 : decode cX6_isSlot 9 = .ok (.iconst 1, 1) := by decide +kernel
theorem dX6_isSlot_10 : decode cX6_isSlot 10 = .ok (.goto 4, 3) := by decide +kernel
theorem dX6_isSlot_13 : decode cX6_isSlot 13 = .ok (.iconst 0, 1) := by decide +kernel
theorem dX6_isSlot_14 : decode cX6_isSlot 14 = .ok (.ireturn, 1) := by decide +kernel
theorem dX6_lotAfter_0 : decode cX6_lotAfter 0 = .ok (.iload_n 0, 1) := by decide +kernel
theorem dX6_lotAfter_1 : decode cX6_lotAfter 1 = .ok (.sipush 421, 3) := by decide +kernel
theorem dX6_lotAfter_4 : decode cX6_lotAfter 4 = .ok (.imul, 1) := by decide +kernel
theorem dX6_lotAfter_5 : decode cX6_lotAfter 5 = .ok (.sipush 1663, 3) := by decide +kernel
theorem dX6_lotAfter_8 : decode cX6_lotAfter 8 = .ok (.iadd, 1) := by decide +kernel
theorem dX6_lotAfter_9 : decode cX6_lotAfter 9 = .ok (.sipush 10000, 3) := by decide +kernel
theorem dX6_lotAfter_12 : decode cX6_lotAfter 12 = .ok (.irem, 1) := by decide +kernel
theorem dX6_lotAfter_13 : decode cX6_lotAfter 13 = .ok (.ireturn, 1) := by decide +kernel
theorem dX6_save_0 : decode cX6_save 0 = .ok (.aload_n 0, 1) := by decide +kernel
theorem dX6_save_1 : decode cX6_save 1 = .ok (.getfield 170, 3) := by decide +kernel
theorem dX6_save_4 : decode cX6_save 4 = .ok (.bipush 6, 2) := by decide +kernel
theorem dX6_save_6 : decode cX6_save 6 = .ok (.if_icmp .ne 26, 3) := by decide +kernel
theorem dX6_save_9 : decode cX6_save 9 = .ok (.aload_n 0, 1) := by decide +kernel
theorem dX6_save_10 : decode cX6_save 10 = .ok (.aload_n 0, 1) := by decide +kernel
theorem dX6_save_11 : decode cX6_save 11 = .ok (.getfield 173, 3) := by decide +kernel
theorem dX6_save_14 : decode cX6_save 14 = .ok (.iconst 1, 1) := by decide +kernel
theorem dX6_save_15 : decode cX6_save 15 = .ok (.iadd, 1) := by decide +kernel
theorem dX6_save_16 : decode cX6_save 16 = .ok (.bipush 6, 2) := by decide +kernel
theorem dX6_save_18 : decode cX6_save 18 = .ok (.irem, 1) := by decide +kernel
theorem dX6_save_19 : decode cX6_save 19 = .ok (.putfield 173, 3) := by decide +kernel
theorem dX6_save_22 : decode cX6_save 22 = .ok (.aload_n 0, 1) := by decide +kernel
theorem dX6_save_23 : decode cX6_save 23 = .ok (.dup, 1) := by decide +kernel
theorem dX6_save_24 : decode cX6_save 24 = .ok (.getfield 170, 3) := by decide +kernel
theorem dX6_save_27 : decode cX6_save 27 = .ok (.iconst 1, 1) := by decide +kernel
theorem dX6_save_28 : decode cX6_save 28 = .ok (.isub, 1) := by decide +kernel
theorem dX6_save_29 : decode cX6_save 29 = .ok (.putfield 170, 3) := by decide +kernel
theorem dX6_save_32 : decode cX6_save 32 = .ok (.aload_n 0, 1) := by decide +kernel
theorem dX6_save_33 : decode cX6_save 33 = .ok (.getfield 24, 3) := by decide +kernel
theorem dX6_save_36 : decode cX6_save 36 = .ok (.aload_n 0, 1) := by decide +kernel
theorem dX6_save_37 : decode cX6_save 37 = .ok (.getfield 173, 3) := by decide +kernel
theorem dX6_save_40 : decode cX6_save 40 = .ok (.aload_n 0, 1) := by decide +kernel
theorem dX6_save_41 : decode cX6_save 41 = .ok (.getfield 170, 3) := by decide +kernel
theorem dX6_save_44 : decode cX6_save 44 = .ok (.iadd, 1) := by decide +kernel
theorem dX6_save_45 : decode cX6_save 45 = .ok (.bipush 6, 2) := by decide +kernel
theorem dX6_save_47 : decode cX6_save 47 = .ok (.irem, 1) := by decide +kernel
theorem dX6_save_48 : decode cX6_save 48 = .ok (.aaload, 1) := by decide +kernel
theorem dX6_save_49 : decode cX6_save 49 = .ok (.aload_n 0, 1) := by decide +kernel
theorem dX6_save_50 : decode cX6_save 50 = .ok (.getfield 10, 3) := by decide +kernel
theorem dX6_save_53 : decode cX6_save 53 = .ok (.invokevirtual 165, 3) := by decide +kernel
theorem dX6_save_56 : decode cX6_save 56 = .ok (.aload_n 0, 1) := by decide +kernel
theorem dX6_save_57 : decode cX6_save 57 = .ok (.dup, 1) := by decide +kernel
theorem dX6_save_58 : decode cX6_save 58 = .ok (.getfield 170, 3) := by decide +kernel
theorem dX6_save_61 : decode cX6_save 61 = .ok (.iconst 1, 1) := by decide +kernel
theorem dX6_save_62 : decode cX6_save 62 = .ok (.iadd, 1) := by decide +kernel
theorem dX6_save_63 : decode cX6_save 63 = .ok (.putfield 170, 3) := by decide +kernel
theorem dX6_save_66 : decode cX6_save 66 = .ok (.return_, 1) := by decide +kernel
theorem dX6_doOrder_0 : decode cX6_doOrder 0 = .ok (.aload_n 0, 1) := by decide +kernel
theorem dX6_doOrder_1 : decode cX6_doOrder 1 = .ok (.getfield 30, 3) := by decide +kernel
theorem dX6_doOrder_4 : decode cX6_doOrder 4 = .ok (.iload_n 1, 1) := by decide +kernel
theorem dX6_doOrder_5 : decode cX6_doOrder 5 = .ok (.iconst 1, 1) := by decide +kernel
theorem dX6_doOrder_6 : decode cX6_doOrder 6 = .ok (.iadd, 1) := by decide +kernel
theorem dX6_doOrder_7 : decode cX6_doOrder 7 = .ok (.invokevirtual 362, 3) := by decide +kernel
theorem dX6_doOrder_10 : decode cX6_doOrder 10 = .ok (.istore_n 2, 1) := by decide +kernel
theorem dX6_doOrder_11 : decode cX6_doOrder 11 = .ok (.aload_n 0, 1) := by decide +kernel
theorem dX6_doOrder_12 : decode cX6_doOrder 12 = .ok (.getfield 30, 3) := by decide +kernel
theorem dX6_doOrder_15 : decode cX6_doOrder 15 = .ok (.iload_n 1, 1) := by decide +kernel
theorem dX6_doOrder_16 : decode cX6_doOrder 16 = .ok (.invokevirtual 156, 3) := by decide +kernel
theorem dX6_doOrder_19 : decode cX6_doOrder 19 = .ok (.lookupswitch 147 #[(98, 93), (100, 117), (112, 33)], 33) := by decide +kernel
theorem dX6_doOrder_52 : decode cX6_doOrder 52 = .ok (.iload_n 2, 1) := by decide +kernel
theorem dX6_doOrder_53 : decode cX6_doOrder 53 = .ok (.iconst 3, 1) := by decide +kernel
theorem dX6_doOrder_54 : decode cX6_doOrder 54 = .ok (.imul, 1) := by decide +kernel
theorem dX6_doOrder_55 : decode cX6_doOrder 55 = .ok (.aload_n 0, 1) := by decide +kernel
theorem dX6_doOrder_56 : decode cX6_doOrder 56 = .ok (.getfield 30, 3) := by decide +kernel
theorem dX6_doOrder_59 : decode cX6_doOrder 59 = .ok (.iload_n 1, 1) := by decide +kernel
theorem dX6_doOrder_60 : decode cX6_doOrder 60 = .ok (.iconst 2, 1) := by decide +kernel
theorem dX6_doOrder_61 : decode cX6_doOrder 61 = .ok (.iadd, 1) := by decide +kernel
theorem dX6_doOrder_62 : decode cX6_doOrder 62 = .ok (.invokevirtual 362, 3) := by decide +kernel
theorem dX6_doOrder_65 : decode cX6_doOrder 65 = .ok (.iadd, 1) := by decide +kernel
theorem dX6_doOrder_66 : decode cX6_doOrder 66 = .ok (.istore_n 3, 1) := by decide +kernel
theorem dX6_doOrder_67 : decode cX6_doOrder 67 = .ok (.bipush 10, 2) := by decide +kernel
theorem dX6_doOrder_69 : decode cX6_doOrder 69 = .ok (.aload_n 0, 1) := by decide +kernel
theorem dX6_doOrder_70 : decode cX6_doOrder 70 = .ok (.getfield 30, 3) := by decide +kernel
theorem dX6_doOrder_73 : decode cX6_doOrder 73 = .ok (.iload_n 1, 1) := by decide +kernel
theorem dX6_doOrder_74 : decode cX6_doOrder 74 = .ok (.iconst 3, 1) := by decide +kernel
theorem dX6_doOrder_75 : decode cX6_doOrder 75 = .ok (.iadd, 1) := by decide +kernel
theorem dX6_doOrder_76 : decode cX6_doOrder 76 = .ok (.invokevirtual 362, 3) := by decide +kernel
theorem dX6_doOrder_79 : decode cX6_doOrder 79 = .ok (.imul, 1) := by decide +kernel
theorem dX6_doOrder_80 : decode cX6_doOrder 80 = .ok (.aload_n 0, 1) := by decide +kernel
theorem dX6_doOrder_81 : decode cX6_doOrder 81 = .ok (.getfield 30, 3) := by decide +kernel
theorem dX6_doOrder_84 : decode cX6_doOrder 84 = .ok (.iload_n 1, 1) := by decide +kernel
theorem dX6_doOrder_85 : decode cX6_doOrder 85 = .ok (.iconst 4, 1) := by decide +kernel
theorem dX6_doOrder_86 : decode cX6_doOrder 86 = .ok (.iadd, 1) := by decide +kernel
theorem dX6_doOrder_87 : decode cX6_doOrder 87 = .ok (.invokevirtual 362, 3) := by decide +kernel
theorem dX6_doOrder_90 : decode cX6_doOrder 90 = .ok (.iadd, 1) := by decide +kernel
theorem dX6_doOrder_91 : decode cX6_doOrder 91 = .ok (.istore 4, 2) := by decide +kernel
theorem dX6_doOrder_93 : decode cX6_doOrder 93 = .ok (.aload_n 0, 1) := by decide +kernel
theorem dX6_doOrder_94 : decode cX6_doOrder 94 = .ok (.getfield 10, 3) := by decide +kernel
theorem dX6_doOrder_97 : decode cX6_doOrder 97 = .ok (.iload_n 3, 1) := by decide +kernel
theorem dX6_doOrder_98 : decode cX6_doOrder 98 = .ok (.iload 4, 2) := by decide +kernel
theorem dX6_doOrder_100 : decode cX6_doOrder 100 = .ok (.invokevirtual 65, 3) := by decide +kernel
theorem dX6_doOrder_103 : decode cX6_doOrder 103 = .ok (.ifCond .ne 7, 3) := by decide +kernel
theorem dX6_doOrder_106 : decode cX6_doOrder 106 = .ok (.iconst 1, 1) := by decide +kernel
theorem dX6_doOrder_107 : decode cX6_doOrder 107 = .ok (.goto 4, 3) := by decide +kernel
theorem dX6_doOrder_110 : decode cX6_doOrder 110 = .ok (.iconst 0, 1) := by decide +kernel
theorem dX6_doOrder_111 : decode cX6_doOrder 111 = .ok (.ireturn, 1) := by decide +kernel
theorem dX6_doOrder_112 : decode cX6_doOrder 112 = .ok (.aload_n 0, 1) := by decide +kernel
theorem dX6_doOrder_113 : decode cX6_doOrder 113 = .ok (.getfield 10, 3) := by decide +kernel
theorem dX6_doOrder_116 : decode cX6_doOrder 116 = .ok (.iload_n 2, 1) := by decide +kernel
theorem dX6_doOrder_117 : decode cX6_doOrder 117 = .ok (.invokevirtual 98, 3) := by decide +kernel
theorem dX6_doOrder_120 : decode cX6_doOrder 120 = .ok (.ifCond .ne 5, 3) := by decide +kernel
theorem dX6_doOrder_123 : decode cX6_doOrder 123 = .ok (.iconst 0, 1) := by decide +kernel
theorem dX6_doOrder_124 : decode cX6_doOrder 124 = .ok (.ireturn, 1) := by decide +kernel
theorem dX6_doOrder_125 : decode cX6_doOrder 125 = .ok (.aload_n 0, 1) := by decide +kernel
theorem dX6_doOrder_126 : decode cX6_doOrder 126 = .ok (.getfield 10, 3) := by decide +kernel
theorem dX6_doOrder_129 : decode cX6_doOrder 129 = .ok (.iload_n 2, 1) := by decide +kernel
theorem dX6_doOrder_130 : decode cX6_doOrder 130 = .ok (.invokevirtual 101, 3) := by decide +kernel
theorem dX6_doOrder_133 : decode cX6_doOrder 133 = .ok (.pop, 1) := by decide +kernel
theorem dX6_doOrder_134 : decode cX6_doOrder 134 = .ok (.iconst 1, 1) := by decide +kernel
theorem dX6_doOrder_135 : decode cX6_doOrder 135 = .ok (.ireturn, 1) := by decide +kernel
theorem dX6_doOrder_136 : decode cX6_doOrder 136 = .ok (.iload_n 2, 1) := by decide +kernel
theorem dX6_doOrder_137 : decode cX6_doOrder 137 = .ok (.aload_n 0, 1) := by decide +kernel
theorem dX6_doOrder_138 : decode cX6_doOrder 138 = .ok (.getfield 10, 3) := by decide +kernel
theorem dX6_doOrder_141 : decode cX6_doOrder 141 = .ok (.getfield 78, 3) := by decide +kernel
theorem dX6_doOrder_144 : decode cX6_doOrder 144 = .ok (.getfield 121, 3) := by decide +kernel
theorem dX6_doOrder_147 : decode cX6_doOrder 147 = .ok (.getfield 124, 3) := by decide +kernel
theorem dX6_doOrder_150 : decode cX6_doOrder 150 = .ok (.if_icmp .le 5, 3) := by decide +kernel
theorem dX6_doOrder_153 : decode cX6_doOrder 153 = .ok (.iconst 0, 1) := by decide +kernel
theorem dX6_doOrder_154 : decode cX6_doOrder 154 = .ok (.ireturn, 1) := by decide +kernel
theorem dX6_doOrder_155 : decode cX6_doOrder 155 = .ok (.aload_n 0, 1) := by decide +kernel
theorem dX6_doOrder_156 : decode cX6_doOrder 156 = .ok (.getfield 10, 3) := by decide +kernel
theorem dX6_doOrder_159 : decode cX6_doOrder 159 = .ok (.iload_n 2, 1) := by decide +kernel
theorem dX6_doOrder_160 : decode cX6_doOrder 160 = .ok (.invokevirtual 127, 3) := by decide +kernel
theorem dX6_doOrder_163 : decode cX6_doOrder 163 = .ok (.pop, 1) := by decide +kernel
theorem dX6_doOrder_164 : decode cX6_doOrder 164 = .ok (.iconst 1, 1) := by decide +kernel
theorem dX6_doOrder_165 : decode cX6_doOrder 165 = .ok (.ireturn, 1) := by decide +kernel
theorem dX6_doOrder_166 : decode cX6_doOrder 166 = .ok (.aload_n 0, 1) := by decide +kernel
theorem dX6_doOrder_167 : decode cX6_doOrder 167 = .ok (.getfield 10, 3) := by decide +kernel
theorem dX6_doOrder_170 : decode cX6_doOrder 170 = .ok (.getfield 78, 3) := by decide +kernel
theorem dX6_doOrder_173 : decode cX6_doOrder 173 = .ok (.iload_n 2, 1) := by decide +kernel
theorem dX6_doOrder_174 : decode cX6_doOrder 174 = .ok (.invokevirtual 82, 3) := by decide +kernel
theorem dX6_doOrder_177 : decode cX6_doOrder 177 = .ok (.ifCond .eq 28, 3) := by decide +kernel
theorem dX6_doOrder_180 : decode cX6_doOrder 180 = .ok (.aload_n 0, 1) := by decide +kernel
theorem dX6_doOrder_181 : decode cX6_doOrder 181 = .ok (.getfield 10, 3) := by decide +kernel
theorem dX6_doOrder_184 : decode cX6_doOrder 184 = .ok (.iload_n 2, 1) := by decide +kernel
theorem dX6_doOrder_185 : decode cX6_doOrder 185 = .ok (.aload_n 0, 1) := by decide +kernel
theorem dX6_doOrder_186 : decode cX6_doOrder 186 = .ok (.getfield 30, 3) := by decide +kernel
theorem dX6_doOrder_189 : decode cX6_doOrder 189 = .ok (.iload_n 1, 1) := by decide +kernel
theorem dX6_doOrder_190 : decode cX6_doOrder 190 = .ok (.iconst 2, 1) := by decide +kernel
theorem dX6_doOrder_191 : decode cX6_doOrder 191 = .ok (.iadd, 1) := by decide +kernel
theorem dX6_doOrder_192 : decode cX6_doOrder 192 = .ok (.invokevirtual 362, 3) := by decide +kernel
theorem dX6_doOrder_195 : decode cX6_doOrder 195 = .ok (.invokevirtual 133, 3) := by decide +kernel
theorem dX6_doOrder_198 : decode cX6_doOrder 198 = .ok (.ifCond .ne 7, 3) := by decide +kernel
theorem dX6_doOrder_201 : decode cX6_doOrder 201 = .ok (.iconst 1, 1) := by decide +kernel
theorem dX6_doOrder_202 : decode cX6_doOrder 202 = .ok (.goto 4, 3) := by decide +kernel
theorem dX6_doOrder_205 : decode cX6_doOrder 205 = .ok (.iconst 0, 1) := by decide +kernel
theorem dX6_doOrder_206 : decode cX6_doOrder 206 = .ok (.ireturn, 1) := by decide +kernel
theorem dX6_fullBallByBall_0 : decode cX6_fullBallByBall 0 = .ok (.aload_n 0, 1) := by decide +kernel
theorem dX6_fullBallByBall_1 : decode cX6_fullBallByBall 1 = .ok (.getfield 10, 3) := by decide +kernel
theorem dX6_fullBallByBall_4 : decode cX6_fullBallByBall 4 = .ok (.getfield 78, 3) := by decide +kernel
theorem dX6_fullBallByBall_7 : decode cX6_fullBallByBall 7 = .ok (.astore_n 2, 1) := by decide +kernel
theorem dX6_fullBallByBall_8 : decode cX6_fullBallByBall 8 = .ok (.aload_n 0, 1) := by decide +kernel
theorem dX6_fullBallByBall_9 : decode cX6_fullBallByBall 9 = .ok (.getfield 37, 3) := by decide +kernel
theorem dX6_fullBallByBall_12 : decode cX6_fullBallByBall 12 = .ok (.aload_n 2, 1) := by decide +kernel
theorem dX6_fullBallByBall_13 : decode cX6_fullBallByBall 13 = .ok (.getfield 121, 3) := by decide +kernel
theorem dX6_fullBallByBall_16 : decode cX6_fullBallByBall 16 = .ok (.invokevirtual 270, 3) := by decide +kernel
theorem dX6_fullBallByBall_19 : decode cX6_fullBallByBall 19 = .ok (.aload_n 0, 1) := by decide +kernel
theorem dX6_fullBallByBall_20 : decode cX6_fullBallByBall 20 = .ok (.getfield 10, 3) := by decide +kernel
theorem dX6_fullBallByBall_23 : decode cX6_fullBallByBall 23 = .ok (.getfield 105, 3) := by decide +kernel
theorem dX6_fullBallByBall_26 : decode cX6_fullBallByBall 26 = .ok (.istore_n 3, 1) := by decide +kernel
theorem dX6_fullBallByBall_27 : decode cX6_fullBallByBall 27 = .ok (.iconst 0, 1) := by decide +kernel
theorem dX6_fullBallByBall_28 : decode cX6_fullBallByBall 28 = .ok (.istore 4, 2) := by decide +kernel
theorem dX6_fullBallByBall_30 : decode cX6_fullBallByBall 30 = .ok (.iconst 1, 1) := by decide +kernel
theorem dX6_fullBallByBall_31 : decode cX6_fullBallByBall 31 = .ok (.istore 5, 2) := by decide +kernel
theorem dX6_fullBallByBall_33 : decode cX6_fullBallByBall 33 = .ok (.iload 5, 2) := by decide +kernel
theorem dX6_fullBallByBall_35 : decode cX6_fullBallByBall 35 = .ok (.bipush 90, 2) := by decide +kernel
theorem dX6_fullBallByBall_37 : decode cX6_fullBallByBall 37 = .ok (.if_icmp .gt 76, 3) := by decide +kernel
theorem dX6_fullBallByBall_40 : decode cX6_fullBallByBall 40 = .ok (.iload 5, 2) := by decide +kernel
theorem dX6_fullBallByBall_42 : decode cX6_fullBallByBall 42 = .ok (.aload_n 2, 1) := by decide +kernel
theorem dX6_fullBallByBall_43 : decode cX6_fullBallByBall 43 = .ok (.getfield 213, 3) := by decide +kernel
theorem dX6_fullBallByBall_46 : decode cX6_fullBallByBall 46 = .ok (.if_icmp .gt 17, 3) := by decide +kernel
theorem dX6_fullBallByBall_49 : decode cX6_fullBallByBall 49 = .ok (.aload_n 2, 1) := by decide +kernel
theorem dX6_fullBallByBall_50 : decode cX6_fullBallByBall 50 = .ok (.getfield 216, 3) := by decide +kernel
theorem dX6_fullBallByBall_53 : decode cX6_fullBallByBall 53 = .ok (.iload 5, 2) := by decide +kernel
theorem dX6_fullBallByBall_55 : decode cX6_fullBallByBall 55 = .ok (.iconst 1, 1) := by decide +kernel
theorem dX6_fullBallByBall_56 : decode cX6_fullBallByBall 56 = .ok (.isub, 1) := by decide +kernel
theorem dX6_fullBallByBall_57 : decode cX6_fullBallByBall 57 = .ok (.iaload, 1) := by decide +kernel
theorem dX6_fullBallByBall_58 : decode cX6_fullBallByBall 58 = .ok (.istore 6, 2) := by decide +kernel
theorem dX6_fullBallByBall_60 : decode cX6_fullBallByBall 60 = .ok (.goto 18, 3) := by decide +kernel
theorem dX6_fullBallByBall_63 : decode cX6_fullBallByBall 63 = .ok (.iload_n 3, 1) := by decide +kernel
theorem dX6_fullBallByBall_64 : decode cX6_fullBallByBall 64 = .ok (.invokestatic 273, 3) := by decide +kernel
theorem dX6_fullBallByBall_67 : decode cX6_fullBallByBall 67 = .ok (.istore_n 3, 1) := by decide +kernel
theorem dX6_fullBallByBall_68 : decode cX6_fullBallByBall 68 = .ok (.aload_n 0, 1) := by decide +kernel
theorem dX6_fullBallByBall_69 : decode cX6_fullBallByBall 69 = .ok (.getfield 37, 3) := by decide +kernel
theorem dX6_fullBallByBall_72 : decode cX6_fullBallByBall 72 = .ok (.iload_n 3, 1) := by decide +kernel
theorem dX6_fullBallByBall_73 : decode cX6_fullBallByBall 73 = .ok (.invokevirtual 276, 3) := by decide +kernel
theorem dX6_fullBallByBall_76 : decode cX6_fullBallByBall 76 = .ok (.istore 6, 2) := by decide +kernel
theorem dX6_fullBallByBall_78 : decode cX6_fullBallByBall 78 = .ok (.aload_n 0, 1) := by decide +kernel
theorem dX6_fullBallByBall_79 : decode cX6_fullBallByBall 79 = .ok (.getfield 10, 3) := by decide +kernel
theorem dX6_fullBallByBall_82 : decode cX6_fullBallByBall 82 = .ok (.getfield 69, 3) := by decide +kernel
theorem dX6_fullBallByBall_85 : decode cX6_fullBallByBall 85 = .ok (.iload_n 1, 1) := by decide +kernel
theorem dX6_fullBallByBall_86 : decode cX6_fullBallByBall 86 = .ok (.iload 6, 2) := by decide +kernel
theorem dX6_fullBallByBall_88 : decode cX6_fullBallByBall 88 = .ok (.invokevirtual 365, 3) := by decide +kernel
theorem dX6_fullBallByBall_91 : decode cX6_fullBallByBall 91 = .ok (.ifCond .eq 6, 3) := by decide +kernel
theorem dX6_fullBallByBall_94 : decode cX6_fullBallByBall 94 = .ok (.iinc 4 1, 3) := by decide +kernel
theorem dX6_fullBallByBall_97 : decode cX6_fullBallByBall 97 = .ok (.iload 4, 2) := by decide +kernel
theorem dX6_fullBallByBall_99 : decode cX6_fullBallByBall 99 = .ok (.bipush 15, 2) := by decide +kernel
theorem dX6_fullBallByBall_101 : decode cX6_fullBallByBall 101 = .ok (.if_icmp .ne 6, 3) := by decide +kernel
theorem dX6_fullBallByBall_104 : decode cX6_fullBallByBall 104 = .ok (.iload 5, 2) := by decide +kernel
theorem dX6_fullBallByBall_106 : decode cX6_fullBallByBall 106 = .ok (.ireturn, 1) := by decide +kernel
theorem dX6_fullBallByBall_107 : decode cX6_fullBallByBall 107 = .ok (.iinc 5 1, 3) := by decide +kernel
theorem dX6_fullBallByBall_110 : decode cX6_fullBallByBall 110 = .ok (.goto (-77), 3) := by decide +kernel
theorem dX6_fullBallByBall_113 : decode cX6_fullBallByBall 113 = .ok (.iconst (-1), 1) := by decide +kernel
theorem dX6_fullBallByBall_114 : decode cX6_fullBallByBall 114 = .ok (.ireturn, 1) := by decide +kernel
theorem dX6_layOrder_0 : decode cX6_layOrder 0 = .ok (.aload_n 0, 1) := by decide +kernel
theorem dX6_layOrder_1 : decode cX6_layOrder 1 = .ok (.getfield 10, 3) := by decide +kernel
theorem dX6_layOrder_4 : decode cX6_layOrder 4 = .ok (.getfield 78, 3) := by decide +kernel
theorem dX6_layOrder_7 : decode cX6_layOrder 7 = .ok (.astore_n 1, 1) := by decide +kernel
theorem dX6_layOrder_8 : decode cX6_layOrder 8 = .ok (.aload_n 1, 1) := by decide +kernel
theorem dX6_layOrder_9 : decode cX6_layOrder 9 = .ok (.getfield 216, 3) := by decide +kernel
theorem dX6_layOrder_12 : decode cX6_layOrder 12 = .ok (.iconst 0, 1) := by decide +kernel
theorem dX6_layOrder_13 : decode cX6_layOrder 13 = .ok (.aload_n 0, 1) := by decide +kernel
theorem dX6_layOrder_14 : decode cX6_layOrder 14 = .ok (.getfield 41, 3) := by decide +kernel
theorem dX6_layOrder_17 : decode cX6_layOrder 17 = .ok (.iconst 0, 1) := by decide +kernel
theorem dX6_layOrder_18 : decode cX6_layOrder 18 = .ok (.aload_n 1, 1) := by decide +kernel
theorem dX6_layOrder_19 : decode cX6_layOrder 19 = .ok (.getfield 213, 3) := by decide +kernel
theorem dX6_layOrder_22 : decode cX6_layOrder 22 = .ok (.invokestatic 369, 3) := by decide +kernel
theorem dX6_layOrder_25 : decode cX6_layOrder 25 = .ok (.aload_n 0, 1) := by decide +kernel
theorem dX6_layOrder_26 : decode cX6_layOrder 26 = .ok (.getfield 37, 3) := by decide +kernel
theorem dX6_layOrder_29 : decode cX6_layOrder 29 = .ok (.aload_n 1, 1) := by decide +kernel
theorem dX6_layOrder_30 : decode cX6_layOrder 30 = .ok (.getfield 121, 3) := by decide +kernel
theorem dX6_layOrder_33 : decode cX6_layOrder 33 = .ok (.invokevirtual 270, 3) := by decide +kernel
theorem dX6_layOrder_36 : decode cX6_layOrder 36 = .ok (.aload_n 0, 1) := by decide +kernel
theorem dX6_layOrder_37 : decode cX6_layOrder 37 = .ok (.getfield 10, 3) := by decide +kernel
theorem dX6_layOrder_40 : decode cX6_layOrder 40 = .ok (.getfield 105, 3) := by decide +kernel
theorem dX6_layOrder_43 : decode cX6_layOrder 43 = .ok (.istore_n 2, 1) := by decide +kernel
theorem dX6_layOrder_44 : decode cX6_layOrder 44 = .ok (.aload_n 1, 1) := by decide +kernel
theorem dX6_layOrder_45 : decode cX6_layOrder 45 = .ok (.getfield 213, 3) := by decide +kernel
theorem dX6_layOrder_48 : decode cX6_layOrder 48 = .ok (.istore_n 3, 1) := by decide +kernel
theorem dX6_layOrder_49 : decode cX6_layOrder 49 = .ok (.iload_n 3, 1) := by decide +kernel
theorem dX6_layOrder_50 : decode cX6_layOrder 50 = .ok (.bipush 90, 2) := by decide +kernel
theorem dX6_layOrder_52 : decode cX6_layOrder 52 = .ok (.if_icmp .ge 28, 3) := by decide +kernel
theorem dX6_layOrder_55 : decode cX6_layOrder 55 = .ok (.iload_n 2, 1) := by decide +kernel
theorem dX6_layOrder_56 : decode cX6_layOrder 56 = .ok (.invokestatic 273, 3) := by decide +kernel
theorem dX6_layOrder_59 : decode cX6_layOrder 59 = .ok (.istore_n 2, 1) := by decide +kernel
theorem dX6_layOrder_60 : decode cX6_layOrder 60 = .ok (.aload_n 0, 1) := by decide +kernel
theorem dX6_layOrder_61 : decode cX6_layOrder 61 = .ok (.getfield 41, 3) := by decide +kernel
theorem dX6_layOrder_64 : decode cX6_layOrder 64 = .ok (.iload_n 3, 1) := by decide +kernel
theorem dX6_layOrder_65 : decode cX6_layOrder 65 = .ok (.aload_n 0, 1) := by decide +kernel
theorem dX6_layOrder_66 : decode cX6_layOrder 66 = .ok (.getfield 37, 3) := by decide +kernel
theorem dX6_layOrder_69 : decode cX6_layOrder 69 = .ok (.iload_n 2, 1) := by decide +kernel
theorem dX6_layOrder_70 : decode cX6_layOrder 70 = .ok (.invokevirtual 276, 3) := by decide +kernel
theorem dX6_layOrder_73 : decode cX6_layOrder 73 = .ok (.iastore, 1) := by decide +kernel
theorem dX6_layOrder_74 : decode cX6_layOrder 74 = .ok (.iinc 3 1, 3) := by decide +kernel
theorem dX6_layOrder_77 : decode cX6_layOrder 77 = .ok (.goto (-28), 3) := by decide +kernel
theorem dX6_layOrder_80 : decode cX6_layOrder 80 = .ok (.return_, 1) := by decide +kernel
theorem dX6_lastCallInOrder_0 : decode cX6_lastCallInOrder 0 = .ok (.iconst (-1), 1) := by decide +kernel
theorem dX6_lastCallInOrder_1 : decode cX6_lastCallInOrder 1 = .ok (.istore_n 2, 1) := by decide +kernel
theorem dX6_lastCallInOrder_2 : decode cX6_lastCallInOrder 2 = .ok (.iconst 0, 1) := by decide +kernel
theorem dX6_lastCallInOrder_3 : decode cX6_lastCallInOrder 3 = .ok (.istore_n 3, 1) := by decide +kernel
theorem dX6_lastCallInOrder_4 : decode cX6_lastCallInOrder 4 = .ok (.iload_n 3, 1) := by decide +kernel
theorem dX6_lastCallInOrder_5 : decode cX6_lastCallInOrder 5 = .ok (.bipush 90, 2) := by decide +kernel
theorem dX6_lastCallInOrder_7 : decode cX6_lastCallInOrder 7 = .ok (.if_icmp .ge 33, 3) := by decide +kernel
theorem dX6_lastCallInOrder_10 : decode cX6_lastCallInOrder 10 = .ok (.aload_n 0, 1) := by decide +kernel
theorem dX6_lastCallInOrder_11 : decode cX6_lastCallInOrder 11 = .ok (.getfield 10, 3) := by decide +kernel
theorem dX6_lastCallInOrder_14 : decode cX6_lastCallInOrder 14 = .ok (.getfield 69, 3) := by decide +kernel
theorem dX6_lastCallInOrder_17 : decode cX6_lastCallInOrder 17 = .ok (.iload_n 1, 1) := by decide +kernel
theorem dX6_lastCallInOrder_18 : decode cX6_lastCallInOrder 18 = .ok (.aload_n 0, 1) := by decide +kernel
theorem dX6_lastCallInOrder_19 : decode cX6_lastCallInOrder 19 = .ok (.getfield 41, 3) := by decide +kernel
theorem dX6_lastCallInOrder_22 : decode cX6_lastCallInOrder 22 = .ok (.iload_n 3, 1) := by decide +kernel
theorem dX6_lastCallInOrder_23 : decode cX6_lastCallInOrder 23 = .ok (.iaload, 1) := by decide +kernel
theorem dX6_lastCallInOrder_24 : decode cX6_lastCallInOrder 24 = .ok (.invokevirtual 365, 3) := by decide +kernel
theorem dX6_lastCallInOrder_27 : decode cX6_lastCallInOrder 27 = .ok (.ifCond .eq 7, 3) := by decide +kernel
theorem dX6_lastCallInOrder_30 : decode cX6_lastCallInOrder 30 = .ok (.iload_n 3, 1) := by decide +kernel
theorem dX6_lastCallInOrder_31 : decode cX6_lastCallInOrder 31 = .ok (.iconst 1, 1) := by decide +kernel
theorem dX6_lastCallInOrder_32 : decode cX6_lastCallInOrder 32 = .ok (.iadd, 1) := by decide +kernel
theorem dX6_lastCallInOrder_33 : decode cX6_lastCallInOrder 33 = .ok (.istore_n 2, 1) := by decide +kernel
theorem dX6_lastCallInOrder_34 : decode cX6_lastCallInOrder 34 = .ok (.iinc 3 1, 3) := by decide +kernel
theorem dX6_lastCallInOrder_37 : decode cX6_lastCallInOrder 37 = .ok (.goto (-33), 3) := by decide +kernel
theorem dX6_lastCallInOrder_40 : decode cX6_lastCallInOrder 40 = .ok (.iload_n 2, 1) := by decide +kernel
theorem dX6_lastCallInOrder_41 : decode cX6_lastCallInOrder 41 = .ok (.ireturn, 1) := by decide +kernel
theorem dX7_init_0 : decode cX7_init 0 = .ok (.aload_n 0, 1) := by decide +kernel
theorem dX7_init_1 : decode cX7_init 1 = .ok (.invokespecial 1, 3) := by decide +kernel
theorem dX7_init_4 : decode cX7_init 4 = .ok (.aload_n 0, 1) := by decide +kernel
theorem dX7_init_5 : decode cX7_init 5 = .ok (.sipush 4940, 3) := by decide +kernel
theorem dX7_init_8 : decode cX7_init 8 = .ok (.newarray .int, 2) := by decide +kernel
theorem dX7_init_10 : decode cX7_init 10 = .ok (.putfield 7, 3) := by decide +kernel
theorem dX7_init_13 : decode cX7_init 13 = .ok (.aload_n 0, 1) := by decide +kernel
theorem dX7_init_14 : decode cX7_init 14 = .ok (.iconst 2, 1) := by decide +kernel
theorem dX7_init_15 : decode cX7_init 15 = .ok (.newarray .boolean, 2) := by decide +kernel
theorem dX7_init_17 : decode cX7_init 17 = .ok (.putfield 13, 3) := by decide +kernel
theorem dX7_init_20 : decode cX7_init 20 = .ok (.aload_n 0, 1) := by decide +kernel
theorem dX7_init_21 : decode cX7_init 21 = .ok (.bipush 60, 2) := by decide +kernel
theorem dX7_init_23 : decode cX7_init 23 = .ok (.newarray .char, 2) := by decide +kernel
theorem dX7_init_25 : decode cX7_init 25 = .ok (.putfield 17, 3) := by decide +kernel
theorem dX7_init_28 : decode cX7_init 28 = .ok (.aload_n 0, 1) := by decide +kernel
theorem dX7_init_29 : decode cX7_init 29 = .ok (.getfield 7, 3) := by decide +kernel
theorem dX7_init_32 : decode cX7_init 32 = .ok (.iconst 0, 1) := by decide +kernel
theorem dX7_init_33 : decode cX7_init 33 = .ok (.bipush 10, 2) := by decide +kernel
theorem dX7_init_35 : decode cX7_init 35 = .ok (.iastore, 1) := by decide +kernel
theorem dX7_init_36 : decode cX7_init 36 = .ok (.aload_n 0, 1) := by decide +kernel
theorem dX7_init_37 : decode cX7_init 37 = .ok (.getfield 7, 3) := by decide +kernel
theorem dX7_init_40 : decode cX7_init 40 = .ok (.iconst 3, 1) := by decide +kernel
theorem dX7_init_41 : decode cX7_init 41 = .ok (.iconst 1, 1) := by decide +kernel
theorem dX7_init_42 : decode cX7_init 42 = .ok (.iastore, 1) := by decide +kernel
theorem dX7_init_43 : decode cX7_init 43 = .ok (.return_, 1) := by decide +kernel
theorem dX7_thrown_0 : decode cX7_thrown 0 = .ok (.aload_n 0, 1) := by decide +kernel
theorem dX7_thrown_1 : decode cX7_thrown 1 = .ok (.getfield 21, 3) := by decide +kernel
theorem dX7_thrown_4 : decode cX7_thrown 4 = .ok (.ireturn, 1) := by decide +kernel
theorem dX7_in_0 : decode cX7_in 0 = .ok (.iload_n 0, 1) := by decide +kernel
theorem dX7_in_1 : decode cX7_in 1 = .ok (.iload_n 1, 1) := by decide +kernel
theorem dX7_in_2 : decode cX7_in 2 = .ok (.if_icmp .lt 12, 3) := by decide +kernel
theorem dX7_in_5 : decode cX7_in 5 = .ok (.iload_n 0, 1) := by decide +kernel
theorem dX7_in_6 : decode cX7_in 6 = .ok (.iload_n 2, 1) := by decide +kernel
theorem dX7_in_7 : decode cX7_in 7 = .ok (.if_icmp .gt 7, 3) := by decide +kernel
theorem dX7_in_10 : decode cX7_in 10 = .ok (.iconst 1, 1) := by decide +kernel
theorem dX7_in_11 : decode cX7_in 11 = .ok (.goto 4, 3) := by decide +kernel
theorem dX7_in_14 : decode cX7_in 14 = .ok (.iconst 0, 1) := by decide +kernel
theorem dX7_in_15 : decode cX7_in 15 = .ok (.ireturn, 1) := by decide +kernel
theorem dX7_goes_0 : decode cX7_goes 0 = .ok (.aload_n 0, 1) := by decide +kernel
theorem dX7_goes_1 : decode cX7_goes 1 = .ok (.iload_n 1, 1) := by decide +kernel
theorem dX7_goes_2 : decode cX7_goes 2 = .ok (.ifCond .ne 7, 3) := by decide +kernel
theorem dX7_goes_5 : decode cX7_goes 5 = .ok (.iconst 1, 1) := by decide +kernel
theorem dX7_goes_6 : decode cX7_goes 6 = .ok (.goto 20, 3) := by decide +kernel
theorem dX7_goes_9 : decode cX7_goes 9 = .ok (.iload_n 2, 1) := by decide +kernel
theorem dX7_goes_10 : decode cX7_goes 10 = .ok (.ifCond .ne 7, 3) := by decide +kernel
theorem dX7_goes_13 : decode cX7_goes 13 = .ok (.iconst 2, 1) := by decide +kernel
theorem dX7_goes_14 : decode cX7_goes 14 = .ok (.goto 12, 3) := by decide +kernel
theorem dX7_goes_17 : decode cX7_goes 17 = .ok (.iload_n 3, 1) := by decide +kernel
theorem dX7_goes_18 : decode cX7_goes 18 = .ok (.ifCond .ne 7, 3) := by decide +kernel
theorem dX7_goes_21 : decode cX7_goes 21 = .ok (.iconst 3, 1) := by decide +kernel
theorem dX7_goes_22 : decode cX7_goes 22 = .ok (.goto 4, 3) := by decide +kernel
theorem dX7_goes_25 : decode cX7_goes 25 = .ok (.iconst 0, 1) := by decide +kernel
theorem dX7_goes_26 : decode cX7_goes 26 = .ok (.putfield 21, 3) := by decide +kernel
theorem dX7_goes_29 : decode cX7_goes 29 = .ok (.aload_n 0, 1) := by decide +kernel
theorem dX7_goes_30 : decode cX7_goes 30 = .ok (.getfield 21, 3) := by decide +kernel
theorem dX7_goes_33 : decode cX7_goes 33 = .ok (.ifCond .ne 7, 3) := by decide +kernel
theorem dX7_goes_36 : decode cX7_goes 36 = .ok (.iconst 1, 1) := by decide +kernel
theorem dX7_goes_37 : decode cX7_goes 37 = .ok (.goto 4, 3) := by decide +kernel
theorem dX7_goes_40 : decode cX7_goes 40 = .ok (.iconst 0, 1) := by decide +kernel
theorem dX7_goes_41 : decode cX7_goes 41 = .ok (.ireturn, 1) := by decide +kernel
theorem dX7_copies_0 : decode cX7_copies 0 = .ok (.iconst 0, 1) := by decide +kernel
theorem dX7_copies_1 : decode cX7_copies 1 = .ok (.istore_n 3, 1) := by decide +kernel
theorem dX7_copies_2 : decode cX7_copies 2 = .ok (.iload_n 3, 1) := by decide +kernel
theorem dX7_copies_3 : decode cX7_copies 3 = .ok (.sipush 494, 3) := by decide +kernel
theorem dX7_copies_6 : decode cX7_copies 6 = .ok (.if_icmp .ge 33, 3) := by decide +kernel
theorem dX7_copies_9 : decode cX7_copies 9 = .ok (.aload_n 0, 1) := by decide +kernel
theorem dX7_copies_10 : decode cX7_copies 10 = .ok (.getfield 7, 3) := by decide +kernel
theorem dX7_copies_13 : decode cX7_copies 13 = .ok (.sipush 494, 3) := by decide +kernel
theorem dX7_copies_16 : decode cX7_copies 16 = .ok (.iload_n 2, 1) := by decide +kernel
theorem dX7_copies_17 : decode cX7_copies 17 = .ok (.imul, 1) := by decide +kernel
theorem dX7_copies_18 : decode cX7_copies 18 = .ok (.iload_n 3, 1) := by decide +kernel
theorem dX7_copies_19 : decode cX7_copies 19 = .ok (.iadd, 1) := by decide +kernel
theorem dX7_copies_20 : decode cX7_copies 20 = .ok (.aload_n 0, 1) := by decide +kernel
theorem dX7_copies_21 : decode cX7_copies 21 = .ok (.getfield 7, 3) := by decide +kernel
theorem dX7_copies_24 : decode cX7_copies 24 = .ok (.sipush 494, 3) := by decide +kernel
theorem dX7_copies_27 : decode cX7_copies 27 = .ok (.iload_n 1, 1) := by decide +kernel
theorem dX7_copies_28 : decode cX7_copies 28 = .ok (.imul, 1) := by decide +kernel
theorem dX7_copies_29 : decode cX7_copies 29 = .ok (.iload_n 3, 1) := by decide +kernel
theorem dX7_copies_30 : decode cX7_copies 30 = .ok (.iadd, 1) := by decide +kernel
theorem dX7_copies_31 : decode cX7_copies 31 = .ok (.iaload, 1) := by decide +kernel
theorem dX7_copies_32 : decode cX7_copies 32 = .ok (.iastore, 1) := by decide +kernel
theorem dX7_copies_33 : decode cX7_copies 33 = .ok (.iinc 3 1, 3) := by decide +kernel
theorem dX7_copies_36 : decode cX7_copies 36 = .ok (.goto (-34), 3) := by decide +kernel
theorem dX7_copies_39 : decode cX7_copies 39 = .ok (.return_, 1) := by decide +kernel
theorem dX7_saves_0 : decode cX7_saves 0 = .ok (.aload_n 0, 1) := by decide +kernel
theorem dX7_saves_1 : decode cX7_saves 1 = .ok (.getfield 25, 3) := by decide +kernel
theorem dX7_saves_4 : decode cX7_saves 4 = .ok (.bipush 6, 2) := by decide +kernel
theorem dX7_saves_6 : decode cX7_saves 6 = .ok (.if_icmp .ne 35, 3) := by decide +kernel
theorem dX7_saves_9 : decode cX7_saves 9 = .ok (.iconst 1, 1) := by decide +kernel
theorem dX7_saves_10 : decode cX7_saves 10 = .ok (.istore_n 1, 1) := by decide +kernel
theorem dX7_saves_11 : decode cX7_saves 11 = .ok (.iload_n 1, 1) := by decide +kernel
theorem dX7_saves_12 : decode cX7_saves 12 = .ok (.bipush 6, 2) := by decide +kernel
theorem dX7_saves_14 : decode cX7_saves 14 = .ok (.if_icmp .ge 17, 3) := by decide +kernel
theorem dX7_saves_17 : decode cX7_saves 17 = .ok (.aload_n 0, 1) := by decide +kernel
theorem dX7_saves_18 : decode cX7_saves 18 = .ok (.iload_n 1, 1) := by decide +kernel
theorem dX7_saves_19 : decode cX7_saves 19 = .ok (.iconst 1, 1) := by decide +kernel
theorem dX7_saves_20 : decode cX7_saves 20 = .ok (.iadd, 1) := by decide +kernel
theorem dX7_saves_21 : decode cX7_saves 21 = .ok (.iload_n 1, 1) := by decide +kernel
theorem dX7_saves_22 : decode cX7_saves 22 = .ok (.invokevirtual 28, 3) := by decide +kernel
theorem dX7_saves_25 : decode cX7_saves 25 = .ok (.iinc 1 1, 3) := by decide +kernel
theorem dX7_saves_28 : decode cX7_saves 28 = .ok (.goto (-17), 3) := by decide +kernel
theorem dX7_saves_31 : decode cX7_saves 31 = .ok (.aload_n 0, 1) := by decide +kernel
theorem dX7_saves_32 : decode cX7_saves 32 = .ok (.dup, 1) := by decide +kernel
theorem dX7_saves_33 : decode cX7_saves 33 = .ok (.getfield 25, 3) := by decide +kernel
theorem dX7_saves_36 : decode cX7_saves 36 = .ok (.iconst 1, 1) := by decide +kernel
theorem dX7_saves_37 : decode cX7_saves 37 = .ok (.isub, 1) := by decide +kernel
theorem dX7_saves_38 : decode cX7_saves 38 = .ok (.putfield 25, 3) := by decide +kernel
theorem dX7_saves_41 : decode cX7_saves 41 = .ok (.aload_n 0, 1) := by decide +kernel
theorem dX7_saves_42 : decode cX7_saves 42 = .ok (.dup, 1) := by decide +kernel
theorem dX7_saves_43 : decode cX7_saves 43 = .ok (.getfield 25, 3) := by decide +kernel
theorem dX7_saves_46 : decode cX7_saves 46 = .ok (.iconst 1, 1) := by decide +kernel
theorem dX7_saves_47 : decode cX7_saves 47 = .ok (.iadd, 1) := by decide +kernel
theorem dX7_saves_48 : decode cX7_saves 48 = .ok (.putfield 25, 3) := by decide +kernel
theorem dX7_saves_51 : decode cX7_saves 51 = .ok (.aload_n 0, 1) := by decide +kernel
theorem dX7_saves_52 : decode cX7_saves 52 = .ok (.iconst 0, 1) := by decide +kernel
theorem dX7_saves_53 : decode cX7_saves 53 = .ok (.aload_n 0, 1) := by decide +kernel
theorem dX7_saves_54 : decode cX7_saves 54 = .ok (.getfield 25, 3) := by decide +kernel
theorem dX7_saves_57 : decode cX7_saves 57 = .ok (.invokevirtual 28, 3) := by decide +kernel
theorem dX7_saves_60 : decode cX7_saves 60 = .ok (.return_, 1) := by decide +kernel
theorem dX7_isCard_0 : decode cX7_isCard 0 = .ok (.iload_n 0, 1) := by decide +kernel
theorem dX7_isCard_1 : decode cX7_isCard 1 = .ok (.iconst 0, 1) := by decide +kernel
theorem dX7_isCard_2 : decode cX7_isCard 2 = .ok (.iconst 5, 1) := by decide +kernel
theorem dX7_isCard_3 : decode cX7_isCard 3 = .ok (.invokestatic 32, 3) := by decide +kernel
theorem dX7_isCard_6 : decode cX7_isCard 6 = .ok (.ireturn, 1) := by decide +kernel
theorem dX7_isRow_0 : decode cX7_isRow 0 = .ok (.iload_n 0, 1) := by decide +kernel
theorem dX7_isRow_1 : decode cX7_isRow 1 = .ok (.iconst 0, 1) := by decide +kernel
theorem dX7_isRow_2 : decode cX7_isRow 2 = .ok (.iconst 2, 1) := by decide +kernel
theorem dX7_isRow_3 : decode cX7_isRow 3 = .ok (.invokestatic 32, 3) := by decide +kernel
theorem dX7_isRow_6 : decode cX7_isRow 6 = .ok (.ireturn, 1) := by decide +kernel
theorem dX7_isNumber_0 : decode cX7_isNumber 0 = .ok (.iload_n 0, 1) := by decide +kernel
theorem dX7_isNumber_1 : decode cX7_isNumber 1 = .ok (.iconst 1, 1) := by decide +kernel
theorem dX7_isNumber_2 : decode cX7_isNumber 2 = .ok (.bipush 90, 2) := by decide +kernel
theorem dX7_isNumber_4 : decode cX7_isNumber 4 = .ok (.invokestatic 32, 3) := by decide +kernel
theorem dX7_isNumber_7 : decode cX7_isNumber 7 = .ok (.ireturn, 1) := by decide +kernel
theorem dX7_column_0 : decode cX7_column 0 = .ok (.iload_n 0, 1) := by decide +kernel
theorem dX7_column_1 : decode cX7_column 1 = .ok (.bipush 90, 2) := by decide +kernel
theorem dX7_column_3 : decode cX7_column 3 = .ok (.if_icmp .ne 8, 3) := by decide +kernel
theorem dX7_column_6 : decode cX7_column 6 = .ok (.bipush 8, 2) := by decide +kernel
theorem dX7_column_8 : decode cX7_column 8 = .ok (.goto 7, 3) := by decide +kernel
theorem dX7_column_11 : decode cX7_column 11 = .ok (.iload_n 0, 1) := by decide +kernel
theorem dX7_column_12 : decode cX7_column 12 = .ok (.bipush 10, 2) := by decide +kernel
theorem dX7_column_14 : decode cX7_column 14 = .ok (.idiv, 1) := by decide +kernel
theorem dX7_column_15 : decode cX7_column 15 = .ok (.ireturn, 1) := by decide +kernel
theorem dX7_numberAt_0 : decode cX7_numberAt 0 = .ok (.iconst 0, 1) := by decide +kernel
theorem dX7_numberAt_1 : decode cX7_numberAt 1 = .ok (.istore 4, 2) := by decide +kernel
theorem dX7_numberAt_3 : decode cX7_numberAt 3 = .ok (.iconst 1, 1) := by decide +kernel
theorem dX7_numberAt_4 : decode cX7_numberAt 4 = .ok (.istore 5, 2) := by decide +kernel
theorem dX7_numberAt_6 : decode cX7_numberAt 6 = .ok (.iload 5, 2) := by decide +kernel
theorem dX7_numberAt_8 : decode cX7_numberAt 8 = .ok (.bipush 90, 2) := by decide +kernel
theorem dX7_numberAt_10 : decode cX7_numberAt 10 = .ok (.if_icmp .gt 46, 3) := by decide +kernel
theorem dX7_numberAt_13 : decode cX7_numberAt 13 = .ok (.aload_n 0, 1) := by decide +kernel
theorem dX7_numberAt_14 : decode cX7_numberAt 14 = .ok (.getfield 7, 3) := by decide +kernel
theorem dX7_numberAt_17 : decode cX7_numberAt 17 = .ok (.iconst 4, 1) := by decide +kernel
theorem dX7_numberAt_18 : decode cX7_numberAt 18 = .ok (.iload 5, 2) := by decide +kernel
theorem dX7_numberAt_20 : decode cX7_numberAt 20 = .ok (.iadd, 1) := by decide +kernel
theorem dX7_numberAt_21 : decode cX7_numberAt 21 = .ok (.iaload, 1) := by decide +kernel
theorem dX7_numberAt_22 : decode cX7_numberAt 22 = .ok (.iconst 1, 1) := by decide +kernel
theorem dX7_numberAt_23 : decode cX7_numberAt 23 = .ok (.iconst 3, 1) := by decide +kernel
theorem dX7_numberAt_24 : decode cX7_numberAt 24 = .ok (.iload_n 1, 1) := by decide +kernel
theorem dX7_numberAt_25 : decode cX7_numberAt 25 = .ok (.imul, 1) := by decide +kernel
theorem dX7_numberAt_26 : decode cX7_numberAt 26 = .ok (.iadd, 1) := by decide +kernel
theorem dX7_numberAt_27 : decode cX7_numberAt 27 = .ok (.iload_n 2, 1) := by decide +kernel
theorem dX7_numberAt_28 : decode cX7_numberAt 28 = .ok (.iadd, 1) := by decide +kernel
theorem dX7_numberAt_29 : decode cX7_numberAt 29 = .ok (.if_icmp .ne 17, 3) := by decide +kernel
theorem dX7_numberAt_32 : decode cX7_numberAt 32 = .ok (.iload 5, 2) := by decide +kernel
theorem dX7_numberAt_34 : decode cX7_numberAt 34 = .ok (.invokestatic 36, 3) := by decide +kernel
theorem dX7_numberAt_37 : decode cX7_numberAt 37 = .ok (.iload_n 3, 1) := by decide +kernel
theorem dX7_numberAt_38 : decode cX7_numberAt 38 = .ok (.if_icmp .ne 8, 3) := by decide +kernel
theorem dX7_numberAt_41 : decode cX7_numberAt 41 = .ok (.iload 5, 2) := by decide +kernel
theorem dX7_numberAt_43 : decode cX7_numberAt 43 = .ok (.goto 5, 3) := by decide +kernel
theorem dX7_numberAt_46 : decode cX7_numberAt 46 = .ok (.iload 4, 2) := by decide +kernel
theorem dX7_numberAt_48 : decode cX7_numberAt 48 = .ok (.istore 4, 2) := by decide +kernel
theorem dX7_numberAt_50 : decode cX7_numberAt 50 = .ok (.iinc 5 1, 3) := by decide +kernel
theorem dX7_numberAt_53 : decode cX7_numberAt 53 = .ok (.goto (-47), 3) := by decide +kernel
theorem dX7_numberAt_56 : decode cX7_numberAt 56 = .ok (.iload 4, 2) := by decide +kernel
theorem dX7_numberAt_58 : decode cX7_numberAt 58 = .ok (.ireturn, 1) := by decide +kernel
theorem dX7_ofRow_0 : decode cX7_ofRow 0 = .ok (.iconst 0, 1) := by decide +kernel
theorem dX7_ofRow_1 : decode cX7_ofRow 1 = .ok (.istore 4, 2) := by decide +kernel
theorem dX7_ofRow_3 : decode cX7_ofRow 3 = .ok (.iconst 1, 1) := by decide +kernel
theorem dX7_ofRow_4 : decode cX7_ofRow 4 = .ok (.istore 5, 2) := by decide +kernel
theorem dX7_ofRow_6 : decode cX7_ofRow 6 = .ok (.iload 5, 2) := by decide +kernel
theorem dX7_ofRow_8 : decode cX7_ofRow 8 = .ok (.bipush 90, 2) := by decide +kernel
theorem dX7_ofRow_10 : decode cX7_ofRow 10 = .ok (.if_icmp .gt 89, 3) := by decide +kernel
theorem dX7_ofRow_13 : decode cX7_ofRow 13 = .ok (.iload_n 3, 1) := by decide +kernel
theorem dX7_ofRow_14 : decode cX7_ofRow 14 = .ok (.ifCond .eq 38, 3) := by decide +kernel
theorem dX7_ofRow_17 : decode cX7_ofRow 17 = .ok (.iload_n 3, 1) := by decide +kernel
theorem dX7_ofRow_18 : decode cX7_ofRow 18 = .ok (.iconst 1, 1) := by decide +kernel
theorem dX7_ofRow_19 : decode cX7_ofRow 19 = .ok (.if_icmp .ne 19, 3) := by decide +kernel
theorem dX7_ofRow_22 : decode cX7_ofRow 22 = .ok (.aload_n 0, 1) := by decide +kernel
theorem dX7_ofRow_23 : decode cX7_ofRow 23 = .ok (.getfield 7, 3) := by decide +kernel
theorem dX7_ofRow_26 : decode cX7_ofRow 26 = .ok (.bipush 95, 2) := by decide +kernel
theorem dX7_ofRow_28 : decode cX7_ofRow 28 = .ok (.iload 5, 2) := by decide +kernel
theorem dX7_ofRow_30 : decode cX7_ofRow 30 = .ok (.iadd, 1) := by decide +kernel
theorem dX7_ofRow_31 : decode cX7_ofRow 31 = .ok (.iaload, 1) := by decide +kernel
theorem dX7_ofRow_32 : decode cX7_ofRow 32 = .ok (.ifCond .le 24, 3) := by decide +kernel
theorem dX7_ofRow_35 : decode cX7_ofRow 35 = .ok (.goto 17, 3) := by decide +kernel
theorem dX7_ofRow_38 : decode cX7_ofRow 38 = .ok (.aload_n 0, 1) := by decide +kernel
theorem dX7_ofRow_39 : decode cX7_ofRow 39 = .ok (.getfield 7, 3) := by decide +kernel
theorem dX7_ofRow_42 : decode cX7_ofRow 42 = .ok (.sipush 186, 3) := by decide +kernel
theorem dX7_ofRow_45 : decode cX7_ofRow 45 = .ok (.iload 5, 2) := by decide +kernel
theorem dX7_ofRow_47 : decode cX7_ofRow 47 = .ok (.iadd, 1) := by decide +kernel
theorem dX7_ofRow_48 : decode cX7_ofRow 48 = .ok (.iaload, 1) := by decide +kernel
theorem dX7_ofRow_49 : decode cX7_ofRow 49 = .ok (.ifCond .le 7, 3) := by decide +kernel
theorem dX7_ofRow_52 : decode cX7_ofRow 52 = .ok (.iconst 1, 1) := by decide +kernel
theorem dX7_ofRow_53 : decode cX7_ofRow 53 = .ok (.goto 4, 3) := by decide +kernel
theorem dX7_ofRow_56 : decode cX7_ofRow 56 = .ok (.iconst 0, 1) := by decide +kernel
theorem dX7_ofRow_57 : decode cX7_ofRow 57 = .ok (.istore 6, 2) := by decide +kernel
theorem dX7_ofRow_59 : decode cX7_ofRow 59 = .ok (.iload 4, 2) := by decide +kernel
theorem dX7_ofRow_61 : decode cX7_ofRow 61 = .ok (.aload_n 0, 1) := by decide +kernel
theorem dX7_ofRow_62 : decode cX7_ofRow 62 = .ok (.getfield 7, 3) := by decide +kernel
theorem dX7_ofRow_65 : decode cX7_ofRow 65 = .ok (.iconst 4, 1) := by decide +kernel
theorem dX7_ofRow_66 : decode cX7_ofRow 66 = .ok (.iload 5, 2) := by decide +kernel
theorem dX7_ofRow_68 : decode cX7_ofRow 68 = .ok (.iadd, 1) := by decide +kernel
theorem dX7_ofRow_69 : decode cX7_ofRow 69 = .ok (.iaload, 1) := by decide +kernel
theorem dX7_ofRow_70 : decode cX7_ofRow 70 = .ok (.iconst 1, 1) := by decide +kernel
theorem dX7_ofRow_71 : decode cX7_ofRow 71 = .ok (.iconst 3, 1) := by decide +kernel
theorem dX7_ofRow_72 : decode cX7_ofRow 72 = .ok (.iload_n 1, 1) := by decide +kernel
theorem dX7_ofRow_73 : decode cX7_ofRow 73 = .ok (.imul, 1) := by decide +kernel
theorem dX7_ofRow_74 : decode cX7_ofRow 74 = .ok (.iadd, 1) := by decide +kernel
theorem dX7_ofRow_75 : decode cX7_ofRow 75 = .ok (.iload_n 2, 1) := by decide +kernel
theorem dX7_ofRow_76 : decode cX7_ofRow 76 = .ok (.iadd, 1) := by decide +kernel
theorem dX7_ofRow_77 : decode cX7_ofRow 77 = .ok (.if_icmp .ne 12, 3) := by decide +kernel
theorem dX7_ofRow_80 : decode cX7_ofRow 80 = .ok (.iload 6, 2) := by decide +kernel
theorem dX7_ofRow_82 : decode cX7_ofRow 82 = .ok (.ifCond .eq 7, 3) := by decide +kernel
theorem dX7_ofRow_85 : decode cX7_ofRow 85 = .ok (.iconst 1, 1) := by decide +kernel
theorem dX7_ofRow_86 : decode cX7_ofRow 86 = .ok (.goto 4, 3) := by decide +kernel
theorem dX7_ofRow_89 : decode cX7_ofRow 89 = .ok (.iconst 0, 1) := by decide +kernel
theorem dX7_ofRow_90 : decode cX7_ofRow 90 = .ok (.iadd, 1) := by decide +kernel
theorem dX7_ofRow_91 : decode cX7_ofRow 91 = .ok (.istore 4, 2) := by decide +kernel
theorem dX7_ofRow_93 : decode cX7_ofRow 93 = .ok (.iinc 5 1, 3) := by decide +kernel
theorem dX7_ofRow_96 : decode cX7_ofRow 96 = .ok (.goto (-90), 3) := by decide +kernel
theorem dX7_ofRow_99 : decode cX7_ofRow 99 = .ok (.iload 4, 2) := by decide +kernel
theorem dX7_ofRow_101 : decode cX7_ofRow 101 = .ok (.ireturn, 1) := by decide +kernel
theorem dX7_ofCard_0 : decode cX7_ofCard 0 = .ok (.aload_n 0, 1) := by decide +kernel
theorem dX7_ofCard_1 : decode cX7_ofCard 1 = .ok (.iload_n 1, 1) := by decide +kernel
theorem dX7_ofCard_2 : decode cX7_ofCard 2 = .ok (.iconst 0, 1) := by decide +kernel
theorem dX7_ofCard_3 : decode cX7_ofCard 3 = .ok (.iload_n 2, 1) := by decide +kernel
theorem dX7_ofCard_4 : decode cX7_ofCard 4 = .ok (.invokevirtual 40, 3) := by decide +kernel
theorem dX7_ofCard_7 : decode cX7_ofCard 7 = .ok (.aload_n 0, 1) := by decide +kernel
theorem dX7_ofCard_8 : decode cX7_ofCard 8 = .ok (.iload_n 1, 1) := by decide +kernel
theorem dX7_ofCard_9 : decode cX7_ofCard 9 = .ok (.iconst 1, 1) := by decide +kernel
theorem dX7_ofCard_10 : decode cX7_ofCard 10 = .ok (.iload_n 2, 1) := by decide +kernel
theorem dX7_ofCard_11 : decode cX7_ofCard 11 = .ok (.invokevirtual 40, 3) := by decide +kernel
theorem dX7_ofCard_14 : decode cX7_ofCard 14 = .ok (.iadd, 1) := by decide +kernel
theorem dX7_ofCard_15 : decode cX7_ofCard 15 = .ok (.aload_n 0, 1) := by decide +kernel
theorem dX7_ofCard_16 : decode cX7_ofCard 16 = .ok (.iload_n 1, 1) := by decide +kernel
theorem dX7_ofCard_17 : decode cX7_ofCard 17 = .ok (.iconst 2, 1) := by decide +kernel
theorem dX7_ofCard_18 : decode cX7_ofCard 18 = .ok (.iload_n 2, 1) := by decide +kernel
theorem dX7_ofCard_19 : decode cX7_ofCard 19 = .ok (.invokevirtual 40, 3) := by decide +kernel
theorem dX7_ofCard_22 : decode cX7_ofCard 22 = .ok (.iadd, 1) := by decide +kernel
theorem dX7_ofCard_23 : decode cX7_ofCard 23 = .ok (.ireturn, 1) := by decide +kernel
theorem dX7_isWhole_0 : decode cX7_isWhole 0 = .ok (.aload_n 0, 1) := by decide +kernel
theorem dX7_isWhole_1 : decode cX7_isWhole 1 = .ok (.iload_n 1, 1) := by decide +kernel
theorem dX7_isWhole_2 : decode cX7_isWhole 2 = .ok (.iconst 0, 1) := by decide +kernel
theorem dX7_isWhole_3 : decode cX7_isWhole 3 = .ok (.iconst 0, 1) := by decide +kernel
theorem dX7_isWhole_4 : decode cX7_isWhole 4 = .ok (.invokevirtual 40, 3) := by decide +kernel
theorem dX7_isWhole_7 : decode cX7_isWhole 7 = .ok (.iconst 5, 1) := by decide +kernel
theorem dX7_isWhole_8 : decode cX7_isWhole 8 = .ok (.if_icmp .ne 29, 3) := by decide +kernel
theorem dX7_isWhole_11 : decode cX7_isWhole 11 = .ok (.aload_n 0, 1) := by decide +kernel
theorem dX7_isWhole_12 : decode cX7_isWhole 12 = .ok (.iload_n 1, 1) := by decide +kernel
theorem dX7_isWhole_13 : decode cX7_isWhole 13 = .ok (.iconst 1, 1) := by decide +kernel
theorem dX7_isWhole_14 : decode cX7_isWhole 14 = .ok (.iconst 0, 1) := by decide +kernel
theorem dX7_isWhole_15 : decode cX7_isWhole 15 = .ok (.invokevirtual 40, 3) := by decide +kernel
theorem dX7_isWhole_18 : decode cX7_isWhole 18 = .ok (.iconst 5, 1) := by decide +kernel
theorem dX7_isWhole_19 : decode cX7_isWhole 19 = .ok (.if_icmp .ne 18, 3) := by decide +kernel
theorem dX7_isWhole_22 : decode cX7_isWhole 22 = .ok (.aload_n 0, 1) := by decide +kernel
theorem dX7_isWhole_23 : decode cX7_isWhole 23 = .ok (.iload_n 1, 1) := by decide +kernel
theorem dX7_isWhole_24 : decode cX7_isWhole 24 = .ok (.iconst 2, 1) := by decide +kernel
theorem dX7_isWhole_25 : decode cX7_isWhole 25 = .ok (.iconst 0, 1) := by decide +kernel
theorem dX7_isWhole_26 : decode cX7_isWhole 26 = .ok (.invokevirtual 40, 3) := by decide +kernel
theorem dX7_isWhole_29 : decode cX7_isWhole 29 = .ok (.iconst 5, 1) := by decide +kernel
theorem dX7_isWhole_30 : decode cX7_isWhole 30 = .ok (.if_icmp .ne 7, 3) := by decide +kernel
theorem dX7_isWhole_33 : decode cX7_isWhole 33 = .ok (.iconst 1, 1) := by decide +kernel
theorem dX7_isWhole_34 : decode cX7_isWhole 34 = .ok (.goto 4, 3) := by decide +kernel
theorem dX7_isWhole_37 : decode cX7_isWhole 37 = .ok (.iconst 0, 1) := by decide +kernel
theorem dX7_isWhole_38 : decode cX7_isWhole 38 = .ok (.ireturn, 1) := by decide +kernel
theorem dX7_wrong_0 : decode cX7_wrong 0 = .ok (.aload_n 0, 1) := by decide +kernel
theorem dX7_wrong_1 : decode cX7_wrong 1 = .ok (.getfield 7, 3) := by decide +kernel
theorem dX7_wrong_4 : decode cX7_wrong 4 = .ok (.iconst 4, 1) := by decide +kernel
theorem dX7_wrong_5 : decode cX7_wrong 5 = .ok (.iload_n 3, 1) := by decide +kernel
theorem dX7_wrong_6 : decode cX7_wrong 6 = .ok (.iadd, 1) := by decide +kernel
theorem dX7_wrong_7 : decode cX7_wrong 7 = .ok (.iaload, 1) := by decide +kernel
theorem dX7_wrong_8 : decode cX7_wrong 8 = .ok (.ifCond .le 5, 3) := by decide +kernel
theorem dX7_wrong_11 : decode cX7_wrong 11 = .ok (.iconst 1, 1) := by decide +kernel
theorem dX7_wrong_12 : decode cX7_wrong 12 = .ok (.ireturn, 1) := by decide +kernel
theorem dX7_wrong_13 : decode cX7_wrong 13 = .ok (.aload_n 0, 1) := by decide +kernel
theorem dX7_wrong_14 : decode cX7_wrong 14 = .ok (.iload_n 1, 1) := by decide +kernel
theorem dX7_wrong_15 : decode cX7_wrong 15 = .ok (.iload_n 2, 1) := by decide +kernel
theorem dX7_wrong_16 : decode cX7_wrong 16 = .ok (.iload_n 3, 1) := by decide +kernel
theorem dX7_wrong_17 : decode cX7_wrong 17 = .ok (.invokestatic 36, 3) := by decide +kernel
theorem dX7_wrong_20 : decode cX7_wrong 20 = .ok (.invokevirtual 44, 3) := by decide +kernel
theorem dX7_wrong_23 : decode cX7_wrong 23 = .ok (.ifCond .le 5, 3) := by decide +kernel
theorem dX7_wrong_26 : decode cX7_wrong 26 = .ok (.iconst 2, 1) := by decide +kernel
theorem dX7_wrong_27 : decode cX7_wrong 27 = .ok (.ireturn, 1) := by decide +kernel
theorem dX7_wrong_28 : decode cX7_wrong 28 = .ok (.aload_n 0, 1) := by decide +kernel
theorem dX7_wrong_29 : decode cX7_wrong 29 = .ok (.iload_n 1, 1) := by decide +kernel
theorem dX7_wrong_30 : decode cX7_wrong 30 = .ok (.iload_n 2, 1) := by decide +kernel
theorem dX7_wrong_31 : decode cX7_wrong 31 = .ok (.iconst 0, 1) := by decide +kernel
theorem dX7_wrong_32 : decode cX7_wrong 32 = .ok (.invokevirtual 40, 3) := by decide +kernel
theorem dX7_wrong_35 : decode cX7_wrong 35 = .ok (.iconst 5, 1) := by decide +kernel
theorem dX7_wrong_36 : decode cX7_wrong 36 = .ok (.if_icmp .ne 5, 3) := by decide +kernel
theorem dX7_wrong_39 : decode cX7_wrong 39 = .ok (.iconst 3, 1) := by decide +kernel
theorem dX7_wrong_40 : decode cX7_wrong 40 = .ok (.ireturn, 1) := by decide +kernel
theorem dX7_wrong_41 : decode cX7_wrong 41 = .ok (.iconst 0, 1) := by decide +kernel
theorem dX7_wrong_42 : decode cX7_wrong 42 = .ok (.istore 4, 2) := by decide +kernel
theorem dX7_wrong_44 : decode cX7_wrong 44 = .ok (.iload 4, 2) := by decide +kernel
theorem dX7_wrong_46 : decode cX7_wrong 46 = .ok (.iconst 3, 1) := by decide +kernel
theorem dX7_wrong_47 : decode cX7_wrong 47 = .ok (.if_icmp .ge 53, 3) := by decide +kernel
theorem dX7_wrong_50 : decode cX7_wrong 50 = .ok (.aload_n 0, 1) := by decide +kernel
theorem dX7_wrong_51 : decode cX7_wrong 51 = .ok (.iload_n 1, 1) := by decide +kernel
theorem dX7_wrong_52 : decode cX7_wrong 52 = .ok (.iload 4, 2) := by decide +kernel
theorem dX7_wrong_54 : decode cX7_wrong 54 = .ok (.iload_n 3, 1) := by decide +kernel
theorem dX7_wrong_55 : decode cX7_wrong 55 = .ok (.invokestatic 36, 3) := by decide +kernel
theorem dX7_wrong_58 : decode cX7_wrong 58 = .ok (.invokevirtual 44, 3) := by decide +kernel
theorem dX7_wrong_61 : decode cX7_wrong 61 = .ok (.istore 5, 2) := by decide +kernel
theorem dX7_wrong_63 : decode cX7_wrong 63 = .ok (.iload 5, 2) := by decide +kernel
theorem dX7_wrong_65 : decode cX7_wrong 65 = .ok (.ifCond .le 29, 3) := by decide +kernel
theorem dX7_wrong_68 : decode cX7_wrong 68 = .ok (.iload 4, 2) := by decide +kernel
theorem dX7_wrong_70 : decode cX7_wrong 70 = .ok (.iload_n 2, 1) := by decide +kernel
theorem dX7_wrong_71 : decode cX7_wrong 71 = .ok (.if_icmp .ge 9, 3) := by decide +kernel
theorem dX7_wrong_74 : decode cX7_wrong 74 = .ok (.iload 5, 2) := by decide +kernel
theorem dX7_wrong_76 : decode cX7_wrong 76 = .ok (.iload_n 3, 1) := by decide +kernel
theorem dX7_wrong_77 : decode cX7_wrong 77 = .ok (.if_icmp .gt 15, 3) := by decide +kernel
theorem dX7_wrong_80 : decode cX7_wrong 80 = .ok (.iload 4, 2) := by decide +kernel
theorem dX7_wrong_82 : decode cX7_wrong 82 = .ok (.iload_n 2, 1) := by decide +kernel
theorem dX7_wrong_83 : decode cX7_wrong 83 = .ok (.if_icmp .le 11, 3) := by decide +kernel
theorem dX7_wrong_86 : decode cX7_wrong 86 = .ok (.iload 5, 2) := by decide +kernel
theorem dX7_wrong_88 : decode cX7_wrong 88 = .ok (.iload_n 3, 1) := by decide +kernel
theorem dX7_wrong_89 : decode cX7_wrong 89 = .ok (.if_icmp .ge 5, 3) := by decide +kernel
theorem dX7_wrong_92 : decode cX7_wrong 92 = .ok (.iconst 4, 1) := by decide +kernel
theorem dX7_wrong_93 : decode cX7_wrong 93 = .ok (.ireturn, 1) := by decide +kernel
theorem dX7_wrong_94 : decode cX7_wrong 94 = .ok (.iinc 4 1, 3) := by decide +kernel
theorem dX7_wrong_97 : decode cX7_wrong 97 = .ok (.goto (-53), 3) := by decide +kernel
theorem dX7_wrong_100 : decode cX7_wrong 100 = .ok (.aload_n 0, 1) := by decide +kernel
theorem dX7_wrong_101 : decode cX7_wrong 101 = .ok (.getfield 7, 3) := by decide +kernel
theorem dX7_wrong_104 : decode cX7_wrong 104 = .ok (.sipush 458, 3) := by decide +kernel
theorem dX7_wrong_107 : decode cX7_wrong 107 = .ok (.iload_n 1, 1) := by decide +kernel
theorem dX7_wrong_108 : decode cX7_wrong 108 = .ok (.iadd, 1) := by decide +kernel
theorem dX7_wrong_109 : decode cX7_wrong 109 = .ok (.iaload, 1) := by decide +kernel
theorem dX7_wrong_110 : decode cX7_wrong 110 = .ok (.iconst 1, 1) := by decide +kernel
theorem dX7_wrong_111 : decode cX7_wrong 111 = .ok (.if_icmp .ne 7, 3) := by decide +kernel
theorem dX7_wrong_114 : decode cX7_wrong 114 = .ok (.iconst 5, 1) := by decide +kernel
theorem dX7_wrong_115 : decode cX7_wrong 115 = .ok (.goto 4, 3) := by decide +kernel
theorem dX7_wrong_118 : decode cX7_wrong 118 = .ok (.iconst 0, 1) := by decide +kernel
theorem dX7_wrong_119 : decode cX7_wrong 119 = .ok (.ireturn, 1) := by decide +kernel
theorem dX7_puts_0 : decode cX7_puts 0 = .ok (.aload_n 0, 1) := by decide +kernel
theorem dX7_puts_1 : decode cX7_puts 1 = .ok (.iload_n 1, 1) := by decide +kernel
theorem dX7_puts_2 : decode cX7_puts 2 = .ok (.iload_n 2, 1) := by decide +kernel
theorem dX7_puts_3 : decode cX7_puts 3 = .ok (.iload_n 3, 1) := by decide +kernel
theorem dX7_puts_4 : decode cX7_puts 4 = .ok (.invokevirtual 47, 3) := by decide +kernel
theorem dX7_puts_7 : decode cX7_puts 7 = .ok (.istore 4, 2) := by decide +kernel
theorem dX7_puts_9 : decode cX7_puts 9 = .ok (.aload_n 0, 1) := by decide +kernel
theorem dX7_puts_10 : decode cX7_puts 10 = .ok (.getfield 7, 3) := by decide +kernel
theorem dX7_puts_13 : decode cX7_puts 13 = .ok (.iconst 4, 1) := by decide +kernel
theorem dX7_puts_14 : decode cX7_puts 14 = .ok (.iload_n 3, 1) := by decide +kernel
theorem dX7_puts_15 : decode cX7_puts 15 = .ok (.iadd, 1) := by decide +kernel
theorem dX7_puts_16 : decode cX7_puts 16 = .ok (.iload 4, 2) := by decide +kernel
theorem dX7_puts_18 : decode cX7_puts 18 = .ok (.ifCond .ne 13, 3) := by decide +kernel
theorem dX7_puts_21 : decode cX7_puts 21 = .ok (.iconst 1, 1) := by decide +kernel
theorem dX7_puts_22 : decode cX7_puts 22 = .ok (.iconst 3, 1) := by decide +kernel
theorem dX7_puts_23 : decode cX7_puts 23 = .ok (.iload_n 1, 1) := by decide +kernel
theorem dX7_puts_24 : decode cX7_puts 24 = .ok (.imul, 1) := by decide +kernel
theorem dX7_puts_25 : decode cX7_puts 25 = .ok (.iadd, 1) := by decide +kernel
theorem dX7_puts_26 : decode cX7_puts 26 = .ok (.iload_n 2, 1) := by decide +kernel
theorem dX7_puts_27 : decode cX7_puts 27 = .ok (.iadd, 1) := by decide +kernel
theorem dX7_puts_28 : decode cX7_puts 28 = .ok (.goto 11, 3) := by decide +kernel
theorem dX7_puts_31 : decode cX7_puts 31 = .ok (.aload_n 0, 1) := by decide +kernel
theorem dX7_puts_32 : decode cX7_puts 32 = .ok (.getfield 7, 3) := by decide +kernel
theorem dX7_puts_35 : decode cX7_puts 35 = .ok (.iconst 4, 1) := by decide +kernel
theorem dX7_puts_36 : decode cX7_puts 36 = .ok (.iload_n 3, 1) := by decide +kernel
theorem dX7_puts_37 : decode cX7_puts 37 = .ok (.iadd, 1) := by decide +kernel
theorem dX7_puts_38 : decode cX7_puts 38 = .ok (.iaload, 1) := by decide +kernel
theorem dX7_puts_39 : decode cX7_puts 39 = .ok (.iastore, 1) := by decide +kernel
theorem dX7_puts_40 : decode cX7_puts 40 = .ok (.iload 4, 2) := by decide +kernel
theorem dX7_puts_42 : decode cX7_puts 42 = .ok (.ireturn, 1) := by decide +kernel
theorem dX7_put_0 : decode cX7_put 0 = .ok (.aload_n 0, 1) := by decide +kernel
theorem dX7_put_1 : decode cX7_put 1 = .ok (.iload_n 1, 1) := by decide +kernel
theorem dX7_put_2 : decode cX7_put 2 = .ok (.invokestatic 50, 3) := by decide +kernel
theorem dX7_put_5 : decode cX7_put 5 = .ok (.ifCond .eq 14, 3) := by decide +kernel
theorem dX7_put_8 : decode cX7_put 8 = .ok (.iload_n 2, 1) := by decide +kernel
theorem dX7_put_9 : decode cX7_put 9 = .ok (.invokestatic 54, 3) := by decide +kernel
theorem dX7_put_12 : decode cX7_put 12 = .ok (.ifCond .eq 7, 3) := by decide +kernel
theorem dX7_put_15 : decode cX7_put 15 = .ok (.iconst 1, 1) := by decide +kernel
theorem dX7_put_16 : decode cX7_put 16 = .ok (.goto 4, 3) := by decide +kernel
theorem dX7_put_19 : decode cX7_put 19 = .ok (.iconst 0, 1) := by decide +kernel
theorem dX7_put_20 : decode cX7_put 20 = .ok (.iload_n 3, 1) := by decide +kernel
theorem dX7_put_21 : decode cX7_put 21 = .ok (.invokestatic 57, 3) := by decide +kernel
theorem dX7_put_24 : decode cX7_put 24 = .ok (.iconst 1, 1) := by decide +kernel
theorem dX7_put_25 : decode cX7_put 25 = .ok (.invokevirtual 60, 3) := by decide +kernel
theorem dX7_put_28 : decode cX7_put 28 = .ok (.ifCond .ne 5, 3) := by decide +kernel
theorem dX7_put_31 : decode cX7_put 31 = .ok (.iconst 0, 1) := by decide +kernel
theorem dX7_put_32 : decode cX7_put 32 = .ok (.ireturn, 1) := by decide +kernel
theorem dX7_put_33 : decode cX7_put 33 = .ok (.aload_n 0, 1) := by decide +kernel
theorem dX7_put_34 : decode cX7_put 34 = .ok (.invokevirtual 64, 3) := by decide +kernel
theorem dX7_put_37 : decode cX7_put 37 = .ok (.aload_n 0, 1) := by decide +kernel
theorem dX7_put_38 : decode cX7_put 38 = .ok (.iload_n 1, 1) := by decide +kernel
theorem dX7_put_39 : decode cX7_put 39 = .ok (.iload_n 2, 1) := by decide +kernel
theorem dX7_put_40 : decode cX7_put 40 = .ok (.iload_n 3, 1) := by decide +kernel
theorem dX7_put_41 : decode cX7_put 41 = .ok (.invokevirtual 67, 3) := by decide +kernel
theorem dX7_put_44 : decode cX7_put 44 = .ok (.ireturn, 1) := by decide +kernel
theorem dX7_take_0 : decode cX7_take 0 = .ok (.iload_n 1, 1) := by decide +kernel
theorem dX7_take_1 : decode cX7_take 1 = .ok (.invokestatic 57, 3) := by decide +kernel
theorem dX7_take_4 : decode cX7_take 4 = .ok (.istore_n 2, 1) := by decide +kernel
theorem dX7_take_5 : decode cX7_take 5 = .ok (.iload_n 2, 1) := by decide +kernel
theorem dX7_take_6 : decode cX7_take 6 = .ok (.ifCond .eq 14, 3) := by decide +kernel
theorem dX7_take_9 : decode cX7_take 9 = .ok (.aload_n 0, 1) := by decide +kernel
theorem dX7_take_10 : decode cX7_take 10 = .ok (.getfield 7, 3) := by decide +kernel
theorem dX7_take_13 : decode cX7_take 13 = .ok (.iconst 4, 1) := by decide +kernel
theorem dX7_take_14 : decode cX7_take 14 = .ok (.iload_n 1, 1) := by decide +kernel
theorem dX7_take_15 : decode cX7_take 15 = .ok (.iadd, 1) := by decide +kernel
theorem dX7_take_16 : decode cX7_take 16 = .ok (.iaload, 1) := by decide +kernel
theorem dX7_take_17 : decode cX7_take 17 = .ok (.goto 4, 3) := by decide +kernel
theorem dX7_take_20 : decode cX7_take 20 = .ok (.iconst 0, 1) := by decide +kernel
theorem dX7_take_21 : decode cX7_take 21 = .ok (.istore_n 3, 1) := by decide +kernel
theorem dX7_take_22 : decode cX7_take 22 = .ok (.aload_n 0, 1) := by decide +kernel
theorem dX7_take_23 : decode cX7_take 23 = .ok (.iload_n 2, 1) := by decide +kernel
theorem dX7_take_24 : decode cX7_take 24 = .ok (.iload_n 3, 1) := by decide +kernel
theorem dX7_take_25 : decode cX7_take 25 = .ok (.ifCond .le 24, 3) := by decide +kernel
theorem dX7_take_28 : decode cX7_take 28 = .ok (.aload_n 0, 1) := by decide +kernel
theorem dX7_take_29 : decode cX7_take 29 = .ok (.getfield 7, 3) := by decide +kernel
theorem dX7_take_32 : decode cX7_take 32 = .ok (.sipush 458, 3) := by decide +kernel
theorem dX7_take_35 : decode cX7_take 35 = .ok (.iload_n 3, 1) := by decide +kernel
theorem dX7_take_36 : decode cX7_take 36 = .ok (.iconst 1, 1) := by decide +kernel
theorem dX7_take_37 : decode cX7_take 37 = .ok (.isub, 1) := by decide +kernel
theorem dX7_take_38 : decode cX7_take 38 = .ok (.iconst 3, 1) := by decide +kernel
theorem dX7_take_39 : decode cX7_take 39 = .ok (.idiv, 1) := by decide +kernel
theorem dX7_take_40 : decode cX7_take 40 = .ok (.iadd, 1) := by decide +kernel
theorem dX7_take_41 : decode cX7_take 41 = .ok (.iaload, 1) := by decide +kernel
theorem dX7_take_42 : decode cX7_take 42 = .ok (.ifCond .ne 7, 3) := by decide +kernel
theorem dX7_take_45 : decode cX7_take 45 = .ok (.iconst 1, 1) := by decide +kernel
theorem dX7_take_46 : decode cX7_take 46 = .ok (.goto 4, 3) := by decide +kernel
theorem dX7_take_49 : decode cX7_take 49 = .ok (.iconst 0, 1) := by decide +kernel
theorem dX7_take_50 : decode cX7_take 50 = .ok (.iconst 1, 1) := by decide +kernel
theorem dX7_take_51 : decode cX7_take 51 = .ok (.invokevirtual 60, 3) := by decide +kernel
theorem dX7_take_54 : decode cX7_take 54 = .ok (.ifCond .ne 5, 3) := by decide +kernel
theorem dX7_take_57 : decode cX7_take 57 = .ok (.iconst 0, 1) := by decide +kernel
theorem dX7_take_58 : decode cX7_take 58 = .ok (.ireturn, 1) := by decide +kernel
theorem dX7_take_59 : decode cX7_take 59 = .ok (.aload_n 0, 1) := by decide +kernel
theorem dX7_take_60 : decode cX7_take 60 = .ok (.invokevirtual 64, 3) := by decide +kernel
theorem dX7_take_63 : decode cX7_take 63 = .ok (.aload_n 0, 1) := by decide +kernel
theorem dX7_take_64 : decode cX7_take 64 = .ok (.getfield 7, 3) := by decide +kernel
theorem dX7_take_67 : decode cX7_take 67 = .ok (.iconst 4, 1) := by decide +kernel
theorem dX7_take_68 : decode cX7_take 68 = .ok (.iload_n 1, 1) := by decide +kernel
theorem dX7_take_69 : decode cX7_take 69 = .ok (.iadd, 1) := by decide +kernel
theorem dX7_take_70 : decode cX7_take 70 = .ok (.iconst 0, 1) := by decide +kernel
theorem dX7_take_71 : decode cX7_take 71 = .ok (.iastore, 1) := by decide +kernel
theorem dX7_take_72 : decode cX7_take 72 = .ok (.bipush 10, 2) := by decide +kernel
theorem dX7_take_74 : decode cX7_take 74 = .ok (.iload_n 3, 1) := by decide +kernel
theorem dX7_take_75 : decode cX7_take 75 = .ok (.iconst 1, 1) := by decide +kernel
theorem dX7_take_76 : decode cX7_take 76 = .ok (.isub, 1) := by decide +kernel
theorem dX7_take_77 : decode cX7_take 77 = .ok (.iconst 3, 1) := by decide +kernel
theorem dX7_take_78 : decode cX7_take 78 = .ok (.idiv, 1) := by decide +kernel
theorem dX7_take_79 : decode cX7_take 79 = .ok (.imul, 1) := by decide +kernel
theorem dX7_take_80 : decode cX7_take 80 = .ok (.iload_n 3, 1) := by decide +kernel
theorem dX7_take_81 : decode cX7_take 81 = .ok (.iconst 1, 1) := by decide +kernel
theorem dX7_take_82 : decode cX7_take 82 = .ok (.isub, 1) := by decide +kernel
theorem dX7_take_83 : decode cX7_take 83 = .ok (.iconst 3, 1) := by decide +kernel
theorem dX7_take_84 : decode cX7_take 84 = .ok (.irem, 1) := by decide +kernel
theorem dX7_take_85 : decode cX7_take 85 = .ok (.iadd, 1) := by decide +kernel
theorem dX7_take_86 : decode cX7_take 86 = .ok (.ireturn, 1) := by decide +kernel
theorem dX7_lot_0 : decode cX7_lot 0 = .ok (.aload_n 0, 1) := by decide +kernel
theorem dX7_lot_1 : decode cX7_lot 1 = .ok (.getfield 7, 3) := by decide +kernel
theorem dX7_lot_4 : decode cX7_lot 4 = .ok (.iload_n 1, 1) := by decide +kernel
theorem dX7_lot_5 : decode cX7_lot 5 = .ok (.iconst 3, 1) := by decide +kernel
theorem dX7_lot_6 : decode cX7_lot 6 = .ok (.iadd, 1) := by decide +kernel
theorem dX7_lot_7 : decode cX7_lot 7 = .ok (.aload_n 0, 1) := by decide +kernel
theorem dX7_lot_8 : decode cX7_lot 8 = .ok (.getfield 7, 3) := by decide +kernel
theorem dX7_lot_11 : decode cX7_lot 11 = .ok (.iload_n 1, 1) := by decide +kernel
theorem dX7_lot_12 : decode cX7_lot 12 = .ok (.iconst 3, 1) := by decide +kernel
theorem dX7_lot_13 : decode cX7_lot 13 = .ok (.iadd, 1) := by decide +kernel
theorem dX7_lot_14 : decode cX7_lot 14 = .ok (.iaload, 1) := by decide +kernel
theorem dX7_lot_15 : decode cX7_lot 15 = .ok (.sipush 421, 3) := by decide +kernel
theorem dX7_lot_18 : decode cX7_lot 18 = .ok (.imul, 1) := by decide +kernel
theorem dX7_lot_19 : decode cX7_lot 19 = .ok (.sipush 1663, 3) := by decide +kernel
theorem dX7_lot_22 : decode cX7_lot 22 = .ok (.iadd, 1) := by decide +kernel
theorem dX7_lot_23 : decode cX7_lot 23 = .ok (.sipush 10000, 3) := by decide +kernel
theorem dX7_lot_26 : decode cX7_lot 26 = .ok (.irem, 1) := by decide +kernel
theorem dX7_lot_27 : decode cX7_lot 27 = .ok (.iastore, 1) := by decide +kernel
theorem dX7_lot_28 : decode cX7_lot 28 = .ok (.aload_n 0, 1) := by decide +kernel
theorem dX7_lot_29 : decode cX7_lot 29 = .ok (.getfield 7, 3) := by decide +kernel
theorem dX7_lot_32 : decode cX7_lot 32 = .ok (.iload_n 1, 1) := by decide +kernel
theorem dX7_lot_33 : decode cX7_lot 33 = .ok (.iconst 3, 1) := by decide +kernel
theorem dX7_lot_34 : decode cX7_lot 34 = .ok (.iadd, 1) := by decide +kernel
theorem dX7_lot_35 : decode cX7_lot 35 = .ok (.iaload, 1) := by decide +kernel
theorem dX7_lot_36 : decode cX7_lot 36 = .ok (.iload_n 2, 1) := by decide +kernel
theorem dX7_lot_37 : decode cX7_lot 37 = .ok (.irem, 1) := by decide +kernel
theorem dX7_lot_38 : decode cX7_lot 38 = .ok (.ireturn, 1) := by decide +kernel
theorem dX7_free_0 : decode cX7_free 0 = .ok (.iload_n 1, 1) := by decide +kernel
theorem dX7_free_1 : decode cX7_free 1 = .ok (.istore_n 2, 1) := by decide +kernel
theorem dX7_free_2 : decode cX7_free 2 = .ok (.iconst 1, 1) := by decide +kernel
theorem dX7_free_3 : decode cX7_free 3 = .ok (.istore_n 3, 1) := by decide +kernel
theorem dX7_free_4 : decode cX7_free 4 = .ok (.iload_n 3, 1) := by decide +kernel
theorem dX7_free_5 : decode cX7_free 5 = .ok (.bipush 90, 2) := by decide +kernel
theorem dX7_free_7 : decode cX7_free 7 = .ok (.if_icmp .gt 29, 3) := by decide +kernel
theorem dX7_free_10 : decode cX7_free 10 = .ok (.aload_n 0, 1) := by decide +kernel
theorem dX7_free_11 : decode cX7_free 11 = .ok (.getfield 7, 3) := by decide +kernel
theorem dX7_free_14 : decode cX7_free 14 = .ok (.iconst 4, 1) := by decide +kernel
theorem dX7_free_15 : decode cX7_free 15 = .ok (.iload_n 3, 1) := by decide +kernel
theorem dX7_free_16 : decode cX7_free 16 = .ok (.iadd, 1) := by decide +kernel
theorem dX7_free_17 : decode cX7_free 17 = .ok (.iaload, 1) := by decide +kernel
theorem dX7_free_18 : decode cX7_free 18 = .ok (.ifCond .ne 12, 3) := by decide +kernel
theorem dX7_free_21 : decode cX7_free 21 = .ok (.iload_n 2, 1) := by decide +kernel
theorem dX7_free_22 : decode cX7_free 22 = .ok (.ifCond .ne 5, 3) := by decide +kernel
theorem dX7_free_25 : decode cX7_free 25 = .ok (.iload_n 3, 1) := by decide +kernel
theorem dX7_free_26 : decode cX7_free 26 = .ok (.ireturn, 1) := by decide +kernel
theorem dX7_free_27 : decode cX7_free 27 = .ok (.iinc 2 (-1), 3) := by decide +kernel
theorem dX7_free_30 : decode cX7_free 30 = .ok (.iinc 3 1, 3) := by decide +kernel
theorem dX7_free_33 : decode cX7_free 33 = .ok (.goto (-29), 3) := by decide +kernel
theorem dX7_free_36 : decode cX7_free 36 = .ok (.iconst 0, 1) := by decide +kernel
theorem dX7_free_37 : decode cX7_free 37 = .ok (.ireturn, 1) := by decide +kernel
theorem dX7_inBook_0 : decode cX7_inBook 0 = .ok (.iconst 0, 1) := by decide +kernel
theorem dX7_inBook_1 : decode cX7_inBook 1 = .ok (.istore_n 1, 1) := by decide +kernel
theorem dX7_inBook_2 : decode cX7_inBook 2 = .ok (.iconst 1, 1) := by decide +kernel
theorem dX7_inBook_3 : decode cX7_inBook 3 = .ok (.istore_n 2, 1) := by decide +kernel
theorem dX7_inBook_4 : decode cX7_inBook 4 = .ok (.iload_n 2, 1) := by decide +kernel
theorem dX7_inBook_5 : decode cX7_inBook 5 = .ok (.bipush 90, 2) := by decide +kernel
theorem dX7_inBook_7 : decode cX7_inBook 7 = .ok (.if_icmp .gt 28, 3) := by decide +kernel
theorem dX7_inBook_10 : decode cX7_inBook 10 = .ok (.iload_n 1, 1) := by decide +kernel
theorem dX7_inBook_11 : decode cX7_inBook 11 = .ok (.aload_n 0, 1) := by decide +kernel
theorem dX7_inBook_12 : decode cX7_inBook 12 = .ok (.getfield 7, 3) := by decide +kernel
theorem dX7_inBook_15 : decode cX7_inBook 15 = .ok (.iconst 4, 1) := by decide +kernel
theorem dX7_inBook_16 : decode cX7_inBook 16 = .ok (.iload_n 2, 1) := by decide +kernel
theorem dX7_inBook_17 : decode cX7_inBook 17 = .ok (.iadd, 1) := by decide +kernel
theorem dX7_inBook_18 : decode cX7_inBook 18 = .ok (.iaload, 1) := by decide +kernel
theorem dX7_inBook_19 : decode cX7_inBook 19 = .ok (.ifCond .le 7, 3) := by decide +kernel
theorem dX7_inBook_22 : decode cX7_inBook 22 = .ok (.iconst 1, 1) := by decide +kernel
theorem dX7_inBook_23 : decode cX7_inBook 23 = .ok (.goto 4, 3) := by decide +kernel
theorem dX7_inBook_26 : decode cX7_inBook 26 = .ok (.iconst 0, 1) := by decide +kernel
theorem dX7_inBook_27 : decode cX7_inBook 27 = .ok (.iadd, 1) := by decide +kernel
theorem dX7_inBook_28 : decode cX7_inBook 28 = .ok (.istore_n 1, 1) := by decide +kernel
theorem dX7_inBook_29 : decode cX7_inBook 29 = .ok (.iinc 2 1, 3) := by decide +kernel
theorem dX7_inBook_32 : decode cX7_inBook 32 = .ok (.goto (-28), 3) := by decide +kernel
theorem dX7_inBook_35 : decode cX7_inBook 35 = .ok (.iload_n 1, 1) := by decide +kernel
theorem dX7_inBook_36 : decode cX7_inBook 36 = .ok (.ireturn, 1) := by decide +kernel
theorem dX7_fill_0 : decode cX7_fill 0 = .ok (.iload_n 1, 1) := by decide +kernel
theorem dX7_fill_1 : decode cX7_fill 1 = .ok (.invokestatic 50, 3) := by decide +kernel
theorem dX7_fill_4 : decode cX7_fill 4 = .ok (.istore_n 3, 1) := by decide +kernel
theorem dX7_fill_5 : decode cX7_fill 5 = .ok (.aload_n 0, 1) := by decide +kernel
theorem dX7_fill_6 : decode cX7_fill 6 = .ok (.iload_n 3, 1) := by decide +kernel
theorem dX7_fill_7 : decode cX7_fill 7 = .ok (.iload_n 2, 1) := by decide +kernel
theorem dX7_fill_8 : decode cX7_fill 8 = .ok (.iconst 1, 1) := by decide +kernel
theorem dX7_fill_9 : decode cX7_fill 9 = .ok (.bipush 60, 2) := by decide +kernel
theorem dX7_fill_11 : decode cX7_fill 11 = .ok (.invokestatic 32, 3) := by decide +kernel
theorem dX7_fill_14 : decode cX7_fill 14 = .ok (.iload_n 3, 1) := by decide +kernel
theorem dX7_fill_15 : decode cX7_fill 15 = .ok (.ifCond .eq 20, 3) := by decide +kernel
theorem dX7_fill_18 : decode cX7_fill 18 = .ok (.aload_n 0, 1) := by decide +kernel
theorem dX7_fill_19 : decode cX7_fill 19 = .ok (.getfield 7, 3) := by decide +kernel
theorem dX7_fill_22 : decode cX7_fill 22 = .ok (.sipush 458, 3) := by decide +kernel
theorem dX7_fill_25 : decode cX7_fill 25 = .ok (.iload_n 1, 1) := by decide +kernel
theorem dX7_fill_26 : decode cX7_fill 26 = .ok (.iadd, 1) := by decide +kernel
theorem dX7_fill_27 : decode cX7_fill 27 = .ok (.iaload, 1) := by decide +kernel
theorem dX7_fill_28 : decode cX7_fill 28 = .ok (.ifCond .ne 7, 3) := by decide +kernel
theorem dX7_fill_31 : decode cX7_fill 31 = .ok (.iconst 1, 1) := by decide +kernel
theorem dX7_fill_32 : decode cX7_fill 32 = .ok (.goto 4, 3) := by decide +kernel
theorem dX7_fill_35 : decode cX7_fill 35 = .ok (.iconst 0, 1) := by decide +kernel
theorem dX7_fill_36 : decode cX7_fill 36 = .ok (.invokevirtual 60, 3) := by decide +kernel
theorem dX7_fill_39 : decode cX7_fill 39 = .ok (.ifCond .ne 5, 3) := by decide +kernel
theorem dX7_fill_42 : decode cX7_fill 42 = .ok (.iconst 0, 1) := by decide +kernel
theorem dX7_fill_43 : decode cX7_fill 43 = .ok (.ireturn, 1) := by decide +kernel
theorem dX7_fill_44 : decode cX7_fill 44 = .ok (.aload_n 0, 1) := by decide +kernel
theorem dX7_fill_45 : decode cX7_fill 45 = .ok (.invokevirtual 64, 3) := by decide +kernel
theorem dX7_fill_48 : decode cX7_fill 48 = .ok (.iconst 0, 1) := by decide +kernel
theorem dX7_fill_49 : decode cX7_fill 49 = .ok (.istore 4, 2) := by decide +kernel
theorem dX7_fill_51 : decode cX7_fill 51 = .ok (.iconst 0, 1) := by decide +kernel
theorem dX7_fill_52 : decode cX7_fill 52 = .ok (.istore 5, 2) := by decide +kernel
theorem dX7_fill_54 : decode cX7_fill 54 = .ok (.iload 5, 2) := by decide +kernel
theorem dX7_fill_56 : decode cX7_fill 56 = .ok (.iload_n 2, 1) := by decide +kernel
theorem dX7_fill_57 : decode cX7_fill 57 = .ok (.if_icmp .ge 93, 3) := by decide +kernel
theorem dX7_fill_60 : decode cX7_fill 60 = .ok (.aload_n 0, 1) := by decide +kernel
theorem dX7_fill_61 : decode cX7_fill 61 = .ok (.invokevirtual 70, 3) := by decide +kernel
theorem dX7_fill_64 : decode cX7_fill 64 = .ok (.bipush 90, 2) := by decide +kernel
theorem dX7_fill_66 : decode cX7_fill 66 = .ok (.if_icmp .ge 84, 3) := by decide +kernel
theorem dX7_fill_69 : decode cX7_fill 69 = .ok (.aload_n 0, 1) := by decide +kernel
theorem dX7_fill_70 : decode cX7_fill 70 = .ok (.aload_n 0, 1) := by decide +kernel
theorem dX7_fill_71 : decode cX7_fill 71 = .ok (.iconst 0, 1) := by decide +kernel
theorem dX7_fill_72 : decode cX7_fill 72 = .ok (.bipush 90, 2) := by decide +kernel
theorem dX7_fill_74 : decode cX7_fill 74 = .ok (.aload_n 0, 1) := by decide +kernel
theorem dX7_fill_75 : decode cX7_fill 75 = .ok (.invokevirtual 70, 3) := by decide +kernel
theorem dX7_fill_78 : decode cX7_fill 78 = .ok (.isub, 1) := by decide +kernel
theorem dX7_fill_79 : decode cX7_fill 79 = .ok (.invokevirtual 74, 3) := by decide +kernel
theorem dX7_fill_82 : decode cX7_fill 82 = .ok (.invokevirtual 78, 3) := by decide +kernel
theorem dX7_fill_85 : decode cX7_fill 85 = .ok (.istore 6, 2) := by decide +kernel
theorem dX7_fill_87 : decode cX7_fill 87 = .ok (.iconst 0, 1) := by decide +kernel
theorem dX7_fill_88 : decode cX7_fill 88 = .ok (.istore 7, 2) := by decide +kernel
theorem dX7_fill_90 : decode cX7_fill 90 = .ok (.iconst 0, 1) := by decide +kernel
theorem dX7_fill_91 : decode cX7_fill 91 = .ok (.istore 8, 2) := by decide +kernel
theorem dX7_fill_93 : decode cX7_fill 93 = .ok (.iload 8, 2) := by decide +kernel
theorem dX7_fill_95 : decode cX7_fill 95 = .ok (.iconst 3, 1) := by decide +kernel
theorem dX7_fill_96 : decode cX7_fill 96 = .ok (.if_icmp .ge 33, 3) := by decide +kernel
theorem dX7_fill_99 : decode cX7_fill 99 = .ok (.iload 7, 2) := by decide +kernel
theorem dX7_fill_101 : decode cX7_fill 101 = .ok (.ifCond .ne 28, 3) := by decide +kernel
theorem dX7_fill_104 : decode cX7_fill 104 = .ok (.aload_n 0, 1) := by decide +kernel
theorem dX7_fill_105 : decode cX7_fill 105 = .ok (.iload_n 1, 1) := by decide +kernel
theorem dX7_fill_106 : decode cX7_fill 106 = .ok (.iload 8, 2) := by decide +kernel
theorem dX7_fill_108 : decode cX7_fill 108 = .ok (.iload 6, 2) := by decide +kernel
theorem dX7_fill_110 : decode cX7_fill 110 = .ok (.invokevirtual 67, 3) := by decide +kernel
theorem dX7_fill_113 : decode cX7_fill 113 = .ok (.ifCond .ne 7, 3) := by decide +kernel
theorem dX7_fill_116 : decode cX7_fill 116 = .ok (.iconst 1, 1) := by decide +kernel
theorem dX7_fill_117 : decode cX7_fill 117 = .ok (.goto 4, 3) := by decide +kernel
theorem dX7_fill_120 : decode cX7_fill 120 = .ok (.iconst 0, 1) := by decide +kernel
theorem dX7_fill_121 : decode cX7_fill 121 = .ok (.istore 7, 2) := by decide +kernel
theorem dX7_fill_123 : decode cX7_fill 123 = .ok (.iinc 8 1, 3) := by decide +kernel
theorem dX7_fill_126 : decode cX7_fill 126 = .ok (.goto (-33), 3) := by decide +kernel
theorem dX7_fill_129 : decode cX7_fill 129 = .ok (.iload 4, 2) := by decide +kernel
theorem dX7_fill_131 : decode cX7_fill 131 = .ok (.iload 7, 2) := by decide +kernel
theorem dX7_fill_133 : decode cX7_fill 133 = .ok (.ifCond .eq 7, 3) := by decide +kernel
theorem dX7_fill_136 : decode cX7_fill 136 = .ok (.iconst 1, 1) := by decide +kernel
theorem dX7_fill_137 : decode cX7_fill 137 = .ok (.goto 4, 3) := by decide +kernel
theorem dX7_fill_140 : decode cX7_fill 140 = .ok (.iconst 0, 1) := by decide +kernel
theorem dX7_fill_141 : decode cX7_fill 141 = .ok (.iadd, 1) := by decide +kernel
theorem dX7_fill_142 : decode cX7_fill 142 = .ok (.istore 4, 2) := by decide +kernel
theorem dX7_fill_144 : decode cX7_fill 144 = .ok (.iinc 5 1, 3) := by decide +kernel
theorem dX7_fill_147 : decode cX7_fill 147 = .ok (.goto (-93), 3) := by decide +kernel
theorem dX7_fill_150 : decode cX7_fill 150 = .ok (.iload 4, 2) := by decide +kernel
theorem dX7_fill_152 : decode cX7_fill 152 = .ok (.ireturn, 1) := by decide +kernel
theorem dX7_canBuy_0 : decode cX7_canBuy 0 = .ok (.aload_n 0, 1) := by decide +kernel
theorem dX7_canBuy_1 : decode cX7_canBuy 1 = .ok (.getfield 7, 3) := by decide +kernel
theorem dX7_canBuy_4 : decode cX7_canBuy 4 = .ok (.sipush 458, 3) := by decide +kernel
theorem dX7_canBuy_7 : decode cX7_canBuy 7 = .ok (.iload_n 1, 1) := by decide +kernel
theorem dX7_canBuy_8 : decode cX7_canBuy 8 = .ok (.iadd, 1) := by decide +kernel
theorem dX7_canBuy_9 : decode cX7_canBuy 9 = .ok (.iaload, 1) := by decide +kernel
theorem dX7_canBuy_10 : decode cX7_canBuy 10 = .ok (.ifCond .ne 26, 3) := by decide +kernel
theorem dX7_canBuy_13 : decode cX7_canBuy 13 = .ok (.aload_n 0, 1) := by decide +kernel
theorem dX7_canBuy_14 : decode cX7_canBuy 14 = .ok (.iload_n 1, 1) := by decide +kernel
theorem dX7_canBuy_15 : decode cX7_canBuy 15 = .ok (.invokevirtual 81, 3) := by decide +kernel
theorem dX7_canBuy_18 : decode cX7_canBuy 18 = .ok (.ifCond .eq 18, 3) := by decide +kernel
theorem dX7_canBuy_21 : decode cX7_canBuy 21 = .ok (.aload_n 0, 1) := by decide +kernel
theorem dX7_canBuy_22 : decode cX7_canBuy 22 = .ok (.getfield 7, 3) := by decide +kernel
theorem dX7_canBuy_25 : decode cX7_canBuy 25 = .ok (.sipush 457, 3) := by decide +kernel
theorem dX7_canBuy_28 : decode cX7_canBuy 28 = .ok (.iaload, 1) := by decide +kernel
theorem dX7_canBuy_29 : decode cX7_canBuy 29 = .ok (.ifCond .ne 7, 3) := by decide +kernel
theorem dX7_canBuy_32 : decode cX7_canBuy 32 = .ok (.iconst 1, 1) := by decide +kernel
theorem dX7_canBuy_33 : decode cX7_canBuy 33 = .ok (.goto 4, 3) := by decide +kernel
theorem dX7_canBuy_36 : decode cX7_canBuy 36 = .ok (.iconst 0, 1) := by decide +kernel
theorem dX7_canBuy_37 : decode cX7_canBuy 37 = .ok (.ireturn, 1) := by decide +kernel
theorem dX7_buys_0 : decode cX7_buys 0 = .ok (.aload_n 0, 1) := by decide +kernel
theorem dX7_buys_1 : decode cX7_buys 1 = .ok (.getfield 7, 3) := by decide +kernel
theorem dX7_buys_4 : decode cX7_buys 4 = .ok (.sipush 458, 3) := by decide +kernel
theorem dX7_buys_7 : decode cX7_buys 7 = .ok (.iload_n 1, 1) := by decide +kernel
theorem dX7_buys_8 : decode cX7_buys 8 = .ok (.iadd, 1) := by decide +kernel
theorem dX7_buys_9 : decode cX7_buys 9 = .ok (.iconst 1, 1) := by decide +kernel
theorem dX7_buys_10 : decode cX7_buys 10 = .ok (.iastore, 1) := by decide +kernel
theorem dX7_buys_11 : decode cX7_buys 11 = .ok (.aload_n 0, 1) := by decide +kernel
theorem dX7_buys_12 : decode cX7_buys 12 = .ok (.getfield 7, 3) := by decide +kernel
theorem dX7_buys_15 : decode cX7_buys 15 = .ok (.sipush 486, 3) := by decide +kernel
theorem dX7_buys_18 : decode cX7_buys 18 = .ok (.dup2, 1) := by decide +kernel
theorem dX7_buys_19 : decode cX7_buys 19 = .ok (.iaload, 1) := by decide +kernel
theorem dX7_buys_20 : decode cX7_buys 20 = .ok (.aload_n 0, 1) := by decide +kernel
theorem dX7_buys_21 : decode cX7_buys 21 = .ok (.getfield 7, 3) := by decide +kernel
theorem dX7_buys_24 : decode cX7_buys 24 = .ok (.iconst 0, 1) := by decide +kernel
theorem dX7_buys_25 : decode cX7_buys 25 = .ok (.iaload, 1) := by decide +kernel
theorem dX7_buys_26 : decode cX7_buys 26 = .ok (.iadd, 1) := by decide +kernel
theorem dX7_buys_27 : decode cX7_buys 27 = .ok (.iastore, 1) := by decide +kernel
theorem dX7_buys_28 : decode cX7_buys 28 = .ok (.aload_n 0, 1) := by decide +kernel
theorem dX7_buys_29 : decode cX7_buys 29 = .ok (.getfield 7, 3) := by decide +kernel
theorem dX7_buys_32 : decode cX7_buys 32 = .ok (.sipush 487, 3) := by decide +kernel
theorem dX7_buys_35 : decode cX7_buys 35 = .ok (.dup2, 1) := by decide +kernel
theorem dX7_buys_36 : decode cX7_buys 36 = .ok (.iaload, 1) := by decide +kernel
theorem dX7_buys_37 : decode cX7_buys 37 = .ok (.aload_n 0, 1) := by decide +kernel
theorem dX7_buys_38 : decode cX7_buys 38 = .ok (.getfield 7, 3) := by decide +kernel
theorem dX7_buys_41 : decode cX7_buys 41 = .ok (.iconst 0, 1) := by decide +kernel
theorem dX7_buys_42 : decode cX7_buys 42 = .ok (.iaload, 1) := by decide +kernel
theorem dX7_buys_43 : decode cX7_buys 43 = .ok (.iadd, 1) := by decide +kernel
theorem dX7_buys_44 : decode cX7_buys 44 = .ok (.iastore, 1) := by decide +kernel
theorem dX7_buys_45 : decode cX7_buys 45 = .ok (.aload_n 0, 1) := by decide +kernel
theorem dX7_buys_46 : decode cX7_buys 46 = .ok (.getfield 7, 3) := by decide +kernel
theorem dX7_buys_49 : decode cX7_buys 49 = .ok (.sipush 486, 3) := by decide +kernel
theorem dX7_buys_52 : decode cX7_buys 52 = .ok (.iaload, 1) := by decide +kernel
theorem dX7_buys_53 : decode cX7_buys 53 = .ok (.ireturn, 1) := by decide +kernel
theorem dX7_buy_0 : decode cX7_buy 0 = .ok (.iload_n 1, 1) := by decide +kernel
theorem dX7_buy_1 : decode cX7_buy 1 = .ok (.invokestatic 50, 3) := by decide +kernel
theorem dX7_buy_4 : decode cX7_buy 4 = .ok (.istore_n 2, 1) := by decide +kernel
theorem dX7_buy_5 : decode cX7_buy 5 = .ok (.aload_n 0, 1) := by decide +kernel
theorem dX7_buy_6 : decode cX7_buy 6 = .ok (.iload_n 2, 1) := by decide +kernel
theorem dX7_buy_7 : decode cX7_buy 7 = .ok (.iload_n 2, 1) := by decide +kernel
theorem dX7_buy_8 : decode cX7_buy 8 = .ok (.ifCond .eq 15, 3) := by decide +kernel
theorem dX7_buy_11 : decode cX7_buy 11 = .ok (.aload_n 0, 1) := by decide +kernel
theorem dX7_buy_12 : decode cX7_buy 12 = .ok (.iload_n 1, 1) := by decide +kernel
theorem dX7_buy_13 : decode cX7_buy 13 = .ok (.invokevirtual 84, 3) := by decide +kernel
theorem dX7_buy_16 : decode cX7_buy 16 = .ok (.ifCond .eq 7, 3) := by decide +kernel
theorem dX7_buy_19 : decode cX7_buy 19 = .ok (.iconst 1, 1) := by decide +kernel
theorem dX7_buy_20 : decode cX7_buy 20 = .ok (.goto 4, 3) := by decide +kernel
theorem dX7_buy_23 : decode cX7_buy 23 = .ok (.iconst 0, 1) := by decide +kernel
theorem dX7_buy_24 : decode cX7_buy 24 = .ok (.iconst 1, 1) := by decide +kernel
theorem dX7_buy_25 : decode cX7_buy 25 = .ok (.invokevirtual 60, 3) := by decide +kernel
theorem dX7_buy_28 : decode cX7_buy 28 = .ok (.ifCond .ne 5, 3) := by decide +kernel
theorem dX7_buy_31 : decode cX7_buy 31 = .ok (.iconst 0, 1) := by decide +kernel
theorem dX7_buy_32 : decode cX7_buy 32 = .ok (.ireturn, 1) := by decide +kernel
theorem dX7_buy_33 : decode cX7_buy 33 = .ok (.aload_n 0, 1) := by decide +kernel
theorem dX7_buy_34 : decode cX7_buy 34 = .ok (.invokevirtual 64, 3) := by decide +kernel
theorem dX7_buy_37 : decode cX7_buy 37 = .ok (.aload_n 0, 1) := by decide +kernel
theorem dX7_buy_38 : decode cX7_buy 38 = .ok (.iload_n 1, 1) := by decide +kernel
theorem dX7_buy_39 : decode cX7_buy 39 = .ok (.invokevirtual 87, 3) := by decide +kernel
theorem dX7_buy_42 : decode cX7_buy 42 = .ok (.ireturn, 1) := by decide +kernel
theorem dX7_seed_0 : decode cX7_seed 0 = .ok (.aload_n 0, 1) := by decide +kernel
theorem dX7_seed_1 : decode cX7_seed 1 = .ok (.iload_n 1, 1) := by decide +kernel
theorem dX7_seed_2 : decode cX7_seed 2 = .ok (.iconst 0, 1) := by decide +kernel
theorem dX7_seed_3 : decode cX7_seed 3 = .ok (.sipush 9999, 3) := by decide +kernel
theorem dX7_seed_6 : decode cX7_seed 6 = .ok (.invokestatic 32, 3) := by decide +kernel
theorem dX7_seed_9 : decode cX7_seed 9 = .ok (.iconst 1, 1) := by decide +kernel
theorem dX7_seed_10 : decode cX7_seed 10 = .ok (.iconst 1, 1) := by decide +kernel
theorem dX7_seed_11 : decode cX7_seed 11 = .ok (.invokevirtual 60, 3) := by decide +kernel
theorem dX7_seed_14 : decode cX7_seed 14 = .ok (.ifCond .ne 5, 3) := by decide +kernel
theorem dX7_seed_17 : decode cX7_seed 17 = .ok (.iconst 0, 1) := by decide +kernel
theorem dX7_seed_18 : decode cX7_seed 18 = .ok (.ireturn, 1) := by decide +kernel
theorem dX7_seed_19 : decode cX7_seed 19 = .ok (.aload_n 0, 1) := by decide +kernel
theorem dX7_seed_20 : decode cX7_seed 20 = .ok (.invokevirtual 64, 3) := by decide +kernel
theorem dX7_seed_23 : decode cX7_seed 23 = .ok (.aload_n 0, 1) := by decide +kernel
theorem dX7_seed_24 : decode cX7_seed 24 = .ok (.getfield 7, 3) := by decide +kernel
theorem dX7_seed_27 : decode cX7_seed 27 = .ok (.iconst 3, 1) := by decide +kernel
theorem dX7_seed_28 : decode cX7_seed 28 = .ok (.iaload, 1) := by decide +kernel
theorem dX7_seed_29 : decode cX7_seed 29 = .ok (.istore_n 2, 1) := by decide +kernel
theorem dX7_seed_30 : decode cX7_seed 30 = .ok (.aload_n 0, 1) := by decide +kernel
theorem dX7_seed_31 : decode cX7_seed 31 = .ok (.getfield 7, 3) := by decide +kernel
theorem dX7_seed_34 : decode cX7_seed 34 = .ok (.iconst 3, 1) := by decide +kernel
theorem dX7_seed_35 : decode cX7_seed 35 = .ok (.iload_n 1, 1) := by decide +kernel
theorem dX7_seed_36 : decode cX7_seed 36 = .ok (.iastore, 1) := by decide +kernel
theorem dX7_seed_37 : decode cX7_seed 37 = .ok (.iload_n 2, 1) := by decide +kernel
theorem dX7_seed_38 : decode cX7_seed 38 = .ok (.ireturn, 1) := by decide +kernel
theorem dX7_set_0 : decode cX7_set 0 = .ok (.iload_n 1, 1) := by decide +kernel
