theorem dX7_set_1 : decode cX7_set 1 = .ok (.iconst 0, 1) := by decide +kernel
theorem dX7_set_2 : decode cX7_set 2 = .ok (.iconst 2, 1) := by decide +kernel
theorem dX7_set_3 : decode cX7_set 3 = .ok (.invokestatic 32, 3) := by decide +kernel
theorem dX7_set_6 : decode cX7_set 6 = .ok (.istore_n 3, 1) := by decide +kernel
theorem dX7_set_7 : decode cX7_set 7 = .ok (.aload_n 0, 1) := by decide +kernel
theorem dX7_set_8 : decode cX7_set 8 = .ok (.iload_n 3, 1) := by decide +kernel
theorem dX7_set_9 : decode cX7_set 9 = .ok (.iload_n 2, 1) := by decide +kernel
theorem dX7_set_10 : decode cX7_set 10 = .ok (.iload_n 1, 1) := by decide +kernel
theorem dX7_set_11 : decode cX7_set 11 = .ok (.ifCond .ne 7, 3) := by decide +kernel
theorem dX7_set_14 : decode cX7_set 14 = .ok (.iconst 1, 1) := by decide +kernel
theorem dX7_set_15 : decode cX7_set 15 = .ok (.goto 4, 3) := by decide +kernel
theorem dX7_set_18 : decode cX7_set 18 = .ok (.iconst 0, 1) := by decide +kernel
theorem dX7_set_19 : decode cX7_set 19 = .ok (.iload_n 1, 1) := by decide +kernel
theorem dX7_set_20 : decode cX7_set 20 = .ok (.iconst 2, 1) := by decide +kernel
theorem dX7_set_21 : decode cX7_set 21 = .ok (.if_icmp .ne 7, 3) := by decide +kernel
theorem dX7_set_24 : decode cX7_set 24 = .ok (.iconst 1, 1) := by decide +kernel
theorem dX7_set_25 : decode cX7_set 25 = .ok (.goto 5, 3) := by decide +kernel
theorem dX7_set_28 : decode cX7_set 28 = .ok (.bipush 99, 2) := by decide +kernel
theorem dX7_set_30 : decode cX7_set 30 = .ok (.invokestatic 32, 3) := by decide +kernel
theorem dX7_set_33 : decode cX7_set 33 = .ok (.iconst 1, 1) := by decide +kernel
theorem dX7_set_34 : decode cX7_set 34 = .ok (.invokevirtual 60, 3) := by decide +kernel
theorem dX7_set_37 : decode cX7_set 37 = .ok (.ifCond .ne 5, 3) := by decide +kernel
theorem dX7_set_40 : decode cX7_set 40 = .ok (.iconst 0, 1) := by decide +kernel
theorem dX7_set_41 : decode cX7_set 41 = .ok (.ireturn, 1) := by decide +kernel
theorem dX7_set_42 : decode cX7_set 42 = .ok (.aload_n 0, 1) := by decide +kernel
theorem dX7_set_43 : decode cX7_set 43 = .ok (.invokevirtual 64, 3) := by decide +kernel
theorem dX7_set_46 : decode cX7_set 46 = .ok (.aload_n 0, 1) := by decide +kernel
theorem dX7_set_47 : decode cX7_set 47 = .ok (.getfield 7, 3) := by decide +kernel
theorem dX7_set_50 : decode cX7_set 50 = .ok (.iload_n 1, 1) := by decide +kernel
theorem dX7_set_51 : decode cX7_set 51 = .ok (.iaload, 1) := by decide +kernel
theorem dX7_set_52 : decode cX7_set 52 = .ok (.istore 4, 2) := by decide +kernel
theorem dX7_set_54 : decode cX7_set 54 = .ok (.aload_n 0, 1) := by decide +kernel
theorem dX7_set_55 : decode cX7_set 55 = .ok (.getfield 7, 3) := by decide +kernel
theorem dX7_set_58 : decode cX7_set 58 = .ok (.iload_n 1, 1) := by decide +kernel
theorem dX7_set_59 : decode cX7_set 59 = .ok (.iload_n 2, 1) := by decide +kernel
theorem dX7_set_60 : decode cX7_set 60 = .ok (.iastore, 1) := by decide +kernel
theorem dX7_set_61 : decode cX7_set 61 = .ok (.iload 4, 2) := by decide +kernel
theorem dX7_set_63 : decode cX7_set 63 = .ok (.ireturn, 1) := by decide +kernel
theorem dX7_draws_0 : decode cX7_draws 0 = .ok (.aload_n 0, 1) := by decide +kernel
theorem dX7_draws_1 : decode cX7_draws 1 = .ok (.iload_n 1, 1) := by decide +kernel
theorem dX7_draws_2 : decode cX7_draws 2 = .ok (.bipush 90, 2) := by decide +kernel
theorem dX7_draws_4 : decode cX7_draws 4 = .ok (.aload_n 0, 1) := by decide +kernel
theorem dX7_draws_5 : decode cX7_draws 5 = .ok (.getfield 7, 3) := by decide +kernel
theorem dX7_draws_8 : decode cX7_draws 8 = .ok (.iload_n 1, 1) := by decide +kernel
theorem dX7_draws_9 : decode cX7_draws 9 = .ok (.sipush 457, 3) := by decide +kernel
theorem dX7_draws_12 : decode cX7_draws 12 = .ok (.iadd, 1) := by decide +kernel
theorem dX7_draws_13 : decode cX7_draws 13 = .ok (.iaload, 1) := by decide +kernel
theorem dX7_draws_14 : decode cX7_draws 14 = .ok (.isub, 1) := by decide +kernel
theorem dX7_draws_15 : decode cX7_draws 15 = .ok (.invokevirtual 74, 3) := by decide +kernel
theorem dX7_draws_18 : decode cX7_draws 18 = .ok (.istore_n 2, 1) := by decide +kernel
theorem dX7_draws_19 : decode cX7_draws 19 = .ok (.iconst 0, 1) := by decide +kernel
theorem dX7_draws_20 : decode cX7_draws 20 = .ok (.istore_n 3, 1) := by decide +kernel
theorem dX7_draws_21 : decode cX7_draws 21 = .ok (.iconst 1, 1) := by decide +kernel
theorem dX7_draws_22 : decode cX7_draws 22 = .ok (.istore 4, 2) := by decide +kernel
theorem dX7_draws_24 : decode cX7_draws 24 = .ok (.iload 4, 2) := by decide +kernel
theorem dX7_draws_26 : decode cX7_draws 26 = .ok (.bipush 90, 2) := by decide +kernel
theorem dX7_draws_28 : decode cX7_draws 28 = .ok (.if_icmp .gt 60, 3) := by decide +kernel
theorem dX7_draws_31 : decode cX7_draws 31 = .ok (.aload_n 0, 1) := by decide +kernel
theorem dX7_draws_32 : decode cX7_draws 32 = .ok (.getfield 7, 3) := by decide +kernel
theorem dX7_draws_35 : decode cX7_draws 35 = .ok (.iload_n 1, 1) := by decide +kernel
theorem dX7_draws_36 : decode cX7_draws 36 = .ok (.bipush 95, 2) := by decide +kernel
theorem dX7_draws_38 : decode cX7_draws 38 = .ok (.iadd, 1) := by decide +kernel
theorem dX7_draws_39 : decode cX7_draws 39 = .ok (.iload 4, 2) := by decide +kernel
theorem dX7_draws_41 : decode cX7_draws 41 = .ok (.iadd, 1) := by decide +kernel
theorem dX7_draws_42 : decode cX7_draws 42 = .ok (.iaload, 1) := by decide +kernel
theorem dX7_draws_43 : decode cX7_draws 43 = .ok (.ifCond .ne 7, 3) := by decide +kernel
theorem dX7_draws_46 : decode cX7_draws 46 = .ok (.iconst 1, 1) := by decide +kernel
theorem dX7_draws_47 : decode cX7_draws 47 = .ok (.goto 4, 3) := by decide +kernel
theorem dX7_draws_50 : decode cX7_draws 50 = .ok (.iconst 0, 1) := by decide +kernel
theorem dX7_draws_51 : decode cX7_draws 51 = .ok (.istore 5, 2) := by decide +kernel
theorem dX7_draws_53 : decode cX7_draws 53 = .ok (.iload 5, 2) := by decide +kernel
theorem dX7_draws_55 : decode cX7_draws 55 = .ok (.ifCond .eq 12, 3) := by decide +kernel
theorem dX7_draws_58 : decode cX7_draws 58 = .ok (.iload_n 2, 1) := by decide +kernel
theorem dX7_draws_59 : decode cX7_draws 59 = .ok (.ifCond .ne 8, 3) := by decide +kernel
theorem dX7_draws_62 : decode cX7_draws 62 = .ok (.iload 4, 2) := by decide +kernel
theorem dX7_draws_64 : decode cX7_draws 64 = .ok (.goto 4, 3) := by decide +kernel
theorem dX7_draws_67 : decode cX7_draws 67 = .ok (.iload_n 3, 1) := by decide +kernel
theorem dX7_draws_68 : decode cX7_draws 68 = .ok (.istore_n 3, 1) := by decide +kernel
theorem dX7_draws_69 : decode cX7_draws 69 = .ok (.iload_n 2, 1) := by decide +kernel
theorem dX7_draws_70 : decode cX7_draws 70 = .ok (.iload 5, 2) := by decide +kernel
theorem dX7_draws_72 : decode cX7_draws 72 = .ok (.ifCond .eq 7, 3) := by decide +kernel
theorem dX7_draws_75 : decode cX7_draws 75 = .ok (.iconst 1, 1) := by decide +kernel
theorem dX7_draws_76 : decode cX7_draws 76 = .ok (.goto 4, 3) := by decide +kernel
theorem dX7_draws_79 : decode cX7_draws 79 = .ok (.iconst 0, 1) := by decide +kernel
theorem dX7_draws_80 : decode cX7_draws 80 = .ok (.isub, 1) := by decide +kernel
theorem dX7_draws_81 : decode cX7_draws 81 = .ok (.istore_n 2, 1) := by decide +kernel
theorem dX7_draws_82 : decode cX7_draws 82 = .ok (.iinc 4 1, 3) := by decide +kernel
theorem dX7_draws_85 : decode cX7_draws 85 = .ok (.goto (-61), 3) := by decide +kernel
theorem dX7_draws_88 : decode cX7_draws 88 = .ok (.aload_n 0, 1) := by decide +kernel
theorem dX7_draws_89 : decode cX7_draws 89 = .ok (.getfield 7, 3) := by decide +kernel
theorem dX7_draws_92 : decode cX7_draws 92 = .ok (.iload_n 1, 1) := by decide +kernel
theorem dX7_draws_93 : decode cX7_draws 93 = .ok (.sipush 457, 3) := by decide +kernel
theorem dX7_draws_96 : decode cX7_draws 96 = .ok (.iadd, 1) := by decide +kernel
theorem dX7_draws_97 : decode cX7_draws 97 = .ok (.iaload, 1) := by decide +kernel
theorem dX7_draws_98 : decode cX7_draws 98 = .ok (.istore 4, 2) := by decide +kernel
theorem dX7_draws_100 : decode cX7_draws 100 = .ok (.aload_n 0, 1) := by decide +kernel
theorem dX7_draws_101 : decode cX7_draws 101 = .ok (.getfield 7, 3) := by decide +kernel
theorem dX7_draws_104 : decode cX7_draws 104 = .ok (.iload_n 1, 1) := by decide +kernel
theorem dX7_draws_105 : decode cX7_draws 105 = .ok (.sipush 457, 3) := by decide +kernel
theorem dX7_draws_108 : decode cX7_draws 108 = .ok (.iadd, 1) := by decide +kernel
theorem dX7_draws_109 : decode cX7_draws 109 = .ok (.dup2, 1) := by decide +kernel
theorem dX7_draws_110 : decode cX7_draws 110 = .ok (.iaload, 1) := by decide +kernel
theorem dX7_draws_111 : decode cX7_draws 111 = .ok (.iconst 1, 1) := by decide +kernel
theorem dX7_draws_112 : decode cX7_draws 112 = .ok (.iadd, 1) := by decide +kernel
theorem dX7_draws_113 : decode cX7_draws 113 = .ok (.iastore, 1) := by decide +kernel
theorem dX7_draws_114 : decode cX7_draws 114 = .ok (.aload_n 0, 1) := by decide +kernel
theorem dX7_draws_115 : decode cX7_draws 115 = .ok (.getfield 7, 3) := by decide +kernel
theorem dX7_draws_118 : decode cX7_draws 118 = .ok (.iload_n 1, 1) := by decide +kernel
theorem dX7_draws_119 : decode cX7_draws 119 = .ok (.iconst 1, 1) := by decide +kernel
theorem dX7_draws_120 : decode cX7_draws 120 = .ok (.iadd, 1) := by decide +kernel
theorem dX7_draws_121 : decode cX7_draws 121 = .ok (.iaload, 1) := by decide +kernel
theorem dX7_draws_122 : decode cX7_draws 122 = .ok (.ifCond .le 23, 3) := by decide +kernel
theorem dX7_draws_125 : decode cX7_draws 125 = .ok (.iload 4, 2) := by decide +kernel
theorem dX7_draws_127 : decode cX7_draws 127 = .ok (.iconst 1, 1) := by decide +kernel
theorem dX7_draws_128 : decode cX7_draws 128 = .ok (.iadd, 1) := by decide +kernel
theorem dX7_draws_129 : decode cX7_draws 129 = .ok (.aload_n 0, 1) := by decide +kernel
theorem dX7_draws_130 : decode cX7_draws 130 = .ok (.getfield 7, 3) := by decide +kernel
theorem dX7_draws_133 : decode cX7_draws 133 = .ok (.iload_n 1, 1) := by decide +kernel
theorem dX7_draws_134 : decode cX7_draws 134 = .ok (.iconst 1, 1) := by decide +kernel
theorem dX7_draws_135 : decode cX7_draws 135 = .ok (.iadd, 1) := by decide +kernel
theorem dX7_draws_136 : decode cX7_draws 136 = .ok (.iaload, 1) := by decide +kernel
theorem dX7_draws_137 : decode cX7_draws 137 = .ok (.irem, 1) := by decide +kernel
theorem dX7_draws_138 : decode cX7_draws 138 = .ok (.ifCond .ne 7, 3) := by decide +kernel
theorem dX7_draws_141 : decode cX7_draws 141 = .ok (.iconst 1, 1) := by decide +kernel
theorem dX7_draws_142 : decode cX7_draws 142 = .ok (.goto 4, 3) := by decide +kernel
theorem dX7_draws_145 : decode cX7_draws 145 = .ok (.iconst 0, 1) := by decide +kernel
theorem dX7_draws_146 : decode cX7_draws 146 = .ok (.istore 5, 2) := by decide +kernel
theorem dX7_draws_148 : decode cX7_draws 148 = .ok (.iload 5, 2) := by decide +kernel
theorem dX7_draws_150 : decode cX7_draws 150 = .ok (.ifCond .ne 7, 3) := by decide +kernel
theorem dX7_draws_153 : decode cX7_draws 153 = .ok (.iload_n 3, 1) := by decide +kernel
theorem dX7_draws_154 : decode cX7_draws 154 = .ok (.goto 16, 3) := by decide +kernel
theorem dX7_draws_157 : decode cX7_draws 157 = .ok (.iload_n 3, 1) := by decide +kernel
theorem dX7_draws_158 : decode cX7_draws 158 = .ok (.bipush 90, 2) := by decide +kernel
theorem dX7_draws_160 : decode cX7_draws 160 = .ok (.if_icmp .ne 7, 3) := by decide +kernel
theorem dX7_draws_163 : decode cX7_draws 163 = .ok (.iconst 1, 1) := by decide +kernel
theorem dX7_draws_164 : decode cX7_draws 164 = .ok (.goto 6, 3) := by decide +kernel
theorem dX7_draws_167 : decode cX7_draws 167 = .ok (.iload_n 3, 1) := by decide +kernel
theorem dX7_draws_168 : decode cX7_draws 168 = .ok (.iconst 1, 1) := by decide +kernel
theorem dX7_draws_169 : decode cX7_draws 169 = .ok (.iadd, 1) := by decide +kernel
theorem dX7_draws_170 : decode cX7_draws 170 = .ok (.istore 6, 2) := by decide +kernel
theorem dX7_draws_172 : decode cX7_draws 172 = .ok (.aload_n 0, 1) := by decide +kernel
theorem dX7_draws_173 : decode cX7_draws 173 = .ok (.getfield 7, 3) := by decide +kernel
theorem dX7_draws_176 : decode cX7_draws 176 = .ok (.iload_n 1, 1) := by decide +kernel
theorem dX7_draws_177 : decode cX7_draws 177 = .ok (.bipush 95, 2) := by decide +kernel
theorem dX7_draws_179 : decode cX7_draws 179 = .ok (.iadd, 1) := by decide +kernel
theorem dX7_draws_180 : decode cX7_draws 180 = .ok (.iload_n 3, 1) := by decide +kernel
theorem dX7_draws_181 : decode cX7_draws 181 = .ok (.iadd, 1) := by decide +kernel
theorem dX7_draws_182 : decode cX7_draws 182 = .ok (.iload 4, 2) := by decide +kernel
theorem dX7_draws_184 : decode cX7_draws 184 = .ok (.iconst 1, 1) := by decide +kernel
theorem dX7_draws_185 : decode cX7_draws 185 = .ok (.iadd, 1) := by decide +kernel
theorem dX7_draws_186 : decode cX7_draws 186 = .ok (.iastore, 1) := by decide +kernel
theorem dX7_draws_187 : decode cX7_draws 187 = .ok (.aload_n 0, 1) := by decide +kernel
theorem dX7_draws_188 : decode cX7_draws 188 = .ok (.getfield 7, 3) := by decide +kernel
theorem dX7_draws_191 : decode cX7_draws 191 = .ok (.iload_n 1, 1) := by decide +kernel
theorem dX7_draws_192 : decode cX7_draws 192 = .ok (.sipush 186, 3) := by decide +kernel
theorem dX7_draws_195 : decode cX7_draws 195 = .ok (.iadd, 1) := by decide +kernel
theorem dX7_draws_196 : decode cX7_draws 196 = .ok (.iload 6, 2) := by decide +kernel
theorem dX7_draws_198 : decode cX7_draws 198 = .ok (.iadd, 1) := by decide +kernel
theorem dX7_draws_199 : decode cX7_draws 199 = .ok (.dup2, 1) := by decide +kernel
theorem dX7_draws_200 : decode cX7_draws 200 = .ok (.iaload, 1) := by decide +kernel
theorem dX7_draws_201 : decode cX7_draws 201 = .ok (.iconst 1, 1) := by decide +kernel
theorem dX7_draws_202 : decode cX7_draws 202 = .ok (.iadd, 1) := by decide +kernel
theorem dX7_draws_203 : decode cX7_draws 203 = .ok (.iastore, 1) := by decide +kernel
theorem dX7_draws_204 : decode cX7_draws 204 = .ok (.aload_n 0, 1) := by decide +kernel
theorem dX7_draws_205 : decode cX7_draws 205 = .ok (.getfield 7, 3) := by decide +kernel
theorem dX7_draws_208 : decode cX7_draws 208 = .ok (.iload_n 1, 1) := by decide +kernel
theorem dX7_draws_209 : decode cX7_draws 209 = .ok (.sipush 277, 3) := by decide +kernel
theorem dX7_draws_212 : decode cX7_draws 212 = .ok (.iadd, 1) := by decide +kernel
theorem dX7_draws_213 : decode cX7_draws 213 = .ok (.iload 4, 2) := by decide +kernel
theorem dX7_draws_215 : decode cX7_draws 215 = .ok (.iadd, 1) := by decide +kernel
theorem dX7_draws_216 : decode cX7_draws 216 = .ok (.iload_n 3, 1) := by decide +kernel
theorem dX7_draws_217 : decode cX7_draws 217 = .ok (.iastore, 1) := by decide +kernel
theorem dX7_draws_218 : decode cX7_draws 218 = .ok (.aload_n 0, 1) := by decide +kernel
theorem dX7_draws_219 : decode cX7_draws 219 = .ok (.getfield 7, 3) := by decide +kernel
theorem dX7_draws_222 : decode cX7_draws 222 = .ok (.iload_n 1, 1) := by decide +kernel
theorem dX7_draws_223 : decode cX7_draws 223 = .ok (.sipush 367, 3) := by decide +kernel
theorem dX7_draws_226 : decode cX7_draws 226 = .ok (.iadd, 1) := by decide +kernel
theorem dX7_draws_227 : decode cX7_draws 227 = .ok (.iload 4, 2) := by decide +kernel
theorem dX7_draws_229 : decode cX7_draws 229 = .ok (.iadd, 1) := by decide +kernel
theorem dX7_draws_230 : decode cX7_draws 230 = .ok (.iload 6, 2) := by decide +kernel
theorem dX7_draws_232 : decode cX7_draws 232 = .ok (.iastore, 1) := by decide +kernel
theorem dX7_draws_233 : decode cX7_draws 233 = .ok (.aload_n 0, 1) := by decide +kernel
theorem dX7_draws_234 : decode cX7_draws 234 = .ok (.getfield 7, 3) := by decide +kernel
theorem dX7_draws_237 : decode cX7_draws 237 = .ok (.iload_n 1, 1) := by decide +kernel
theorem dX7_draws_238 : decode cX7_draws 238 = .ok (.sipush 493, 3) := by decide +kernel
theorem dX7_draws_241 : decode cX7_draws 241 = .ok (.iadd, 1) := by decide +kernel
theorem dX7_draws_242 : decode cX7_draws 242 = .ok (.dup2, 1) := by decide +kernel
theorem dX7_draws_243 : decode cX7_draws 243 = .ok (.iaload, 1) := by decide +kernel
theorem dX7_draws_244 : decode cX7_draws 244 = .ok (.iload 5, 2) := by decide +kernel
theorem dX7_draws_246 : decode cX7_draws 246 = .ok (.ifCond .eq 7, 3) := by decide +kernel
theorem dX7_draws_249 : decode cX7_draws 249 = .ok (.iconst 1, 1) := by decide +kernel
theorem dX7_draws_250 : decode cX7_draws 250 = .ok (.goto 4, 3) := by decide +kernel
theorem dX7_draws_253 : decode cX7_draws 253 = .ok (.iconst 0, 1) := by decide +kernel
theorem dX7_draws_254 : decode cX7_draws 254 = .ok (.iadd, 1) := by decide +kernel
theorem dX7_draws_255 : decode cX7_draws 255 = .ok (.iastore, 1) := by decide +kernel
theorem dX7_draws_256 : decode cX7_draws 256 = .ok (.iload_n 3, 1) := by decide +kernel
theorem dX7_draws_257 : decode cX7_draws 257 = .ok (.ireturn, 1) := by decide +kernel
theorem dX7_drawsAll_0 : decode cX7_drawsAll 0 = .ok (.iconst 0, 1) := by decide +kernel
theorem dX7_drawsAll_1 : decode cX7_drawsAll 1 = .ok (.istore_n 2, 1) := by decide +kernel
theorem dX7_drawsAll_2 : decode cX7_drawsAll 2 = .ok (.iconst 0, 1) := by decide +kernel
theorem dX7_drawsAll_3 : decode cX7_drawsAll 3 = .ok (.istore_n 3, 1) := by decide +kernel
theorem dX7_drawsAll_4 : decode cX7_drawsAll 4 = .ok (.iload_n 3, 1) := by decide +kernel
theorem dX7_drawsAll_5 : decode cX7_drawsAll 5 = .ok (.iload_n 1, 1) := by decide +kernel
theorem dX7_drawsAll_6 : decode cX7_drawsAll 6 = .ok (.if_icmp .ge 15, 3) := by decide +kernel
theorem dX7_drawsAll_9 : decode cX7_drawsAll 9 = .ok (.aload_n 0, 1) := by decide +kernel
theorem dX7_drawsAll_10 : decode cX7_drawsAll 10 = .ok (.iconst 0, 1) := by decide +kernel
theorem dX7_drawsAll_11 : decode cX7_drawsAll 11 = .ok (.invokevirtual 90, 3) := by decide +kernel
theorem dX7_drawsAll_14 : decode cX7_drawsAll 14 = .ok (.istore_n 2, 1) := by decide +kernel
theorem dX7_drawsAll_15 : decode cX7_drawsAll 15 = .ok (.iinc 3 1, 3) := by decide +kernel
theorem dX7_drawsAll_18 : decode cX7_drawsAll 18 = .ok (.goto (-14), 3) := by decide +kernel
theorem dX7_drawsAll_21 : decode cX7_drawsAll 21 = .ok (.iload_n 2, 1) := by decide +kernel
theorem dX7_drawsAll_22 : decode cX7_drawsAll 22 = .ok (.ireturn, 1) := by decide +kernel
theorem dX7_draw_0 : decode cX7_draw 0 = .ok (.iload_n 1, 1) := by decide +kernel
theorem dX7_draw_1 : decode cX7_draw 1 = .ok (.iconst 1, 1) := by decide +kernel
theorem dX7_draw_2 : decode cX7_draw 2 = .ok (.bipush 90, 2) := by decide +kernel
theorem dX7_draw_4 : decode cX7_draw 4 = .ok (.invokestatic 32, 3) := by decide +kernel
theorem dX7_draw_7 : decode cX7_draw 7 = .ok (.istore_n 2, 1) := by decide +kernel
theorem dX7_draw_8 : decode cX7_draw 8 = .ok (.aload_n 0, 1) := by decide +kernel
theorem dX7_draw_9 : decode cX7_draw 9 = .ok (.iload_n 2, 1) := by decide +kernel
theorem dX7_draw_10 : decode cX7_draw 10 = .ok (.iload_n 2, 1) := by decide +kernel
theorem dX7_draw_11 : decode cX7_draw 11 = .ok (.ifCond .eq 22, 3) := by decide +kernel
theorem dX7_draw_14 : decode cX7_draw 14 = .ok (.iload_n 1, 1) := by decide +kernel
theorem dX7_draw_15 : decode cX7_draw 15 = .ok (.bipush 90, 2) := by decide +kernel
theorem dX7_draw_17 : decode cX7_draw 17 = .ok (.aload_n 0, 1) := by decide +kernel
theorem dX7_draw_18 : decode cX7_draw 18 = .ok (.getfield 7, 3) := by decide +kernel
theorem dX7_draw_21 : decode cX7_draw 21 = .ok (.sipush 457, 3) := by decide +kernel
theorem dX7_draw_24 : decode cX7_draw 24 = .ok (.iaload, 1) := by decide +kernel
theorem dX7_draw_25 : decode cX7_draw 25 = .ok (.isub, 1) := by decide +kernel
theorem dX7_draw_26 : decode cX7_draw 26 = .ok (.if_icmp .gt 7, 3) := by decide +kernel
theorem dX7_draw_29 : decode cX7_draw 29 = .ok (.iconst 1, 1) := by decide +kernel
theorem dX7_draw_30 : decode cX7_draw 30 = .ok (.goto 4, 3) := by decide +kernel
theorem dX7_draw_33 : decode cX7_draw 33 = .ok (.iconst 0, 1) := by decide +kernel
theorem dX7_draw_34 : decode cX7_draw 34 = .ok (.iconst 1, 1) := by decide +kernel
theorem dX7_draw_35 : decode cX7_draw 35 = .ok (.invokevirtual 60, 3) := by decide +kernel
theorem dX7_draw_38 : decode cX7_draw 38 = .ok (.ifCond .ne 5, 3) := by decide +kernel
theorem dX7_draw_41 : decode cX7_draw 41 = .ok (.iconst 0, 1) := by decide +kernel
theorem dX7_draw_42 : decode cX7_draw 42 = .ok (.ireturn, 1) := by decide +kernel
theorem dX7_draw_43 : decode cX7_draw 43 = .ok (.aload_n 0, 1) := by decide +kernel
theorem dX7_draw_44 : decode cX7_draw 44 = .ok (.invokevirtual 64, 3) := by decide +kernel
theorem dX7_draw_47 : decode cX7_draw 47 = .ok (.aload_n 0, 1) := by decide +kernel
theorem dX7_draw_48 : decode cX7_draw 48 = .ok (.iload_n 1, 1) := by decide +kernel
theorem dX7_draw_49 : decode cX7_draw 49 = .ok (.invokevirtual 93, 3) := by decide +kernel
theorem dX7_draw_52 : decode cX7_draw 52 = .ok (.ireturn, 1) := by decide +kernel
theorem dX7_isCorner_0 : decode cX7_isCorner 0 = .ok (.aload_n 0, 1) := by decide +kernel
theorem dX7_isCorner_1 : decode cX7_isCorner 1 = .ok (.getfield 7, 3) := by decide +kernel
theorem dX7_isCorner_4 : decode cX7_isCorner 4 = .ok (.iconst 4, 1) := by decide +kernel
theorem dX7_isCorner_5 : decode cX7_isCorner 5 = .ok (.iload_n 2, 1) := by decide +kernel
theorem dX7_isCorner_6 : decode cX7_isCorner 6 = .ok (.iadd, 1) := by decide +kernel
theorem dX7_isCorner_7 : decode cX7_isCorner 7 = .ok (.iaload, 1) := by decide +kernel
theorem dX7_isCorner_8 : decode cX7_isCorner 8 = .ok (.iconst 1, 1) := by decide +kernel
theorem dX7_isCorner_9 : decode cX7_isCorner 9 = .ok (.isub, 1) := by decide +kernel
theorem dX7_isCorner_10 : decode cX7_isCorner 10 = .ok (.istore_n 3, 1) := by decide +kernel
theorem dX7_isCorner_11 : decode cX7_isCorner 11 = .ok (.iload_n 3, 1) := by decide +kernel
theorem dX7_isCorner_12 : decode cX7_isCorner 12 = .ok (.iconst 3, 1) := by decide +kernel
theorem dX7_isCorner_13 : decode cX7_isCorner 13 = .ok (.iload_n 1, 1) := by decide +kernel
theorem dX7_isCorner_14 : decode cX7_isCorner 14 = .ok (.imul, 1) := by decide +kernel
theorem dX7_isCorner_15 : decode cX7_isCorner 15 = .ok (.if_icmp .eq 14, 3) := by decide +kernel
theorem dX7_isCorner_18 : decode cX7_isCorner 18 = .ok (.iload_n 3, 1) := by decide +kernel
theorem dX7_isCorner_19 : decode cX7_isCorner 19 = .ok (.iconst 3, 1) := by decide +kernel
theorem dX7_isCorner_20 : decode cX7_isCorner 20 = .ok (.iload_n 1, 1) := by decide +kernel
theorem dX7_isCorner_21 : decode cX7_isCorner 21 = .ok (.imul, 1) := by decide +kernel
theorem dX7_isCorner_22 : decode cX7_isCorner 22 = .ok (.iconst 2, 1) := by decide +kernel
theorem dX7_isCorner_23 : decode cX7_isCorner 23 = .ok (.iadd, 1) := by decide +kernel
theorem dX7_isCorner_24 : decode cX7_isCorner 24 = .ok (.if_icmp .eq 5, 3) := by decide +kernel
theorem dX7_isCorner_27 : decode cX7_isCorner 27 = .ok (.iconst 0, 1) := by decide +kernel
theorem dX7_isCorner_28 : decode cX7_isCorner 28 = .ok (.ireturn, 1) := by decide +kernel
theorem dX7_isCorner_29 : decode cX7_isCorner 29 = .ok (.iconst 0, 1) := by decide +kernel
theorem dX7_isCorner_30 : decode cX7_isCorner 30 = .ok (.istore 4, 2) := by decide +kernel
theorem dX7_isCorner_32 : decode cX7_isCorner 32 = .ok (.iconst 0, 1) := by decide +kernel
theorem dX7_isCorner_33 : decode cX7_isCorner 33 = .ok (.istore 5, 2) := by decide +kernel
theorem dX7_isCorner_35 : decode cX7_isCorner 35 = .ok (.iconst 1, 1) := by decide +kernel
theorem dX7_isCorner_36 : decode cX7_isCorner 36 = .ok (.istore 6, 2) := by decide +kernel
theorem dX7_isCorner_38 : decode cX7_isCorner 38 = .ok (.iload 6, 2) := by decide +kernel
theorem dX7_isCorner_40 : decode cX7_isCorner 40 = .ok (.bipush 90, 2) := by decide +kernel
theorem dX7_isCorner_42 : decode cX7_isCorner 42 = .ok (.if_icmp .gt 75, 3) := by decide +kernel
theorem dX7_isCorner_45 : decode cX7_isCorner 45 = .ok (.iload 4, 2) := by decide +kernel
theorem dX7_isCorner_47 : decode cX7_isCorner 47 = .ok (.ifCond .ne 24, 3) := by decide +kernel
theorem dX7_isCorner_50 : decode cX7_isCorner 50 = .ok (.iload 6, 2) := by decide +kernel
theorem dX7_isCorner_52 : decode cX7_isCorner 52 = .ok (.iload_n 2, 1) := by decide +kernel
theorem dX7_isCorner_53 : decode cX7_isCorner 53 = .ok (.if_icmp .ge 22, 3) := by decide +kernel
theorem dX7_isCorner_56 : decode cX7_isCorner 56 = .ok (.aload_n 0, 1) := by decide +kernel
theorem dX7_isCorner_57 : decode cX7_isCorner 57 = .ok (.getfield 7, 3) := by decide +kernel
theorem dX7_isCorner_60 : decode cX7_isCorner 60 = .ok (.iconst 4, 1) := by decide +kernel
theorem dX7_isCorner_61 : decode cX7_isCorner 61 = .ok (.iload 6, 2) := by decide +kernel
theorem dX7_isCorner_63 : decode cX7_isCorner 63 = .ok (.iadd, 1) := by decide +kernel
theorem dX7_isCorner_64 : decode cX7_isCorner 64 = .ok (.iaload, 1) := by decide +kernel
theorem dX7_isCorner_65 : decode cX7_isCorner 65 = .ok (.iconst 1, 1) := by decide +kernel
theorem dX7_isCorner_66 : decode cX7_isCorner 66 = .ok (.isub, 1) := by decide +kernel
theorem dX7_isCorner_67 : decode cX7_isCorner 67 = .ok (.iload_n 3, 1) := by decide +kernel
theorem dX7_isCorner_68 : decode cX7_isCorner 68 = .ok (.if_icmp .ne 7, 3) := by decide +kernel
theorem dX7_isCorner_71 : decode cX7_isCorner 71 = .ok (.iconst 1, 1) := by decide +kernel
theorem dX7_isCorner_72 : decode cX7_isCorner 72 = .ok (.goto 4, 3) := by decide +kernel
theorem dX7_isCorner_75 : decode cX7_isCorner 75 = .ok (.iconst 0, 1) := by decide +kernel
theorem dX7_isCorner_76 : decode cX7_isCorner 76 = .ok (.istore 4, 2) := by decide +kernel
theorem dX7_isCorner_78 : decode cX7_isCorner 78 = .ok (.iload 5, 2) := by decide +kernel
theorem dX7_isCorner_80 : decode cX7_isCorner 80 = .ok (.ifCond .ne 24, 3) := by decide +kernel
theorem dX7_isCorner_83 : decode cX7_isCorner 83 = .ok (.iload 6, 2) := by decide +kernel
theorem dX7_isCorner_85 : decode cX7_isCorner 85 = .ok (.iload_n 2, 1) := by decide +kernel
theorem dX7_isCorner_86 : decode cX7_isCorner 86 = .ok (.if_icmp .le 22, 3) := by decide +kernel
theorem dX7_isCorner_89 : decode cX7_isCorner 89 = .ok (.aload_n 0, 1) := by decide +kernel
theorem dX7_isCorner_90 : decode cX7_isCorner 90 = .ok (.getfield 7, 3) := by decide +kernel
theorem dX7_isCorner_93 : decode cX7_isCorner 93 = .ok (.iconst 4, 1) := by decide +kernel
theorem dX7_isCorner_94 : decode cX7_isCorner 94 = .ok (.iload 6, 2) := by decide +kernel
theorem dX7_isCorner_96 : decode cX7_isCorner 96 = .ok (.iadd, 1) := by decide +kernel
theorem dX7_isCorner_97 : decode cX7_isCorner 97 = .ok (.iaload, 1) := by decide +kernel
theorem dX7_isCorner_98 : decode cX7_isCorner 98 = .ok (.iconst 1, 1) := by decide +kernel
theorem dX7_isCorner_99 : decode cX7_isCorner 99 = .ok (.isub, 1) := by decide +kernel
theorem dX7_isCorner_100 : decode cX7_isCorner 100 = .ok (.iload_n 3, 1) := by decide +kernel
theorem dX7_isCorner_101 : decode cX7_isCorner 101 = .ok (.if_icmp .ne 7, 3) := by decide +kernel
theorem dX7_isCorner_104 : decode cX7_isCorner 104 = .ok (.iconst 1, 1) := by decide +kernel
theorem dX7_isCorner_105 : decode cX7_isCorner 105 = .ok (.goto 4, 3) := by decide +kernel
theorem dX7_isCorner_108 : decode cX7_isCorner 108 = .ok (.iconst 0, 1) := by decide +kernel
theorem dX7_isCorner_109 : decode cX7_isCorner 109 = .ok (.istore 5, 2) := by decide +kernel
theorem dX7_isCorner_111 : decode cX7_isCorner 111 = .ok (.iinc 6 1, 3) := by decide +kernel
theorem dX7_isCorner_114 : decode cX7_isCorner 114 = .ok (.goto (-76), 3) := by decide +kernel
theorem dX7_isCorner_117 : decode cX7_isCorner 117 = .ok (.iload 4, 2) := by decide +kernel
theorem dX7_isCorner_119 : decode cX7_isCorner 119 = .ok (.ifCond .eq 8, 3) := by decide +kernel
theorem dX7_isCorner_122 : decode cX7_isCorner 122 = .ok (.iload 5, 2) := by decide +kernel
theorem dX7_isCorner_124 : decode cX7_isCorner 124 = .ok (.ifCond .ne 7, 3) := by decide +kernel
theorem dX7_isCorner_127 : decode cX7_isCorner 127 = .ok (.iconst 1, 1) := by decide +kernel
theorem dX7_isCorner_128 : decode cX7_isCorner 128 = .ok (.goto 4, 3) := by decide +kernel
theorem dX7_isCorner_131 : decode cX7_isCorner 131 = .ok (.iconst 0, 1) := by decide +kernel
theorem dX7_isCorner_132 : decode cX7_isCorner 132 = .ok (.ireturn, 1) := by decide +kernel
theorem dX7_holds_0 : decode cX7_holds 0 = .ok (.iconst 0, 1) := by decide +kernel
theorem dX7_holds_1 : decode cX7_holds 1 = .ok (.istore 4, 2) := by decide +kernel
theorem dX7_holds_3 : decode cX7_holds 3 = .ok (.iconst 0, 1) := by decide +kernel
theorem dX7_holds_4 : decode cX7_holds 4 = .ok (.istore 5, 2) := by decide +kernel
theorem dX7_holds_6 : decode cX7_holds 6 = .ok (.iload 5, 2) := by decide +kernel
theorem dX7_holds_8 : decode cX7_holds 8 = .ok (.iconst 3, 1) := by decide +kernel
theorem dX7_holds_9 : decode cX7_holds 9 = .ok (.if_icmp .ge 31, 3) := by decide +kernel
theorem dX7_holds_12 : decode cX7_holds 12 = .ok (.iload 4, 2) := by decide +kernel
theorem dX7_holds_14 : decode cX7_holds 14 = .ok (.aload_n 0, 1) := by decide +kernel
theorem dX7_holds_15 : decode cX7_holds 15 = .ok (.iload_n 1, 1) := by decide +kernel
theorem dX7_holds_16 : decode cX7_holds 16 = .ok (.iload 5, 2) := by decide +kernel
theorem dX7_holds_18 : decode cX7_holds 18 = .ok (.iload_n 3, 1) := by decide +kernel
theorem dX7_holds_19 : decode cX7_holds 19 = .ok (.invokevirtual 40, 3) := by decide +kernel
theorem dX7_holds_22 : decode cX7_holds 22 = .ok (.iconst 5, 1) := by decide +kernel
theorem dX7_holds_23 : decode cX7_holds 23 = .ok (.if_icmp .ne 7, 3) := by decide +kernel
theorem dX7_holds_26 : decode cX7_holds 26 = .ok (.iconst 1, 1) := by decide +kernel
theorem dX7_holds_27 : decode cX7_holds 27 = .ok (.goto 4, 3) := by decide +kernel
theorem dX7_holds_30 : decode cX7_holds 30 = .ok (.iconst 0, 1) := by decide +kernel
theorem dX7_holds_31 : decode cX7_holds 31 = .ok (.iadd, 1) := by decide +kernel
theorem dX7_holds_32 : decode cX7_holds 32 = .ok (.istore 4, 2) := by decide +kernel
theorem dX7_holds_34 : decode cX7_holds 34 = .ok (.iinc 5 1, 3) := by decide +kernel
theorem dX7_holds_37 : decode cX7_holds 37 = .ok (.goto (-31), 3) := by decide +kernel
theorem dX7_holds_40 : decode cX7_holds 40 = .ok (.iload_n 2, 1) := by decide +kernel
theorem dX7_holds_41 : decode cX7_holds 41 = .ok (.iconst 1, 1) := by decide +kernel
theorem dX7_holds_42 : decode cX7_holds 42 = .ok (.if_icmp .eq 32, 3) := by decide +kernel
theorem dX7_holds_45 : decode cX7_holds 45 = .ok (.iload 4, 2) := by decide +kernel
theorem dX7_holds_47 : decode cX7_holds 47 = .ok (.iload_n 2, 1) := by decide +kernel
theorem dX7_holds_48 : decode cX7_holds 48 = .ok (.ifCond .ne 7, 3) := by decide +kernel
theorem dX7_holds_51 : decode cX7_holds 51 = .ok (.iconst 1, 1) := by decide +kernel
theorem dX7_holds_52 : decode cX7_holds 52 = .ok (.goto 13, 3) := by decide +kernel
theorem dX7_holds_55 : decode cX7_holds 55 = .ok (.iload_n 2, 1) := by decide +kernel
theorem dX7_holds_56 : decode cX7_holds 56 = .ok (.iconst 2, 1) := by decide +kernel
theorem dX7_holds_57 : decode cX7_holds 57 = .ok (.if_icmp .ne 7, 3) := by decide +kernel
theorem dX7_holds_60 : decode cX7_holds 60 = .ok (.iconst 2, 1) := by decide +kernel
theorem dX7_holds_61 : decode cX7_holds 61 = .ok (.goto 4, 3) := by decide +kernel
theorem dX7_holds_64 : decode cX7_holds 64 = .ok (.iconst 3, 1) := by decide +kernel
theorem dX7_holds_65 : decode cX7_holds 65 = .ok (.if_icmp .lt 7, 3) := by decide +kernel
theorem dX7_holds_68 : decode cX7_holds 68 = .ok (.iconst 1, 1) := by decide +kernel
theorem dX7_holds_69 : decode cX7_holds 69 = .ok (.goto 4, 3) := by decide +kernel
theorem dX7_holds_72 : decode cX7_holds 72 = .ok (.iconst 0, 1) := by decide +kernel
theorem dX7_holds_73 : decode cX7_holds 73 = .ok (.ireturn, 1) := by decide +kernel
theorem dX7_holds_74 : decode cX7_holds 74 = .ok (.iconst 1, 1) := by decide +kernel
theorem dX7_holds_75 : decode cX7_holds 75 = .ok (.istore 5, 2) := by decide +kernel
theorem dX7_holds_77 : decode cX7_holds 77 = .ok (.iconst 1, 1) := by decide +kernel
theorem dX7_holds_78 : decode cX7_holds 78 = .ok (.istore 6, 2) := by decide +kernel
theorem dX7_holds_80 : decode cX7_holds 80 = .ok (.iload 6, 2) := by decide +kernel
theorem dX7_holds_82 : decode cX7_holds 82 = .ok (.bipush 90, 2) := by decide +kernel
theorem dX7_holds_84 : decode cX7_holds 84 = .ok (.if_icmp .gt 55, 3) := by decide +kernel
theorem dX7_holds_87 : decode cX7_holds 87 = .ok (.iload 5, 2) := by decide +kernel
theorem dX7_holds_89 : decode cX7_holds 89 = .ok (.ifCond .eq 41, 3) := by decide +kernel
theorem dX7_holds_92 : decode cX7_holds 92 = .ok (.aload_n 0, 1) := by decide +kernel
theorem dX7_holds_93 : decode cX7_holds 93 = .ok (.iload_n 1, 1) := by decide +kernel
theorem dX7_holds_94 : decode cX7_holds 94 = .ok (.iload 6, 2) := by decide +kernel
theorem dX7_holds_96 : decode cX7_holds 96 = .ok (.invokevirtual 96, 3) := by decide +kernel
theorem dX7_holds_99 : decode cX7_holds 99 = .ok (.ifCond .eq 27, 3) := by decide +kernel
theorem dX7_holds_102 : decode cX7_holds 102 = .ok (.aload_n 0, 1) := by decide +kernel
theorem dX7_holds_103 : decode cX7_holds 103 = .ok (.getfield 7, 3) := by decide +kernel
theorem dX7_holds_106 : decode cX7_holds 106 = .ok (.iload_n 3, 1) := by decide +kernel
theorem dX7_holds_107 : decode cX7_holds 107 = .ok (.iconst 1, 1) := by decide +kernel
theorem dX7_holds_108 : decode cX7_holds 108 = .ok (.if_icmp .ne 8, 3) := by decide +kernel
theorem dX7_holds_111 : decode cX7_holds 111 = .ok (.bipush 95, 2) := by decide +kernel
theorem dX7_holds_113 : decode cX7_holds 113 = .ok (.goto 6, 3) := by decide +kernel
theorem dX7_holds_116 : decode cX7_holds 116 = .ok (.sipush 186, 3) := by decide +kernel
theorem dX7_holds_119 : decode cX7_holds 119 = .ok (.iload 6, 2) := by decide +kernel
theorem dX7_holds_121 : decode cX7_holds 121 = .ok (.iadd, 1) := by decide +kernel
theorem dX7_holds_122 : decode cX7_holds 122 = .ok (.iaload, 1) := by decide +kernel
theorem dX7_holds_123 : decode cX7_holds 123 = .ok (.ifCond .le 7, 3) := by decide +kernel
theorem dX7_holds_126 : decode cX7_holds 126 = .ok (.iconst 1, 1) := by decide +kernel
theorem dX7_holds_127 : decode cX7_holds 127 = .ok (.goto 4, 3) := by decide +kernel
theorem dX7_holds_130 : decode cX7_holds 130 = .ok (.iconst 0, 1) := by decide +kernel
theorem dX7_holds_131 : decode cX7_holds 131 = .ok (.istore 5, 2) := by decide +kernel
theorem dX7_holds_133 : decode cX7_holds 133 = .ok (.iinc 6 1, 3) := by decide +kernel
theorem dX7_holds_136 : decode cX7_holds 136 = .ok (.goto (-56), 3) := by decide +kernel
theorem dX7_holds_139 : decode cX7_holds 139 = .ok (.iload 5, 2) := by decide +kernel
theorem dX7_holds_141 : decode cX7_holds 141 = .ok (.ireturn, 1) := by decide +kernel
theorem dX7_isByLast_0 : decode cX7_isByLast 0 = .ok (.aload_n 0, 1) := by decide +kernel
theorem dX7_isByLast_1 : decode cX7_isByLast 1 = .ok (.getfield 7, 3) := by decide +kernel
theorem dX7_isByLast_4 : decode cX7_isByLast 4 = .ok (.sipush 277, 3) := by decide +kernel
theorem dX7_isByLast_7 : decode cX7_isByLast 7 = .ok (.aload_n 0, 1) := by decide +kernel
theorem dX7_isByLast_8 : decode cX7_isByLast 8 = .ok (.getfield 7, 3) := by decide +kernel
theorem dX7_isByLast_11 : decode cX7_isByLast 11 = .ok (.sipush 457, 3) := by decide +kernel
theorem dX7_isByLast_14 : decode cX7_isByLast 14 = .ok (.iaload, 1) := by decide +kernel
theorem dX7_isByLast_15 : decode cX7_isByLast 15 = .ok (.iadd, 1) := by decide +kernel
theorem dX7_isByLast_16 : decode cX7_isByLast 16 = .ok (.iconst 1, 1) := by decide +kernel
theorem dX7_isByLast_17 : decode cX7_isByLast 17 = .ok (.isub, 1) := by decide +kernel
theorem dX7_isByLast_18 : decode cX7_isByLast 18 = .ok (.iaload, 1) := by decide +kernel
theorem dX7_isByLast_19 : decode cX7_isByLast 19 = .ok (.istore_n 3, 1) := by decide +kernel
theorem dX7_isByLast_20 : decode cX7_isByLast 20 = .ok (.aload_n 0, 1) := by decide +kernel
theorem dX7_isByLast_21 : decode cX7_isByLast 21 = .ok (.getfield 7, 3) := by decide +kernel
theorem dX7_isByLast_24 : decode cX7_isByLast 24 = .ok (.iconst 4, 1) := by decide +kernel
theorem dX7_isByLast_25 : decode cX7_isByLast 25 = .ok (.iload_n 3, 1) := by decide +kernel
theorem dX7_isByLast_26 : decode cX7_isByLast 26 = .ok (.iadd, 1) := by decide +kernel
theorem dX7_isByLast_27 : decode cX7_isByLast 27 = .ok (.iaload, 1) := by decide +kernel
theorem dX7_isByLast_28 : decode cX7_isByLast 28 = .ok (.iconst 1, 1) := by decide +kernel
theorem dX7_isByLast_29 : decode cX7_isByLast 29 = .ok (.isub, 1) := by decide +kernel
theorem dX7_isByLast_30 : decode cX7_isByLast 30 = .ok (.istore 4, 2) := by decide +kernel
theorem dX7_isByLast_32 : decode cX7_isByLast 32 = .ok (.iload 4, 2) := by decide +kernel
theorem dX7_isByLast_34 : decode cX7_isByLast 34 = .ok (.iconst 3, 1) := by decide +kernel
theorem dX7_isByLast_35 : decode cX7_isByLast 35 = .ok (.iload_n 1, 1) := by decide +kernel
theorem dX7_isByLast_36 : decode cX7_isByLast 36 = .ok (.imul, 1) := by decide +kernel
theorem dX7_isByLast_37 : decode cX7_isByLast 37 = .ok (.if_icmp .lt 17, 3) := by decide +kernel
theorem dX7_isByLast_40 : decode cX7_isByLast 40 = .ok (.iload 4, 2) := by decide +kernel
theorem dX7_isByLast_42 : decode cX7_isByLast 42 = .ok (.iconst 3, 1) := by decide +kernel
theorem dX7_isByLast_43 : decode cX7_isByLast 43 = .ok (.iload_n 1, 1) := by decide +kernel
theorem dX7_isByLast_44 : decode cX7_isByLast 44 = .ok (.imul, 1) := by decide +kernel
theorem dX7_isByLast_45 : decode cX7_isByLast 45 = .ok (.iconst 3, 1) := by decide +kernel
theorem dX7_isByLast_46 : decode cX7_isByLast 46 = .ok (.iadd, 1) := by decide +kernel
theorem dX7_isByLast_47 : decode cX7_isByLast 47 = .ok (.if_icmp .ge 7, 3) := by decide +kernel
theorem dX7_isByLast_50 : decode cX7_isByLast 50 = .ok (.iconst 1, 1) := by decide +kernel
theorem dX7_isByLast_51 : decode cX7_isByLast 51 = .ok (.goto 4, 3) := by decide +kernel
theorem dX7_isByLast_54 : decode cX7_isByLast 54 = .ok (.iconst 0, 1) := by decide +kernel
theorem dX7_isByLast_55 : decode cX7_isByLast 55 = .ok (.istore 5, 2) := by decide +kernel
theorem dX7_isByLast_57 : decode cX7_isByLast 57 = .ok (.iload_n 2, 1) := by decide +kernel
theorem dX7_isByLast_58 : decode cX7_isByLast 58 = .ok (.iconst 1, 1) := by decide +kernel
theorem dX7_isByLast_59 : decode cX7_isByLast 59 = .ok (.if_icmp .ne 12, 3) := by decide +kernel
theorem dX7_isByLast_62 : decode cX7_isByLast 62 = .ok (.aload_n 0, 1) := by decide +kernel
theorem dX7_isByLast_63 : decode cX7_isByLast 63 = .ok (.iload_n 1, 1) := by decide +kernel
theorem dX7_isByLast_64 : decode cX7_isByLast 64 = .ok (.iload_n 3, 1) := by decide +kernel
theorem dX7_isByLast_65 : decode cX7_isByLast 65 = .ok (.invokevirtual 96, 3) := by decide +kernel
theorem dX7_isByLast_68 : decode cX7_isByLast 68 = .ok (.goto 32, 3) := by decide +kernel
theorem dX7_isByLast_71 : decode cX7_isByLast 71 = .ok (.iload 5, 2) := by decide +kernel
theorem dX7_isByLast_73 : decode cX7_isByLast 73 = .ok (.ifCond .eq 26, 3) := by decide +kernel
theorem dX7_isByLast_76 : decode cX7_isByLast 76 = .ok (.iload_n 2, 1) := by decide +kernel
theorem dX7_isByLast_77 : decode cX7_isByLast 77 = .ok (.iconst 3, 1) := by decide +kernel
theorem dX7_isByLast_78 : decode cX7_isByLast 78 = .ok (.if_icmp .eq 17, 3) := by decide +kernel
theorem dX7_isByLast_81 : decode cX7_isByLast 81 = .ok (.aload_n 0, 1) := by decide +kernel
theorem dX7_isByLast_82 : decode cX7_isByLast 82 = .ok (.iload_n 1, 1) := by decide +kernel
theorem dX7_isByLast_83 : decode cX7_isByLast 83 = .ok (.iload 4, 2) := by decide +kernel
theorem dX7_isByLast_85 : decode cX7_isByLast 85 = .ok (.iconst 3, 1) := by decide +kernel
theorem dX7_isByLast_86 : decode cX7_isByLast 86 = .ok (.irem, 1) := by decide +kernel
theorem dX7_isByLast_87 : decode cX7_isByLast 87 = .ok (.iconst 1, 1) := by decide +kernel
theorem dX7_isByLast_88 : decode cX7_isByLast 88 = .ok (.invokevirtual 40, 3) := by decide +kernel
theorem dX7_isByLast_91 : decode cX7_isByLast 91 = .ok (.iconst 5, 1) := by decide +kernel
theorem dX7_isByLast_92 : decode cX7_isByLast 92 = .ok (.if_icmp .ne 7, 3) := by decide +kernel
theorem dX7_isByLast_95 : decode cX7_isByLast 95 = .ok (.iconst 1, 1) := by decide +kernel
theorem dX7_isByLast_96 : decode cX7_isByLast 96 = .ok (.goto 4, 3) := by decide +kernel
theorem dX7_isByLast_99 : decode cX7_isByLast 99 = .ok (.iconst 0, 1) := by decide +kernel
theorem dX7_isByLast_100 : decode cX7_isByLast 100 = .ok (.ireturn, 1) := by decide +kernel
theorem dX7_why_0 : decode cX7_why 0 = .ok (.aload_n 0, 1) := by decide +kernel
theorem dX7_why_1 : decode cX7_why 1 = .ok (.getfield 7, 3) := by decide +kernel
theorem dX7_why_4 : decode cX7_why 4 = .ok (.sipush 482, 3) := by decide +kernel
theorem dX7_why_7 : decode cX7_why 7 = .ok (.iload_n 2, 1) := by decide +kernel
theorem dX7_why_8 : decode cX7_why 8 = .ok (.iadd, 1) := by decide +kernel
theorem dX7_why_9 : decode cX7_why 9 = .ok (.iaload, 1) := by decide +kernel
theorem dX7_why_10 : decode cX7_why 10 = .ok (.ifCond .le 26, 3) := by decide +kernel
theorem dX7_why_13 : decode cX7_why 13 = .ok (.aload_n 0, 1) := by decide +kernel
theorem dX7_why_14 : decode cX7_why 14 = .ok (.getfield 7, 3) := by decide +kernel
theorem dX7_why_17 : decode cX7_why 17 = .ok (.sipush 482, 3) := by decide +kernel
theorem dX7_why_20 : decode cX7_why 20 = .ok (.iload_n 2, 1) := by decide +kernel
theorem dX7_why_21 : decode cX7_why 21 = .ok (.iadd, 1) := by decide +kernel
theorem dX7_why_22 : decode cX7_why 22 = .ok (.iaload, 1) := by decide +kernel
theorem dX7_why_23 : decode cX7_why 23 = .ok (.aload_n 0, 1) := by decide +kernel
theorem dX7_why_24 : decode cX7_why 24 = .ok (.getfield 7, 3) := by decide +kernel
theorem dX7_why_27 : decode cX7_why 27 = .ok (.sipush 457, 3) := by decide +kernel
theorem dX7_why_30 : decode cX7_why 30 = .ok (.iaload, 1) := by decide +kernel
theorem dX7_why_31 : decode cX7_why 31 = .ok (.if_icmp .ge 5, 3) := by decide +kernel
theorem dX7_why_34 : decode cX7_why 34 = .ok (.iconst 1, 1) := by decide +kernel
theorem dX7_why_35 : decode cX7_why 35 = .ok (.ireturn, 1) := by decide +kernel
theorem dX7_why_36 : decode cX7_why 36 = .ok (.aload_n 0, 1) := by decide +kernel
theorem dX7_why_37 : decode cX7_why 37 = .ok (.getfield 7, 3) := by decide +kernel
theorem dX7_why_40 : decode cX7_why 40 = .ok (.sipush 464, 3) := by decide +kernel
theorem dX7_why_43 : decode cX7_why 43 = .ok (.iload_n 1, 1) := by decide +kernel
theorem dX7_why_44 : decode cX7_why 44 = .ok (.iadd, 1) := by decide +kernel
theorem dX7_why_45 : decode cX7_why 45 = .ok (.iaload, 1) := by decide +kernel
theorem dX7_why_46 : decode cX7_why 46 = .ok (.iload_n 2, 1) := by decide +kernel
theorem dX7_why_47 : decode cX7_why 47 = .ok (.ishr, 1) := by decide +kernel
theorem dX7_why_48 : decode cX7_why 48 = .ok (.iconst 1, 1) := by decide +kernel
theorem dX7_why_49 : decode cX7_why 49 = .ok (.iand, 1) := by decide +kernel
theorem dX7_why_50 : decode cX7_why 50 = .ok (.iconst 1, 1) := by decide +kernel
theorem dX7_why_51 : decode cX7_why 51 = .ok (.if_icmp .ne 5, 3) := by decide +kernel
theorem dX7_why_54 : decode cX7_why 54 = .ok (.iconst 2, 1) := by decide +kernel
theorem dX7_why_55 : decode cX7_why 55 = .ok (.ireturn, 1) := by decide +kernel
theorem dX7_why_56 : decode cX7_why 56 = .ok (.aload_n 0, 1) := by decide +kernel
theorem dX7_why_57 : decode cX7_why 57 = .ok (.iload_n 1, 1) := by decide +kernel
theorem dX7_why_58 : decode cX7_why 58 = .ok (.iload_n 2, 1) := by decide +kernel
theorem dX7_why_59 : decode cX7_why 59 = .ok (.iconst 1, 1) := by decide +kernel
theorem dX7_why_60 : decode cX7_why 60 = .ok (.invokevirtual 100, 3) := by decide +kernel
theorem dX7_why_63 : decode cX7_why 63 = .ok (.ifCond .ne 19, 3) := by decide +kernel
theorem dX7_why_66 : decode cX7_why 66 = .ok (.aload_n 0, 1) := by decide +kernel
theorem dX7_why_67 : decode cX7_why 67 = .ok (.iload_n 1, 1) := by decide +kernel
theorem dX7_why_68 : decode cX7_why 68 = .ok (.iload_n 2, 1) := by decide +kernel
theorem dX7_why_69 : decode cX7_why 69 = .ok (.iconst 2, 1) := by decide +kernel
theorem dX7_why_70 : decode cX7_why 70 = .ok (.invokevirtual 100, 3) := by decide +kernel
theorem dX7_why_73 : decode cX7_why 73 = .ok (.ifCond .eq 7, 3) := by decide +kernel
theorem dX7_why_76 : decode cX7_why 76 = .ok (.iconst 3, 1) := by decide +kernel
theorem dX7_why_77 : decode cX7_why 77 = .ok (.goto 4, 3) := by decide +kernel
theorem dX7_why_80 : decode cX7_why 80 = .ok (.iconst 4, 1) := by decide +kernel
theorem dX7_why_81 : decode cX7_why 81 = .ok (.ireturn, 1) := by decide +kernel
theorem dX7_why_82 : decode cX7_why 82 = .ok (.aload_n 0, 1) := by decide +kernel
theorem dX7_why_83 : decode cX7_why 83 = .ok (.getfield 7, 3) := by decide +kernel
theorem dX7_why_86 : decode cX7_why 86 = .ok (.iconst 2, 1) := by decide +kernel
theorem dX7_why_87 : decode cX7_why 87 = .ok (.iaload, 1) := by decide +kernel
theorem dX7_why_88 : decode cX7_why 88 = .ok (.iconst 1, 1) := by decide +kernel
theorem dX7_why_89 : decode cX7_why 89 = .ok (.if_icmp .ne 16, 3) := by decide +kernel
theorem dX7_why_92 : decode cX7_why 92 = .ok (.aload_n 0, 1) := by decide +kernel
theorem dX7_why_93 : decode cX7_why 93 = .ok (.iload_n 1, 1) := by decide +kernel
theorem dX7_why_94 : decode cX7_why 94 = .ok (.iload_n 2, 1) := by decide +kernel
theorem dX7_why_95 : decode cX7_why 95 = .ok (.invokevirtual 103, 3) := by decide +kernel
theorem dX7_why_98 : decode cX7_why 98 = .ok (.ifCond .ne 7, 3) := by decide +kernel
theorem dX7_why_101 : decode cX7_why 101 = .ok (.iconst 5, 1) := by decide +kernel
theorem dX7_why_102 : decode cX7_why 102 = .ok (.goto 4, 3) := by decide +kernel
theorem dX7_why_105 : decode cX7_why 105 = .ok (.iconst 0, 1) := by decide +kernel
theorem dX7_why_106 : decode cX7_why 106 = .ok (.ireturn, 1) := by decide +kernel
theorem dX7_claims_0 : decode cX7_claims 0 = .ok (.aload_n 0, 1) := by decide +kernel
theorem dX7_claims_1 : decode cX7_claims 1 = .ok (.iload_n 1, 1) := by decide +kernel
theorem dX7_claims_2 : decode cX7_claims 2 = .ok (.iload_n 2, 1) := by decide +kernel
theorem dX7_claims_3 : decode cX7_claims 3 = .ok (.invokevirtual 106, 3) := by decide +kernel
theorem dX7_claims_6 : decode cX7_claims 6 = .ok (.istore_n 3, 1) := by decide +kernel
theorem dX7_claims_7 : decode cX7_claims 7 = .ok (.iload_n 3, 1) := by decide +kernel
theorem dX7_claims_8 : decode cX7_claims 8 = .ok (.ifCond .le 32, 3) := by decide +kernel
theorem dX7_claims_11 : decode cX7_claims 11 = .ok (.aload_n 0, 1) := by decide +kernel
theorem dX7_claims_12 : decode cX7_claims 12 = .ok (.getfield 7, 3) := by decide +kernel
theorem dX7_claims_15 : decode cX7_claims 15 = .ok (.sipush 491, 3) := by decide +kernel
theorem dX7_claims_18 : decode cX7_claims 18 = .ok (.dup2, 1) := by decide +kernel
theorem dX7_claims_19 : decode cX7_claims 19 = .ok (.iaload, 1) := by decide +kernel
theorem dX7_claims_20 : decode cX7_claims 20 = .ok (.iconst 1, 1) := by decide +kernel
theorem dX7_claims_21 : decode cX7_claims 21 = .ok (.iadd, 1) := by decide +kernel
theorem dX7_claims_22 : decode cX7_claims 22 = .ok (.iastore, 1) := by decide +kernel
theorem dX7_claims_23 : decode cX7_claims 23 = .ok (.aload_n 0, 1) := by decide +kernel
theorem dX7_claims_24 : decode cX7_claims 24 = .ok (.getfield 7, 3) := by decide +kernel
theorem dX7_claims_27 : decode cX7_claims 27 = .ok (.sipush 476, 3) := by decide +kernel
theorem dX7_claims_30 : decode cX7_claims 30 = .ok (.iload_n 1, 1) := by decide +kernel
theorem dX7_claims_31 : decode cX7_claims 31 = .ok (.iadd, 1) := by decide +kernel
theorem dX7_claims_32 : decode cX7_claims 32 = .ok (.dup2, 1) := by decide +kernel
theorem dX7_claims_33 : decode cX7_claims 33 = .ok (.iaload, 1) := by decide +kernel
theorem dX7_claims_34 : decode cX7_claims 34 = .ok (.iconst 1, 1) := by decide +kernel
theorem dX7_claims_35 : decode cX7_claims 35 = .ok (.iadd, 1) := by decide +kernel
theorem dX7_claims_36 : decode cX7_claims 36 = .ok (.iastore, 1) := by decide +kernel
theorem dX7_claims_37 : decode cX7_claims 37 = .ok (.goto 49, 3) := by decide +kernel
theorem dX7_claims_40 : decode cX7_claims 40 = .ok (.aload_n 0, 1) := by decide +kernel
theorem dX7_claims_41 : decode cX7_claims 41 = .ok (.getfield 7, 3) := by decide +kernel
theorem dX7_claims_44 : decode cX7_claims 44 = .ok (.sipush 490, 3) := by decide +kernel
theorem dX7_claims_47 : decode cX7_claims 47 = .ok (.dup2, 1) := by decide +kernel
theorem dX7_claims_48 : decode cX7_claims 48 = .ok (.iaload, 1) := by decide +kernel
theorem dX7_claims_49 : decode cX7_claims 49 = .ok (.iconst 1, 1) := by decide +kernel
theorem dX7_claims_50 : decode cX7_claims 50 = .ok (.iadd, 1) := by decide +kernel
theorem dX7_claims_51 : decode cX7_claims 51 = .ok (.iastore, 1) := by decide +kernel
theorem dX7_claims_52 : decode cX7_claims 52 = .ok (.aload_n 0, 1) := by decide +kernel
theorem dX7_claims_53 : decode cX7_claims 53 = .ok (.getfield 7, 3) := by decide +kernel
theorem dX7_claims_56 : decode cX7_claims 56 = .ok (.sipush 464, 3) := by decide +kernel
theorem dX7_claims_59 : decode cX7_claims 59 = .ok (.iload_n 1, 1) := by decide +kernel
theorem dX7_claims_60 : decode cX7_claims 60 = .ok (.iadd, 1) := by decide +kernel
theorem dX7_claims_61 : decode cX7_claims 61 = .ok (.dup2, 1) := by decide +kernel
theorem dX7_claims_62 : decode cX7_claims 62 = .ok (.iaload, 1) := by decide +kernel
theorem dX7_claims_63 : decode cX7_claims 63 = .ok (.iconst 1, 1) := by decide +kernel
theorem dX7_claims_64 : decode cX7_claims 64 = .ok (.iload_n 2, 1) := by decide +kernel
theorem dX7_claims_65 : decode cX7_claims 65 = .ok (.ishl, 1) := by decide +kernel
theorem dX7_claims_66 : decode cX7_claims 66 = .ok (.ior, 1) := by decide +kernel
theorem dX7_claims_67 : decode cX7_claims 67 = .ok (.iastore, 1) := by decide +kernel
theorem dX7_claims_68 : decode cX7_claims 68 = .ok (.aload_n 0, 1) := by decide +kernel
theorem dX7_claims_69 : decode cX7_claims 69 = .ok (.getfield 7, 3) := by decide +kernel
theorem dX7_claims_72 : decode cX7_claims 72 = .ok (.sipush 482, 3) := by decide +kernel
theorem dX7_claims_75 : decode cX7_claims 75 = .ok (.iload_n 2, 1) := by decide +kernel
theorem dX7_claims_76 : decode cX7_claims 76 = .ok (.iadd, 1) := by decide +kernel
theorem dX7_claims_77 : decode cX7_claims 77 = .ok (.aload_n 0, 1) := by decide +kernel
theorem dX7_claims_78 : decode cX7_claims 78 = .ok (.getfield 7, 3) := by decide +kernel
theorem dX7_claims_81 : decode cX7_claims 81 = .ok (.sipush 457, 3) := by decide +kernel
theorem dX7_claims_84 : decode cX7_claims 84 = .ok (.iaload, 1) := by decide +kernel
theorem dX7_claims_85 : decode cX7_claims 85 = .ok (.iastore, 1) := by decide +kernel
theorem dX7_claims_86 : decode cX7_claims 86 = .ok (.iload_n 3, 1) := by decide +kernel
theorem dX7_claims_87 : decode cX7_claims 87 = .ok (.ireturn, 1) := by decide +kernel
theorem dX7_claim_0 : decode cX7_claim 0 = .ok (.iload_n 1, 1) := by decide +kernel
theorem dX7_claim_1 : decode cX7_claim 1 = .ok (.invokestatic 50, 3) := by decide +kernel
theorem dX7_claim_4 : decode cX7_claim 4 = .ok (.ifCond .eq 16, 3) := by decide +kernel
theorem dX7_claim_7 : decode cX7_claim 7 = .ok (.iload_n 2, 1) := by decide +kernel
theorem dX7_claim_8 : decode cX7_claim 8 = .ok (.iconst 0, 1) := by decide +kernel
theorem dX7_claim_9 : decode cX7_claim 9 = .ok (.iconst 3, 1) := by decide +kernel
theorem dX7_claim_10 : decode cX7_claim 10 = .ok (.invokestatic 32, 3) := by decide +kernel
theorem dX7_claim_13 : decode cX7_claim 13 = .ok (.ifCond .eq 7, 3) := by decide +kernel
theorem dX7_claim_16 : decode cX7_claim 16 = .ok (.iconst 1, 1) := by decide +kernel
theorem dX7_claim_17 : decode cX7_claim 17 = .ok (.goto 4, 3) := by decide +kernel
theorem dX7_claim_20 : decode cX7_claim 20 = .ok (.iconst 0, 1) := by decide +kernel
theorem dX7_claim_21 : decode cX7_claim 21 = .ok (.istore_n 3, 1) := by decide +kernel
theorem dX7_claim_22 : decode cX7_claim 22 = .ok (.aload_n 0, 1) := by decide +kernel
theorem dX7_claim_23 : decode cX7_claim 23 = .ok (.iload_n 3, 1) := by decide +kernel
theorem dX7_claim_24 : decode cX7_claim 24 = .ok (.iload_n 3, 1) := by decide +kernel
theorem dX7_claim_25 : decode cX7_claim 25 = .ok (.ifCond .eq 21, 3) := by decide +kernel
theorem dX7_claim_28 : decode cX7_claim 28 = .ok (.aload_n 0, 1) := by decide +kernel
theorem dX7_claim_29 : decode cX7_claim 29 = .ok (.getfield 7, 3) := by decide +kernel
theorem dX7_claim_32 : decode cX7_claim 32 = .ok (.sipush 458, 3) := by decide +kernel
theorem dX7_claim_35 : decode cX7_claim 35 = .ok (.iload_n 1, 1) := by decide +kernel
theorem dX7_claim_36 : decode cX7_claim 36 = .ok (.iadd, 1) := by decide +kernel
theorem dX7_claim_37 : decode cX7_claim 37 = .ok (.iaload, 1) := by decide +kernel
theorem dX7_claim_38 : decode cX7_claim 38 = .ok (.iconst 1, 1) := by decide +kernel
theorem dX7_claim_39 : decode cX7_claim 39 = .ok (.if_icmp .ne 7, 3) := by decide +kernel
theorem dX7_claim_42 : decode cX7_claim 42 = .ok (.iconst 1, 1) := by decide +kernel
theorem dX7_claim_43 : decode cX7_claim 43 = .ok (.goto 4, 3) := by decide +kernel
theorem dX7_claim_46 : decode cX7_claim 46 = .ok (.iconst 0, 1) := by decide +kernel
theorem dX7_claim_47 : decode cX7_claim 47 = .ok (.iconst 1, 1) := by decide +kernel
theorem dX7_claim_48 : decode cX7_claim 48 = .ok (.invokevirtual 60, 3) := by decide +kernel
theorem dX7_claim_51 : decode cX7_claim 51 = .ok (.ifCond .ne 5, 3) := by decide +kernel
theorem dX7_claim_54 : decode cX7_claim 54 = .ok (.iconst 0, 1) := by decide +kernel
theorem dX7_claim_55 : decode cX7_claim 55 = .ok (.ireturn, 1) := by decide +kernel
theorem dX7_claim_56 : decode cX7_claim 56 = .ok (.aload_n 0, 1) := by decide +kernel
theorem dX7_claim_57 : decode cX7_claim 57 = .ok (.invokevirtual 64, 3) := by decide +kernel
theorem dX7_claim_60 : decode cX7_claim 60 = .ok (.aload_n 0, 1) := by decide +kernel
theorem dX7_claim_61 : decode cX7_claim 61 = .ok (.iload_n 1, 1) := by decide +kernel
theorem dX7_claim_62 : decode cX7_claim 62 = .ok (.iload_n 2, 1) := by decide +kernel
theorem dX7_claim_63 : decode cX7_claim 63 = .ok (.invokevirtual 109, 3) := by decide +kernel
theorem dX7_claim_66 : decode cX7_claim 66 = .ok (.ireturn, 1) := by decide +kernel
theorem dX7_winners_0 : decode cX7_winners 0 = .ok (.iconst 0, 1) := by decide +kernel
theorem dX7_winners_1 : decode cX7_winners 1 = .ok (.istore_n 2, 1) := by decide +kernel
theorem dX7_winners_2 : decode cX7_winners 2 = .ok (.iconst 0, 1) := by decide +kernel
theorem dX7_winners_3 : decode cX7_winners 3 = .ok (.istore_n 3, 1) := by decide +kernel
theorem dX7_winners_4 : decode cX7_winners 4 = .ok (.iload_n 3, 1) := by decide +kernel
theorem dX7_winners_5 : decode cX7_winners 5 = .ok (.bipush 6, 2) := by decide +kernel
theorem dX7_winners_7 : decode cX7_winners 7 = .ok (.if_icmp .ge 28, 3) := by decide +kernel
theorem dX7_winners_10 : decode cX7_winners 10 = .ok (.iload_n 2, 1) := by decide +kernel
theorem dX7_winners_11 : decode cX7_winners 11 = .ok (.aload_n 0, 1) := by decide +kernel
theorem dX7_winners_12 : decode cX7_winners 12 = .ok (.getfield 7, 3) := by decide +kernel
theorem dX7_winners_15 : decode cX7_winners 15 = .ok (.sipush 464, 3) := by decide +kernel
theorem dX7_winners_18 : decode cX7_winners 18 = .ok (.iload_n 3, 1) := by decide +kernel
theorem dX7_winners_19 : decode cX7_winners 19 = .ok (.iadd, 1) := by decide +kernel
theorem dX7_winners_20 : decode cX7_winners 20 = .ok (.iaload, 1) := by decide +kernel
theorem dX7_winners_21 : decode cX7_winners 21 = .ok (.iload_n 1, 1) := by decide +kernel
theorem dX7_winners_22 : decode cX7_winners 22 = .ok (.ishr, 1) := by decide +kernel
theorem dX7_winners_23 : decode cX7_winners 23 = .ok (.iconst 1, 1) := by decide +kernel
theorem dX7_winners_24 : decode cX7_winners 24 = .ok (.iand, 1) := by decide +kernel
theorem dX7_winners_25 : decode cX7_winners 25 = .ok (.iload_n 3, 1) := by decide +kernel
theorem dX7_winners_26 : decode cX7_winners 26 = .ok (.ishl, 1) := by decide +kernel
theorem dX7_winners_27 : decode cX7_winners 27 = .ok (.ior, 1) := by decide +kernel
theorem dX7_winners_28 : decode cX7_winners 28 = .ok (.istore_n 2, 1) := by decide +kernel
theorem dX7_winners_29 : decode cX7_winners 29 = .ok (.iinc 3 1, 3) := by decide +kernel
theorem dX7_winners_32 : decode cX7_winners 32 = .ok (.goto (-28), 3) := by decide +kernel
theorem dX7_winners_35 : decode cX7_winners 35 = .ok (.iload_n 2, 1) := by decide +kernel
theorem dX7_winners_36 : decode cX7_winners 36 = .ok (.ireturn, 1) := by decide +kernel
theorem dX7_bits_0 : decode cX7_bits 0 = .ok (.iconst 0, 1) := by decide +kernel
theorem dX7_bits_1 : decode cX7_bits 1 = .ok (.istore_n 1, 1) := by decide +kernel
theorem dX7_bits_2 : decode cX7_bits 2 = .ok (.iconst 0, 1) := by decide +kernel
theorem dX7_bits_3 : decode cX7_bits 3 = .ok (.istore_n 2, 1) := by decide +kernel
theorem dX7_bits_4 : decode cX7_bits 4 = .ok (.iload_n 2, 1) := by decide +kernel
theorem dX7_bits_5 : decode cX7_bits 5 = .ok (.bipush 6, 2) := by decide +kernel
theorem dX7_bits_7 : decode cX7_bits 7 = .ok (.if_icmp .ge 17, 3) := by decide +kernel
theorem dX7_bits_10 : decode cX7_bits 10 = .ok (.iload_n 1, 1) := by decide +kernel
theorem dX7_bits_11 : decode cX7_bits 11 = .ok (.iload_n 0, 1) := by decide +kernel
theorem dX7_bits_12 : decode cX7_bits 12 = .ok (.iload_n 2, 1) := by decide +kernel
theorem dX7_bits_13 : decode cX7_bits 13 = .ok (.ishr, 1) := by decide +kernel
theorem dX7_bits_14 : decode cX7_bits 14 = .ok (.iconst 1, 1) := by decide +kernel
theorem dX7_bits_15 : decode cX7_bits 15 = .ok (.iand, 1) := by decide +kernel
theorem dX7_bits_16 : decode cX7_bits 16 = .ok (.iadd, 1) := by decide +kernel
theorem dX7_bits_17 : decode cX7_bits 17 = .ok (.istore_n 1, 1) := by decide +kernel
theorem dX7_bits_18 : decode cX7_bits 18 = .ok (.iinc 2 1, 3) := by decide +kernel
theorem dX7_bits_21 : decode cX7_bits 21 = .ok (.goto (-17), 3) := by decide +kernel
theorem dX7_bits_24 : decode cX7_bits 24 = .ok (.iload_n 1, 1) := by decide +kernel
theorem dX7_bits_25 : decode cX7_bits 25 = .ok (.ireturn, 1) := by decide +kernel
theorem dX7_each_0 : decode cX7_each 0 = .ok (.aload_n 0, 1) := by decide +kernel
theorem dX7_each_1 : decode cX7_each 1 = .ok (.iload_n 1, 1) := by decide +kernel
theorem dX7_each_2 : decode cX7_each 2 = .ok (.invokevirtual 112, 3) := by decide +kernel
theorem dX7_each_5 : decode cX7_each 5 = .ok (.invokestatic 115, 3) := by decide +kernel
theorem dX7_each_8 : decode cX7_each 8 = .ok (.istore_n 2, 1) := by decide +kernel
theorem dX7_each_9 : decode cX7_each 9 = .ok (.iload_n 1, 1) := by decide +kernel
theorem dX7_each_10 : decode cX7_each 10 = .ok (.iconst 2, 1) := by decide +kernel
theorem dX7_each_11 : decode cX7_each 11 = .ok (.if_icmp .ge 8, 3) := by decide +kernel
theorem dX7_each_14 : decode cX7_each 14 = .ok (.bipush 10, 2) := by decide +kernel
theorem dX7_each_16 : decode cX7_each 16 = .ok (.goto 15, 3) := by decide +kernel
theorem dX7_each_19 : decode cX7_each 19 = .ok (.iload_n 1, 1) := by decide +kernel
theorem dX7_each_20 : decode cX7_each 20 = .ok (.iconst 2, 1) := by decide +kernel
theorem dX7_each_21 : decode cX7_each 21 = .ok (.if_icmp .ne 8, 3) := by decide +kernel
theorem dX7_each_24 : decode cX7_each 24 = .ok (.bipush 20, 2) := by decide +kernel
theorem dX7_each_26 : decode cX7_each 26 = .ok (.goto 5, 3) := by decide +kernel
theorem dX7_each_29 : decode cX7_each 29 = .ok (.bipush 40, 2) := by decide +kernel
theorem dX7_each_31 : decode cX7_each 31 = .ok (.istore_n 3, 1) := by decide +kernel
theorem dX7_each_32 : decode cX7_each 32 = .ok (.iload_n 2, 1) := by decide +kernel
theorem dX7_each_33 : decode cX7_each 33 = .ok (.ifCond .ne 7, 3) := by decide +kernel
theorem dX7_each_36 : decode cX7_each 36 = .ok (.iconst 0, 1) := by decide +kernel
theorem dX7_each_37 : decode cX7_each 37 = .ok (.goto 18, 3) := by decide +kernel
theorem dX7_each_40 : decode cX7_each 40 = .ok (.aload_n 0, 1) := by decide +kernel
theorem dX7_each_41 : decode cX7_each 41 = .ok (.getfield 7, 3) := by decide +kernel
theorem dX7_each_44 : decode cX7_each 44 = .ok (.sipush 486, 3) := by decide +kernel
theorem dX7_each_47 : decode cX7_each 47 = .ok (.iaload, 1) := by decide +kernel
theorem dX7_each_48 : decode cX7_each 48 = .ok (.iload_n 3, 1) := by decide +kernel
theorem dX7_each_49 : decode cX7_each 49 = .ok (.imul, 1) := by decide +kernel
theorem dX7_each_50 : decode cX7_each 50 = .ok (.bipush 100, 2) := by decide +kernel
theorem dX7_each_52 : decode cX7_each 52 = .ok (.idiv, 1) := by decide +kernel
theorem dX7_each_53 : decode cX7_each 53 = .ok (.iload_n 2, 1) := by decide +kernel
theorem dX7_each_54 : decode cX7_each 54 = .ok (.idiv, 1) := by decide +kernel
theorem dX7_each_55 : decode cX7_each 55 = .ok (.ireturn, 1) := by decide +kernel
theorem dX7_end_0 : decode cX7_end 0 = .ok (.aload_n 0, 1) := by decide +kernel
theorem dX7_end_1 : decode cX7_end 1 = .ok (.iconst 0, 1) := by decide +kernel
theorem dX7_end_2 : decode cX7_end 2 = .ok (.putfield 21, 3) := by decide +kernel
theorem dX7_end_5 : decode cX7_end 5 = .ok (.aload_n 0, 1) := by decide +kernel
theorem dX7_end_6 : decode cX7_end 6 = .ok (.invokevirtual 64, 3) := by decide +kernel
theorem dX7_end_9 : decode cX7_end 9 = .ok (.iconst 0, 1) := by decide +kernel
theorem dX7_end_10 : decode cX7_end 10 = .ok (.istore_n 1, 1) := by decide +kernel
theorem dX7_end_11 : decode cX7_end 11 = .ok (.iconst 0, 1) := by decide +kernel
theorem dX7_end_12 : decode cX7_end 12 = .ok (.istore_n 2, 1) := by decide +kernel
theorem dX7_end_13 : decode cX7_end 13 = .ok (.iload_n 2, 1) := by decide +kernel
theorem dX7_end_14 : decode cX7_end 14 = .ok (.iconst 4, 1) := by decide +kernel
theorem dX7_end_15 : decode cX7_end 15 = .ok (.if_icmp .ge 67, 3) := by decide +kernel
theorem dX7_end_18 : decode cX7_end 18 = .ok (.iconst 0, 1) := by decide +kernel
theorem dX7_end_19 : decode cX7_end 19 = .ok (.istore_n 3, 1) := by decide +kernel
theorem dX7_end_20 : decode cX7_end 20 = .ok (.iload_n 3, 1) := by decide +kernel
theorem dX7_end_21 : decode cX7_end 21 = .ok (.bipush 6, 2) := by decide +kernel
theorem dX7_end_23 : decode cX7_end 23 = .ok (.if_icmp .ge 53, 3) := by decide +kernel
theorem dX7_end_26 : decode cX7_end 26 = .ok (.aload_n 0, 1) := by decide +kernel
theorem dX7_end_27 : decode cX7_end 27 = .ok (.iload_n 2, 1) := by decide +kernel
theorem dX7_end_28 : decode cX7_end 28 = .ok (.invokevirtual 112, 3) := by decide +kernel
theorem dX7_end_31 : decode cX7_end 31 = .ok (.iload_n 3, 1) := by decide +kernel
theorem dX7_end_32 : decode cX7_end 32 = .ok (.ishr, 1) := by decide +kernel
theorem dX7_end_33 : decode cX7_end 33 = .ok (.iconst 1, 1) := by decide +kernel
theorem dX7_end_34 : decode cX7_end 34 = .ok (.iand, 1) := by decide +kernel
theorem dX7_end_35 : decode cX7_end 35 = .ok (.iconst 1, 1) := by decide +kernel
theorem dX7_end_36 : decode cX7_end 36 = .ok (.if_icmp .ne 11, 3) := by decide +kernel
theorem dX7_end_39 : decode cX7_end 39 = .ok (.aload_n 0, 1) := by decide +kernel
theorem dX7_end_40 : decode cX7_end 40 = .ok (.iload_n 2, 1) := by decide +kernel
theorem dX7_end_41 : decode cX7_end 41 = .ok (.invokevirtual 118, 3) := by decide +kernel
theorem dX7_end_44 : decode cX7_end 44 = .ok (.goto 4, 3) := by decide +kernel
theorem dX7_end_47 : decode cX7_end 47 = .ok (.iconst 0, 1) := by decide +kernel
theorem dX7_end_48 : decode cX7_end 48 = .ok (.istore 4, 2) := by decide +kernel
theorem dX7_end_50 : decode cX7_end 50 = .ok (.aload_n 0, 1) := by decide +kernel
theorem dX7_end_51 : decode cX7_end 51 = .ok (.getfield 7, 3) := by decide +kernel
theorem dX7_end_54 : decode cX7_end 54 = .ok (.sipush 470, 3) := by decide +kernel
theorem dX7_end_57 : decode cX7_end 57 = .ok (.iload_n 3, 1) := by decide +kernel
theorem dX7_end_58 : decode cX7_end 58 = .ok (.iadd, 1) := by decide +kernel
theorem dX7_end_59 : decode cX7_end 59 = .ok (.dup2, 1) := by decide +kernel
theorem dX7_end_60 : decode cX7_end 60 = .ok (.iaload, 1) := by decide +kernel
theorem dX7_end_61 : decode cX7_end 61 = .ok (.iload 4, 2) := by decide +kernel
theorem dX7_end_63 : decode cX7_end 63 = .ok (.iadd, 1) := by decide +kernel
theorem dX7_end_64 : decode cX7_end 64 = .ok (.iastore, 1) := by decide +kernel
theorem dX7_end_65 : decode cX7_end 65 = .ok (.iload_n 1, 1) := by decide +kernel
theorem dX7_end_66 : decode cX7_end 66 = .ok (.iload 4, 2) := by decide +kernel
theorem dX7_end_68 : decode cX7_end 68 = .ok (.iadd, 1) := by decide +kernel
theorem dX7_end_69 : decode cX7_end 69 = .ok (.istore_n 1, 1) := by decide +kernel
theorem dX7_end_70 : decode cX7_end 70 = .ok (.iinc 3 1, 3) := by decide +kernel
theorem dX7_end_73 : decode cX7_end 73 = .ok (.goto (-53), 3) := by decide +kernel
theorem dX7_end_76 : decode cX7_end 76 = .ok (.iinc 2 1, 3) := by decide +kernel
theorem dX7_end_79 : decode cX7_end 79 = .ok (.goto (-66), 3) := by decide +kernel
theorem dX7_end_82 : decode cX7_end 82 = .ok (.aload_n 0, 1) := by decide +kernel
theorem dX7_end_83 : decode cX7_end 83 = .ok (.getfield 7, 3) := by decide +kernel
theorem dX7_end_86 : decode cX7_end 86 = .ok (.sipush 486, 3) := by decide +kernel
theorem dX7_end_89 : decode cX7_end 89 = .ok (.iaload, 1) := by decide +kernel
theorem dX7_end_90 : decode cX7_end 90 = .ok (.iload_n 1, 1) := by decide +kernel
theorem dX7_end_91 : decode cX7_end 91 = .ok (.isub, 1) := by decide +kernel
theorem dX7_end_92 : decode cX7_end 92 = .ok (.istore_n 2, 1) := by decide +kernel
theorem dX7_end_93 : decode cX7_end 93 = .ok (.aload_n 0, 1) := by decide +kernel
theorem dX7_end_94 : decode cX7_end 94 = .ok (.getfield 7, 3) := by decide +kernel
theorem dX7_end_97 : decode cX7_end 97 = .ok (.sipush 488, 3) := by decide +kernel
theorem dX7_end_100 : decode cX7_end 100 = .ok (.dup2, 1) := by decide +kernel
theorem dX7_end_101 : decode cX7_end 101 = .ok (.iaload, 1) := by decide +kernel
theorem dX7_end_102 : decode cX7_end 102 = .ok (.iload_n 1, 1) := by decide +kernel
theorem dX7_end_103 : decode cX7_end 103 = .ok (.iadd, 1) := by decide +kernel
theorem dX7_end_104 : decode cX7_end 104 = .ok (.iastore, 1) := by decide +kernel
theorem dX7_end_105 : decode cX7_end 105 = .ok (.aload_n 0, 1) := by decide +kernel
theorem dX7_end_106 : decode cX7_end 106 = .ok (.getfield 7, 3) := by decide +kernel
theorem dX7_end_109 : decode cX7_end 109 = .ok (.sipush 489, 3) := by decide +kernel
theorem dX7_end_112 : decode cX7_end 112 = .ok (.dup2, 1) := by decide +kernel
theorem dX7_end_113 : decode cX7_end 113 = .ok (.iaload, 1) := by decide +kernel
theorem dX7_end_114 : decode cX7_end 114 = .ok (.iload_n 2, 1) := by decide +kernel
theorem dX7_end_115 : decode cX7_end 115 = .ok (.iadd, 1) := by decide +kernel
theorem dX7_end_116 : decode cX7_end 116 = .ok (.iastore, 1) := by decide +kernel
theorem dX7_end_117 : decode cX7_end 117 = .ok (.aload_n 0, 1) := by decide +kernel
theorem dX7_end_118 : decode cX7_end 118 = .ok (.getfield 7, 3) := by decide +kernel
theorem dX7_end_121 : decode cX7_end 121 = .ok (.sipush 492, 3) := by decide +kernel
theorem dX7_end_124 : decode cX7_end 124 = .ok (.dup2, 1) := by decide +kernel
theorem dX7_end_125 : decode cX7_end 125 = .ok (.iaload, 1) := by decide +kernel
theorem dX7_end_126 : decode cX7_end 126 = .ok (.iconst 1, 1) := by decide +kernel
theorem dX7_end_127 : decode cX7_end 127 = .ok (.iadd, 1) := by decide +kernel
theorem dX7_end_128 : decode cX7_end 128 = .ok (.iastore, 1) := by decide +kernel
theorem dX7_end_129 : decode cX7_end 129 = .ok (.aload_n 0, 1) := by decide +kernel
theorem dX7_end_130 : decode cX7_end 130 = .ok (.getfield 7, 3) := by decide +kernel
theorem dX7_end_133 : decode cX7_end 133 = .ok (.sipush 486, 3) := by decide +kernel
theorem dX7_end_136 : decode cX7_end 136 = .ok (.iconst 0, 1) := by decide +kernel
theorem dX7_end_137 : decode cX7_end 137 = .ok (.iastore, 1) := by decide +kernel
theorem dX7_end_138 : decode cX7_end 138 = .ok (.aload_n 0, 1) := by decide +kernel
theorem dX7_end_139 : decode cX7_end 139 = .ok (.getfield 7, 3) := by decide +kernel
theorem dX7_end_142 : decode cX7_end 142 = .ok (.sipush 457, 3) := by decide +kernel
theorem dX7_end_145 : decode cX7_end 145 = .ok (.iconst 0, 1) := by decide +kernel
theorem dX7_end_146 : decode cX7_end 146 = .ok (.iastore, 1) := by decide +kernel
theorem dX7_end_147 : decode cX7_end 147 = .ok (.aload_n 0, 1) := by decide +kernel
theorem dX7_end_148 : decode cX7_end 148 = .ok (.getfield 7, 3) := by decide +kernel
theorem dX7_end_151 : decode cX7_end 151 = .ok (.sipush 493, 3) := by decide +kernel
theorem dX7_end_154 : decode cX7_end 154 = .ok (.iconst 0, 1) := by decide +kernel
theorem dX7_end_155 : decode cX7_end 155 = .ok (.iastore, 1) := by decide +kernel
theorem dX7_end_156 : decode cX7_end 156 = .ok (.iconst 0, 1) := by decide +kernel
theorem dX7_end_157 : decode cX7_end 157 = .ok (.istore_n 3, 1) := by decide +kernel
theorem dX7_end_158 : decode cX7_end 158 = .ok (.iload_n 3, 1) := by decide +kernel
theorem dX7_end_159 : decode cX7_end 159 = .ok (.bipush 90, 2) := by decide +kernel
theorem dX7_end_161 : decode cX7_end 161 = .ok (.if_icmp .gt 30, 3) := by decide +kernel
theorem dX7_end_164 : decode cX7_end 164 = .ok (.aload_n 0, 1) := by decide +kernel
theorem dX7_end_165 : decode cX7_end 165 = .ok (.getfield 7, 3) := by decide +kernel
theorem dX7_end_168 : decode cX7_end 168 = .ok (.bipush 95, 2) := by decide +kernel
theorem dX7_end_170 : decode cX7_end 170 = .ok (.iload_n 3, 1) := by decide +kernel
theorem dX7_end_171 : decode cX7_end 171 = .ok (.iadd, 1) := by decide +kernel
theorem dX7_end_172 : decode cX7_end 172 = .ok (.iconst 0, 1) := by decide +kernel
theorem dX7_end_173 : decode cX7_end 173 = .ok (.iastore, 1) := by decide +kernel
theorem dX7_end_174 : decode cX7_end 174 = .ok (.aload_n 0, 1) := by decide +kernel
theorem dX7_end_175 : decode cX7_end 175 = .ok (.getfield 7, 3) := by decide +kernel
theorem dX7_end_178 : decode cX7_end 178 = .ok (.sipush 186, 3) := by decide +kernel
theorem dX7_end_181 : decode cX7_end 181 = .ok (.iload_n 3, 1) := by decide +kernel
theorem dX7_end_182 : decode cX7_end 182 = .ok (.iadd, 1) := by decide +kernel
theorem dX7_end_183 : decode cX7_end 183 = .ok (.iconst 0, 1) := by decide +kernel
theorem dX7_end_184 : decode cX7_end 184 = .ok (.iastore, 1) := by decide +kernel
theorem dX7_end_185 : decode cX7_end 185 = .ok (.iinc 3 1, 3) := by decide +kernel
theorem dX7_end_188 : decode cX7_end 188 = .ok (.goto (-30), 3) := by decide +kernel
theorem dX7_end_191 : decode cX7_end 191 = .ok (.iconst 0, 1) := by decide +kernel
theorem dX7_end_192 : decode cX7_end 192 = .ok (.istore_n 3, 1) := by decide +kernel
theorem dX7_end_193 : decode cX7_end 193 = .ok (.iload_n 3, 1) := by decide +kernel
theorem dX7_end_194 : decode cX7_end 194 = .ok (.bipush 6, 2) := by decide +kernel
theorem dX7_end_196 : decode cX7_end 196 = .ok (.if_icmp .ge 31, 3) := by decide +kernel
theorem dX7_end_199 : decode cX7_end 199 = .ok (.aload_n 0, 1) := by decide +kernel
theorem dX7_end_200 : decode cX7_end 200 = .ok (.getfield 7, 3) := by decide +kernel
theorem dX7_end_203 : decode cX7_end 203 = .ok (.sipush 458, 3) := by decide +kernel
theorem dX7_end_206 : decode cX7_end 206 = .ok (.iload_n 3, 1) := by decide +kernel
theorem dX7_end_207 : decode cX7_end 207 = .ok (.iadd, 1) := by decide +kernel
theorem dX7_end_208 : decode cX7_end 208 = .ok (.iconst 0, 1) := by decide +kernel
theorem dX7_end_209 : decode cX7_end 209 = .ok (.iastore, 1) := by decide +kernel
theorem dX7_end_210 : decode cX7_end 210 = .ok (.aload_n 0, 1) := by decide +kernel
theorem dX7_end_211 : decode cX7_end 211 = .ok (.getfield 7, 3) := by decide +kernel
theorem dX7_end_214 : decode cX7_end 214 = .ok (.sipush 464, 3) := by decide +kernel
theorem dX7_end_217 : decode cX7_end 217 = .ok (.iload_n 3, 1) := by decide +kernel
theorem dX7_end_218 : decode cX7_end 218 = .ok (.iadd, 1) := by decide +kernel
theorem dX7_end_219 : decode cX7_end 219 = .ok (.iconst 0, 1) := by decide +kernel
theorem dX7_end_220 : decode cX7_end 220 = .ok (.iastore, 1) := by decide +kernel
theorem dX7_end_221 : decode cX7_end 221 = .ok (.iinc 3 1, 3) := by decide +kernel
theorem dX7_end_224 : decode cX7_end 224 = .ok (.goto (-31), 3) := by decide +kernel
theorem dX7_end_227 : decode cX7_end 227 = .ok (.iconst 0, 1) := by decide +kernel
theorem dX7_end_228 : decode cX7_end 228 = .ok (.istore_n 3, 1) := by decide +kernel
theorem dX7_end_229 : decode cX7_end 229 = .ok (.iload_n 3, 1) := by decide +kernel
theorem dX7_end_230 : decode cX7_end 230 = .ok (.iconst 4, 1) := by decide +kernel
theorem dX7_end_231 : decode cX7_end 231 = .ok (.if_icmp .ge 20, 3) := by decide +kernel
theorem dX7_end_234 : decode cX7_end 234 = .ok (.aload_n 0, 1) := by decide +kernel
theorem dX7_end_235 : decode cX7_end 235 = .ok (.getfield 7, 3) := by decide +kernel
theorem dX7_end_238 : decode cX7_end 238 = .ok (.sipush 482, 3) := by decide +kernel
theorem dX7_end_241 : decode cX7_end 241 = .ok (.iload_n 3, 1) := by decide +kernel
theorem dX7_end_242 : decode cX7_end 242 = .ok (.iadd, 1) := by decide +kernel
theorem dX7_end_243 : decode cX7_end 243 = .ok (.iconst 0, 1) := by decide +kernel
theorem dX7_end_244 : decode cX7_end 244 = .ok (.iastore, 1) := by decide +kernel
theorem dX7_end_245 : decode cX7_end 245 = .ok (.iinc 3 1, 3) := by decide +kernel
theorem dX7_end_248 : decode cX7_end 248 = .ok (.goto (-19), 3) := by decide +kernel
theorem dX7_end_251 : decode cX7_end 251 = .ok (.iload_n 2, 1) := by decide +kernel
theorem dX7_end_252 : decode cX7_end 252 = .ok (.ireturn, 1) := by decide +kernel
theorem dX7_append_0 : decode cX7_append 0 = .ok (.aload_n 0, 1) := by decide +kernel
theorem dX7_append_1 : decode cX7_append 1 = .ok (.iload_n 1, 1) := by decide +kernel
theorem dX7_append_2 : decode cX7_append 2 = .ok (.bipush 33, 2) := by decide +kernel
theorem dX7_append_4 : decode cX7_append 4 = .ok (.bipush 126, 2) := by decide +kernel
theorem dX7_append_6 : decode cX7_append 6 = .ok (.invokestatic 32, 3) := by decide +kernel
theorem dX7_append_9 : decode cX7_append 9 = .ok (.aload_n 0, 1) := by decide +kernel
theorem dX7_append_10 : decode cX7_append 10 = .ok (.getfield 121, 3) := by decide +kernel
theorem dX7_append_13 : decode cX7_append 13 = .ok (.bipush 60, 2) := by decide +kernel
theorem dX7_append_15 : decode cX7_append 15 = .ok (.if_icmp .ge 7, 3) := by decide +kernel
theorem dX7_append_18 : decode cX7_append 18 = .ok (.iconst 1, 1) := by decide +kernel
theorem dX7_append_19 : decode cX7_append 19 = .ok (.goto 4, 3) := by decide +kernel
theorem dX7_append_22 : decode cX7_append 22 = .ok (.iconst 0, 1) := by decide +kernel
theorem dX7_append_23 : decode cX7_append 23 = .ok (.iconst 1, 1) := by decide +kernel
theorem dX7_append_24 : decode cX7_append 24 = .ok (.invokevirtual 60, 3) := by decide +kernel
theorem dX7_append_27 : decode cX7_append 27 = .ok (.ifCond .ne 5, 3) := by decide +kernel
theorem dX7_append_30 : decode cX7_append 30 = .ok (.iconst 0, 1) := by decide +kernel
theorem dX7_append_31 : decode cX7_append 31 = .ok (.ireturn, 1) := by decide +kernel
theorem dX7_append_32 : decode cX7_append 32 = .ok (.aload_n 0, 1) := by decide +kernel
theorem dX7_append_33 : decode cX7_append 33 = .ok (.getfield 17, 3) := by decide +kernel
theorem dX7_append_36 : decode cX7_append 36 = .ok (.aload_n 0, 1) := by decide +kernel
theorem dX7_append_37 : decode cX7_append 37 = .ok (.getfield 121, 3) := by decide +kernel
theorem dX7_append_40 : decode cX7_append 40 = .ok (.iload_n 1, 1) := by decide +kernel
theorem dX7_append_41 : decode cX7_append 41 = .ok (.i2c, 1) := by decide +kernel
theorem dX7_append_42 : decode cX7_append 42 = .ok (.castore, 1) := by decide +kernel
theorem dX7_append_43 : decode cX7_append 43 = .ok (.aload_n 0, 1) := by decide +kernel
theorem dX7_append_44 : decode cX7_append 44 = .ok (.dup, 1) := by decide +kernel
theorem dX7_append_45 : decode cX7_append 45 = .ok (.getfield 121, 3) := by decide +kernel
theorem dX7_append_48 : decode cX7_append 48 = .ok (.iconst 1, 1) := by decide +kernel
theorem dX7_append_49 : decode cX7_append 49 = .ok (.iadd, 1) := by decide +kernel
theorem dX7_append_50 : decode cX7_append 50 = .ok (.putfield 121, 3) := by decide +kernel
theorem dX7_append_53 : decode cX7_append 53 = .ok (.aload_n 0, 1) := by decide +kernel
theorem dX7_append_54 : decode cX7_append 54 = .ok (.getfield 121, 3) := by decide +kernel
theorem dX7_append_57 : decode cX7_append 57 = .ok (.ireturn, 1) := by decide +kernel
theorem dX7_clearBuffer_0 : decode cX7_clearBuffer 0 = .ok (.aload_n 0, 1) := by decide +kernel
theorem dX7_clearBuffer_1 : decode cX7_clearBuffer 1 = .ok (.iconst 0, 1) := by decide +kernel
theorem dX7_clearBuffer_2 : decode cX7_clearBuffer 2 = .ok (.putfield 21, 3) := by decide +kernel
theorem dX7_clearBuffer_5 : decode cX7_clearBuffer 5 = .ok (.aload_n 0, 1) := by decide +kernel
theorem dX7_clearBuffer_6 : decode cX7_clearBuffer 6 = .ok (.getfield 121, 3) := by decide +kernel
theorem dX7_clearBuffer_9 : decode cX7_clearBuffer 9 = .ok (.istore_n 1, 1) := by decide +kernel
theorem dX7_clearBuffer_10 : decode cX7_clearBuffer 10 = .ok (.aload_n 0, 1) := by decide +kernel
theorem dX7_clearBuffer_11 : decode cX7_clearBuffer 11 = .ok (.iconst 0, 1) := by decide +kernel
theorem dX7_clearBuffer_12 : decode cX7_clearBuffer 12 = .ok (.putfield 121, 3) := by decide +kernel
theorem dX7_clearBuffer_15 : decode cX7_clearBuffer 15 = .ok (.iload_n 1, 1) := by decide +kernel
theorem dX7_clearBuffer_16 : decode cX7_clearBuffer 16 = .ok (.ireturn, 1) := by decide +kernel
theorem dX7_greatest_0 : decode cX7_greatest 0 = .ok (.iload_n 0, 1) := by decide +kernel
theorem dX7_greatest_1 : decode cX7_greatest 1 = .ok (.bipush 112, 2) := by decide +kernel
theorem dX7_greatest_3 : decode cX7_greatest 3 = .ok (.if_icmp .ne 53, 3) := by decide +kernel
theorem dX7_greatest_6 : decode cX7_greatest 6 = .ok (.iload_n 1, 1) := by decide +kernel
theorem dX7_greatest_7 : decode cX7_greatest 7 = .ok (.iconst 1, 1) := by decide +kernel
theorem dX7_greatest_8 : decode cX7_greatest 8 = .ok (.if_icmp .ne 7, 3) := by decide +kernel
theorem dX7_greatest_11 : decode cX7_greatest 11 = .ok (.iconst 5, 1) := by decide +kernel
theorem dX7_greatest_12 : decode cX7_greatest 12 = .ok (.goto 43, 3) := by decide +kernel
theorem dX7_greatest_15 : decode cX7_greatest 15 = .ok (.iload_n 1, 1) := by decide +kernel
theorem dX7_greatest_16 : decode cX7_greatest 16 = .ok (.iconst 2, 1) := by decide +kernel
theorem dX7_greatest_17 : decode cX7_greatest 17 = .ok (.if_icmp .ne 7, 3) := by decide +kernel
theorem dX7_greatest_20 : decode cX7_greatest 20 = .ok (.iconst 2, 1) := by decide +kernel
theorem dX7_greatest_21 : decode cX7_greatest 21 = .ok (.goto 34, 3) := by decide +kernel
theorem dX7_greatest_24 : decode cX7_greatest 24 = .ok (.iload_n 1, 1) := by decide +kernel
theorem dX7_greatest_25 : decode cX7_greatest 25 = .ok (.iconst 3, 1) := by decide +kernel
theorem dX7_greatest_26 : decode cX7_greatest 26 = .ok (.if_icmp .ne 8, 3) := by decide +kernel
theorem dX7_greatest_29 : decode cX7_greatest 29 = .ok (.bipush 9, 2) := by decide +kernel
theorem dX7_greatest_31 : decode cX7_greatest 31 = .ok (.goto 24, 3) := by decide +kernel
theorem dX7_greatest_34 : decode cX7_greatest 34 = .ok (.iload_n 1, 1) := by decide +kernel
theorem dX7_greatest_35 : decode cX7_greatest 35 = .ok (.iconst 4, 1) := by decide +kernel
theorem dX7_greatest_36 : decode cX7_greatest 36 = .ok (.if_icmp .ne 18, 3) := by decide +kernel
theorem dX7_greatest_39 : decode cX7_greatest 39 = .ok (.iload_n 2, 1) := by decide +kernel
theorem dX7_greatest_40 : decode cX7_greatest 40 = .ok (.bipush 9, 2) := by decide +kernel
theorem dX7_greatest_42 : decode cX7_greatest 42 = .ok (.if_icmp .ne 7, 3) := by decide +kernel
theorem dX7_greatest_45 : decode cX7_greatest 45 = .ok (.iconst 0, 1) := by decide +kernel
theorem dX7_greatest_46 : decode cX7_greatest 46 = .ok (.goto 9, 3) := by decide +kernel
theorem dX7_greatest_49 : decode cX7_greatest 49 = .ok (.bipush 9, 2) := by decide +kernel
theorem dX7_greatest_51 : decode cX7_greatest 51 = .ok (.goto 4, 3) := by decide +kernel
theorem dX7_greatest_54 : decode cX7_greatest 54 = .ok (.iconst (-1), 1) := by decide +kernel
theorem dX7_greatest_55 : decode cX7_greatest 55 = .ok (.ireturn, 1) := by decide +kernel
theorem dX7_greatest_56 : decode cX7_greatest 56 = .ok (.iload_n 0, 1) := by decide +kernel
theorem dX7_greatest_57 : decode cX7_greatest 57 = .ok (.bipush 99, 2) := by decide +kernel
theorem dX7_greatest_59 : decode cX7_greatest 59 = .ok (.if_icmp .ne 23, 3) := by decide +kernel
theorem dX7_greatest_62 : decode cX7_greatest 62 = .ok (.iload_n 1, 1) := by decide +kernel
theorem dX7_greatest_63 : decode cX7_greatest 63 = .ok (.iconst 1, 1) := by decide +kernel
theorem dX7_greatest_64 : decode cX7_greatest 64 = .ok (.if_icmp .ne 7, 3) := by decide +kernel
theorem dX7_greatest_67 : decode cX7_greatest 67 = .ok (.iconst 5, 1) := by decide +kernel
theorem dX7_greatest_68 : decode cX7_greatest 68 = .ok (.goto 13, 3) := by decide +kernel
theorem dX7_greatest_71 : decode cX7_greatest 71 = .ok (.iload_n 1, 1) := by decide +kernel
theorem dX7_greatest_72 : decode cX7_greatest 72 = .ok (.iconst 2, 1) := by decide +kernel
theorem dX7_greatest_73 : decode cX7_greatest 73 = .ok (.if_icmp .ne 7, 3) := by decide +kernel
theorem dX7_greatest_76 : decode cX7_greatest 76 = .ok (.iconst 3, 1) := by decide +kernel
theorem dX7_greatest_77 : decode cX7_greatest 77 = .ok (.goto 4, 3) := by decide +kernel
theorem dX7_greatest_80 : decode cX7_greatest 80 = .ok (.iconst (-1), 1) := by decide +kernel
theorem dX7_greatest_81 : decode cX7_greatest 81 = .ok (.ireturn, 1) := by decide +kernel
theorem dX7_greatest_82 : decode cX7_greatest 82 = .ok (.iload_n 1, 1) := by decide +kernel
theorem dX7_greatest_83 : decode cX7_greatest 83 = .ok (.iconst 1, 1) := by decide +kernel
theorem dX7_greatest_84 : decode cX7_greatest 84 = .ok (.if_icmp .le 7, 3) := by decide +kernel
theorem dX7_greatest_87 : decode cX7_greatest 87 = .ok (.iconst (-1), 1) := by decide +kernel
theorem dX7_greatest_88 : decode cX7_greatest 88 = .ok (.goto 15, 3) := by decide +kernel
theorem dX7_greatest_91 : decode cX7_greatest 91 = .ok (.iload_n 0, 1) := by decide +kernel
theorem dX7_greatest_92 : decode cX7_greatest 92 = .ok (.bipush 98, 2) := by decide +kernel
theorem dX7_greatest_94 : decode cX7_greatest 94 = .ok (.if_icmp .ne 7, 3) := by decide +kernel
theorem dX7_greatest_97 : decode cX7_greatest 97 = .ok (.iconst 5, 1) := by decide +kernel
theorem dX7_greatest_98 : decode cX7_greatest 98 = .ok (.goto 5, 3) := by decide +kernel
theorem dX7_greatest_101 : decode cX7_greatest 101 = .ok (.bipush 9, 2) := by decide +kernel
theorem dX7_greatest_103 : decode cX7_greatest 103 = .ok (.ireturn, 1) := by decide +kernel
theorem dX7_leastFigure_0 : decode cX7_leastFigure 0 = .ok (.iload_n 0, 1) := by decide +kernel
theorem dX7_leastFigure_1 : decode cX7_leastFigure 1 = .ok (.bipush 100, 2) := by decide +kernel
theorem dX7_leastFigure_3 : decode cX7_leastFigure 3 = .ok (.if_icmp .eq 18, 3) := by decide +kernel
theorem dX7_leastFigure_6 : decode cX7_leastFigure 6 = .ok (.iload_n 0, 1) := by decide +kernel
theorem dX7_leastFigure_7 : decode cX7_leastFigure 7 = .ok (.bipush 112, 2) := by decide +kernel
theorem dX7_leastFigure_9 : decode cX7_leastFigure 9 = .ok (.if_icmp .ne 16, 3) := by decide +kernel
theorem dX7_leastFigure_12 : decode cX7_leastFigure 12 = .ok (.iload_n 1, 1) := by decide +kernel
theorem dX7_leastFigure_13 : decode cX7_leastFigure 13 = .ok (.iconst 4, 1) := by decide +kernel
theorem dX7_leastFigure_14 : decode cX7_leastFigure 14 = .ok (.if_icmp .ne 11, 3) := by decide +kernel
theorem dX7_leastFigure_17 : decode cX7_leastFigure 17 = .ok (.iload_n 2, 1) := by decide +kernel
theorem dX7_leastFigure_18 : decode cX7_leastFigure 18 = .ok (.ifCond .ne 7, 3) := by decide +kernel
theorem dX7_leastFigure_21 : decode cX7_leastFigure 21 = .ok (.iconst 1, 1) := by decide +kernel
theorem dX7_leastFigure_22 : decode cX7_leastFigure 22 = .ok (.goto 4, 3) := by decide +kernel
theorem dX7_leastFigure_25 : decode cX7_leastFigure 25 = .ok (.iconst 0, 1) := by decide +kernel
theorem dX7_leastFigure_26 : decode cX7_leastFigure 26 = .ok (.ireturn, 1) := by decide +kernel
theorem dX7_orderEnd_0 : decode cX7_orderEnd 0 = .ok (.iload_n 1, 1) := by decide +kernel
theorem dX7_orderEnd_1 : decode cX7_orderEnd 1 = .ok (.aload_n 0, 1) := by decide +kernel
theorem dX7_orderEnd_2 : decode cX7_orderEnd 2 = .ok (.getfield 121, 3) := by decide +kernel
theorem dX7_orderEnd_5 : decode cX7_orderEnd 5 = .ok (.if_icmp .eq 47, 3) := by decide +kernel
theorem dX7_orderEnd_8 : decode cX7_orderEnd 8 = .ok (.aload_n 0, 1) := by decide +kernel
theorem dX7_orderEnd_9 : decode cX7_orderEnd 9 = .ok (.getfield 17, 3) := by decide +kernel
theorem dX7_orderEnd_12 : decode cX7_orderEnd 12 = .ok (.iload_n 1, 1) := by decide +kernel
theorem dX7_orderEnd_13 : decode cX7_orderEnd 13 = .ok (.caload, 1) := by decide +kernel
theorem dX7_orderEnd_14 : decode cX7_orderEnd 14 = .ok (.bipush 112, 2) := by decide +kernel
theorem dX7_orderEnd_16 : decode cX7_orderEnd 16 = .ok (.if_icmp .eq 40, 3) := by decide +kernel
theorem dX7_orderEnd_19 : decode cX7_orderEnd 19 = .ok (.aload_n 0, 1) := by decide +kernel
theorem dX7_orderEnd_20 : decode cX7_orderEnd 20 = .ok (.getfield 17, 3) := by decide +kernel
theorem dX7_orderEnd_23 : decode cX7_orderEnd 23 = .ok (.iload_n 1, 1) := by decide +kernel
theorem dX7_orderEnd_24 : decode cX7_orderEnd 24 = .ok (.caload, 1) := by decide +kernel
theorem dX7_orderEnd_25 : decode cX7_orderEnd 25 = .ok (.bipush 98, 2) := by decide +kernel
theorem dX7_orderEnd_27 : decode cX7_orderEnd 27 = .ok (.if_icmp .eq 29, 3) := by decide +kernel
theorem dX7_orderEnd_30 : decode cX7_orderEnd 30 = .ok (.aload_n 0, 1) := by decide +kernel
theorem dX7_orderEnd_31 : decode cX7_orderEnd 31 = .ok (.getfield 17, 3) := by decide +kernel
theorem dX7_orderEnd_34 : decode cX7_orderEnd 34 = .ok (.iload_n 1, 1) := by decide +kernel
theorem dX7_orderEnd_35 : decode cX7_orderEnd 35 = .ok (.caload, 1) := by decide +kernel
theorem dX7_orderEnd_36 : decode cX7_orderEnd 36 = .ok (.bipush 100, 2) := by decide +kernel
theorem dX7_orderEnd_38 : decode cX7_orderEnd 38 = .ok (.if_icmp .eq 18, 3) := by decide +kernel
theorem dX7_orderEnd_41 : decode cX7_orderEnd 41 = .ok (.aload_n 0, 1) := by decide +kernel
theorem dX7_orderEnd_42 : decode cX7_orderEnd 42 = .ok (.getfield 17, 3) := by decide +kernel
theorem dX7_orderEnd_45 : decode cX7_orderEnd 45 = .ok (.iload_n 1, 1) := by decide +kernel
theorem dX7_orderEnd_46 : decode cX7_orderEnd 46 = .ok (.caload, 1) := by decide +kernel
theorem dX7_orderEnd_47 : decode cX7_orderEnd 47 = .ok (.bipush 99, 2) := by decide +kernel
theorem dX7_orderEnd_49 : decode cX7_orderEnd 49 = .ok (.if_icmp .eq 7, 3) := by decide +kernel
theorem dX7_orderEnd_52 : decode cX7_orderEnd 52 = .ok (.iconst (-1), 1) := by decide +kernel
theorem dX7_orderEnd_53 : decode cX7_orderEnd 53 = .ok (.iload_n 1, 1) := by decide +kernel
theorem dX7_orderEnd_54 : decode cX7_orderEnd 54 = .ok (.isub, 1) := by decide +kernel
theorem dX7_orderEnd_55 : decode cX7_orderEnd 55 = .ok (.ireturn, 1) := by decide +kernel
theorem dX7_orderEnd_56 : decode cX7_orderEnd 56 = .ok (.iload_n 1, 1) := by decide +kernel
theorem dX7_orderEnd_57 : decode cX7_orderEnd 57 = .ok (.iconst 1, 1) := by decide +kernel
theorem dX7_orderEnd_58 : decode cX7_orderEnd 58 = .ok (.iadd, 1) := by decide +kernel
theorem dX7_orderEnd_59 : decode cX7_orderEnd 59 = .ok (.istore_n 2, 1) := by decide +kernel
theorem dX7_orderEnd_60 : decode cX7_orderEnd 60 = .ok (.iconst 0, 1) := by decide +kernel
theorem dX7_orderEnd_61 : decode cX7_orderEnd 61 = .ok (.istore_n 3, 1) := by decide +kernel
theorem dX7_orderEnd_62 : decode cX7_orderEnd 62 = .ok (.aload_n 0, 1) := by decide +kernel
theorem dX7_orderEnd_63 : decode cX7_orderEnd 63 = .ok (.getfield 17, 3) := by decide +kernel
theorem dX7_orderEnd_66 : decode cX7_orderEnd 66 = .ok (.iload_n 1, 1) := by decide +kernel
theorem dX7_orderEnd_67 : decode cX7_orderEnd 67 = .ok (.caload, 1) := by decide +kernel
theorem dX7_orderEnd_68 : decode cX7_orderEnd 68 = .ok (.iload_n 2, 1) := by decide +kernel
theorem dX7_orderEnd_69 : decode cX7_orderEnd 69 = .ok (.iload_n 1, 1) := by decide +kernel
theorem dX7_orderEnd_70 : decode cX7_orderEnd 70 = .ok (.isub, 1) := by decide +kernel
theorem dX7_orderEnd_71 : decode cX7_orderEnd 71 = .ok (.iload_n 3, 1) := by decide +kernel
theorem dX7_orderEnd_72 : decode cX7_orderEnd 72 = .ok (.invokestatic 124, 3) := by decide +kernel
theorem dX7_orderEnd_75 : decode cX7_orderEnd 75 = .ok (.ifCond .lt 76, 3) := by decide +kernel
theorem dX7_orderEnd_78 : decode cX7_orderEnd 78 = .ok (.aload_n 0, 1) := by decide +kernel
theorem dX7_orderEnd_79 : decode cX7_orderEnd 79 = .ok (.getfield 17, 3) := by decide +kernel
theorem dX7_orderEnd_82 : decode cX7_orderEnd 82 = .ok (.iload_n 1, 1) := by decide +kernel
theorem dX7_orderEnd_83 : decode cX7_orderEnd 83 = .ok (.caload, 1) := by decide +kernel
theorem dX7_orderEnd_84 : decode cX7_orderEnd 84 = .ok (.iload_n 2, 1) := by decide +kernel
theorem dX7_orderEnd_85 : decode cX7_orderEnd 85 = .ok (.iload_n 1, 1) := by decide +kernel
theorem dX7_orderEnd_86 : decode cX7_orderEnd 86 = .ok (.isub, 1) := by decide +kernel
theorem dX7_orderEnd_87 : decode cX7_orderEnd 87 = .ok (.iload_n 3, 1) := by decide +kernel
theorem dX7_orderEnd_88 : decode cX7_orderEnd 88 = .ok (.invokestatic 128, 3) := by decide +kernel
theorem dX7_orderEnd_91 : decode cX7_orderEnd 91 = .ok (.istore 4, 2) := by decide +kernel
theorem dX7_orderEnd_93 : decode cX7_orderEnd 93 = .ok (.iload_n 2, 1) := by decide +kernel
theorem dX7_orderEnd_94 : decode cX7_orderEnd 94 = .ok (.aload_n 0, 1) := by decide +kernel
theorem dX7_orderEnd_95 : decode cX7_orderEnd 95 = .ok (.getfield 121, 3) := by decide +kernel
theorem dX7_orderEnd_98 : decode cX7_orderEnd 98 = .ok (.if_icmp .eq 33, 3) := by decide +kernel
theorem dX7_orderEnd_101 : decode cX7_orderEnd 101 = .ok (.aload_n 0, 1) := by decide +kernel
theorem dX7_orderEnd_102 : decode cX7_orderEnd 102 = .ok (.getfield 17, 3) := by decide +kernel
theorem dX7_orderEnd_105 : decode cX7_orderEnd 105 = .ok (.iload_n 2, 1) := by decide +kernel
theorem dX7_orderEnd_106 : decode cX7_orderEnd 106 = .ok (.caload, 1) := by decide +kernel
theorem dX7_orderEnd_107 : decode cX7_orderEnd 107 = .ok (.bipush 48, 2) := by decide +kernel
theorem dX7_orderEnd_109 : decode cX7_orderEnd 109 = .ok (.isub, 1) := by decide +kernel
theorem dX7_orderEnd_110 : decode cX7_orderEnd 110 = .ok (.iload 4, 2) := by decide +kernel
theorem dX7_orderEnd_112 : decode cX7_orderEnd 112 = .ok (.aload_n 0, 1) := by decide +kernel
theorem dX7_orderEnd_113 : decode cX7_orderEnd 113 = .ok (.getfield 17, 3) := by decide +kernel
theorem dX7_orderEnd_116 : decode cX7_orderEnd 116 = .ok (.iload_n 1, 1) := by decide +kernel
theorem dX7_orderEnd_117 : decode cX7_orderEnd 117 = .ok (.caload, 1) := by decide +kernel
theorem dX7_orderEnd_118 : decode cX7_orderEnd 118 = .ok (.iload_n 2, 1) := by decide +kernel
theorem dX7_orderEnd_119 : decode cX7_orderEnd 119 = .ok (.iload_n 1, 1) := by decide +kernel
theorem dX7_orderEnd_120 : decode cX7_orderEnd 120 = .ok (.isub, 1) := by decide +kernel
theorem dX7_orderEnd_121 : decode cX7_orderEnd 121 = .ok (.iload_n 3, 1) := by decide +kernel
theorem dX7_orderEnd_122 : decode cX7_orderEnd 122 = .ok (.invokestatic 124, 3) := by decide +kernel
theorem dX7_orderEnd_125 : decode cX7_orderEnd 125 = .ok (.invokestatic 32, 3) := by decide +kernel
theorem dX7_orderEnd_128 : decode cX7_orderEnd 128 = .ok (.ifCond .ne 7, 3) := by decide +kernel
theorem dX7_orderEnd_131 : decode cX7_orderEnd 131 = .ok (.iconst (-1), 1) := by decide +kernel
theorem dX7_orderEnd_132 : decode cX7_orderEnd 132 = .ok (.iload_n 2, 1) := by decide +kernel
theorem dX7_orderEnd_133 : decode cX7_orderEnd 133 = .ok (.isub, 1) := by decide +kernel
theorem dX7_orderEnd_134 : decode cX7_orderEnd 134 = .ok (.ireturn, 1) := by decide +kernel
theorem dX7_orderEnd_135 : decode cX7_orderEnd 135 = .ok (.aload_n 0, 1) := by decide +kernel
theorem dX7_orderEnd_136 : decode cX7_orderEnd 136 = .ok (.getfield 17, 3) := by decide +kernel
theorem dX7_orderEnd_139 : decode cX7_orderEnd 139 = .ok (.iload_n 2, 1) := by decide +kernel
theorem dX7_orderEnd_140 : decode cX7_orderEnd 140 = .ok (.caload, 1) := by decide +kernel
theorem dX7_orderEnd_141 : decode cX7_orderEnd 141 = .ok (.bipush 48, 2) := by decide +kernel
theorem dX7_orderEnd_143 : decode cX7_orderEnd 143 = .ok (.isub, 1) := by decide +kernel
theorem dX7_orderEnd_144 : decode cX7_orderEnd 144 = .ok (.istore_n 3, 1) := by decide +kernel
theorem dX7_orderEnd_145 : decode cX7_orderEnd 145 = .ok (.iinc 2 1, 3) := by decide +kernel
theorem dX7_orderEnd_148 : decode cX7_orderEnd 148 = .ok (.goto (-86), 3) := by decide +kernel
theorem dX7_orderEnd_151 : decode cX7_orderEnd 151 = .ok (.iload_n 2, 1) := by decide +kernel
theorem dX7_orderEnd_152 : decode cX7_orderEnd 152 = .ok (.ireturn, 1) := by decide +kernel
theorem dX7_error_0 : decode cX7_error 0 = .ok (.iconst 0, 1) := by decide +kernel
theorem dX7_error_1 : decode cX7_error 1 = .ok (.istore_n 1, 1) := by decide +kernel
theorem dX7_error_2 : decode cX7_error 2 = .ok (.aload_n 0, 1) := by decide +kernel
theorem dX7_error_3 : decode cX7_error 3 = .ok (.iload_n 1, 1) := by decide +kernel
theorem dX7_error_4 : decode cX7_error 4 = .ok (.invokevirtual 131, 3) := by decide +kernel
theorem dX7_error_7 : decode cX7_error 7 = .ok (.istore_n 2, 1) := by decide +kernel
theorem dX7_error_8 : decode cX7_error 8 = .ok (.iload_n 2, 1) := by decide +kernel
theorem dX7_error_9 : decode cX7_error 9 = .ok (.ifCond .ge 7, 3) := by decide +kernel
theorem dX7_error_12 : decode cX7_error 12 = .ok (.iconst (-1), 1) := by decide +kernel
theorem dX7_error_13 : decode cX7_error 13 = .ok (.iload_n 2, 1) := by decide +kernel
theorem dX7_error_14 : decode cX7_error 14 = .ok (.isub, 1) := by decide +kernel
theorem dX7_error_15 : decode cX7_error 15 = .ok (.ireturn, 1) := by decide +kernel
theorem dX7_error_16 : decode cX7_error 16 = .ok (.iload_n 2, 1) := by decide +kernel
theorem dX7_error_17 : decode cX7_error 17 = .ok (.istore_n 1, 1) := by decide +kernel
theorem dX7_error_18 : decode cX7_error 18 = .ok (.iload_n 1, 1) := by decide +kernel
theorem dX7_error_19 : decode cX7_error 19 = .ok (.aload_n 0, 1) := by decide +kernel
theorem dX7_error_20 : decode cX7_error 20 = .ok (.getfield 121, 3) := by decide +kernel
theorem dX7_error_23 : decode cX7_error 23 = .ok (.if_icmp .lt (-21), 3) := by decide +kernel
theorem dX7_error_26 : decode cX7_error 26 = .ok (.iconst (-1), 1) := by decide +kernel
theorem dX7_error_27 : decode cX7_error 27 = .ok (.ireturn, 1) := by decide +kernel
theorem dX7_firstError_0 : decode cX7_firstError 0 = .ok (.aload_n 0, 1) := by decide +kernel
theorem dX7_firstError_1 : decode cX7_firstError 1 = .ok (.iconst 0, 1) := by decide +kernel
theorem dX7_firstError_2 : decode cX7_firstError 2 = .ok (.putfield 21, 3) := by decide +kernel
theorem dX7_firstError_5 : decode cX7_firstError 5 = .ok (.aload_n 0, 1) := by decide +kernel
theorem dX7_firstError_6 : decode cX7_firstError 6 = .ok (.invokevirtual 134, 3) := by decide +kernel
theorem dX7_firstError_9 : decode cX7_firstError 9 = .ok (.istore_n 1, 1) := by decide +kernel
theorem dX7_firstError_10 : decode cX7_firstError 10 = .ok (.iload_n 1, 1) := by decide +kernel
theorem dX7_firstError_11 : decode cX7_firstError 11 = .ok (.ifCond .ge 10, 3) := by decide +kernel
theorem dX7_firstError_14 : decode cX7_firstError 14 = .ok (.aload_n 0, 1) := by decide +kernel
theorem dX7_firstError_15 : decode cX7_firstError 15 = .ok (.getfield 121, 3) := by decide +kernel
theorem dX7_firstError_18 : decode cX7_firstError 18 = .ok (.goto 4, 3) := by decide +kernel
theorem dX7_firstError_21 : decode cX7_firstError 21 = .ok (.iload_n 1, 1) := by decide +kernel
theorem dX7_firstError_22 : decode cX7_firstError 22 = .ok (.ireturn, 1) := by decide +kernel
theorem dX7_figure_0 : decode cX7_figure 0 = .ok (.aload_n 0, 1) := by decide +kernel
theorem dX7_figure_1 : decode cX7_figure 1 = .ok (.getfield 17, 3) := by decide +kernel
theorem dX7_figure_4 : decode cX7_figure 4 = .ok (.iload_n 1, 1) := by decide +kernel
theorem dX7_figure_5 : decode cX7_figure 5 = .ok (.caload, 1) := by decide +kernel
theorem dX7_figure_6 : decode cX7_figure 6 = .ok (.bipush 48, 2) := by decide +kernel
theorem dX7_figure_8 : decode cX7_figure 8 = .ok (.isub, 1) := by decide +kernel
theorem dX7_figure_9 : decode cX7_figure 9 = .ok (.ireturn, 1) := by decide +kernel
theorem dX7_does_0 : decode cX7_does 0 = .ok (.aload_n 0, 1) := by decide +kernel
theorem dX7_does_1 : decode cX7_does 1 = .ok (.iload_n 1, 1) := by decide +kernel
theorem dX7_does_2 : decode cX7_does 2 = .ok (.iconst 1, 1) := by decide +kernel
theorem dX7_does_3 : decode cX7_does 3 = .ok (.iadd, 1) := by decide +kernel
theorem dX7_does_4 : decode cX7_does 4 = .ok (.invokevirtual 137, 3) := by decide +kernel
theorem dX7_does_7 : decode cX7_does 7 = .ok (.istore_n 2, 1) := by decide +kernel
theorem dX7_does_8 : decode cX7_does 8 = .ok (.aload_n 0, 1) := by decide +kernel
theorem dX7_does_9 : decode cX7_does 9 = .ok (.getfield 17, 3) := by decide +kernel
theorem dX7_does_12 : decode cX7_does 12 = .ok (.iload_n 1, 1) := by decide +kernel
theorem dX7_does_13 : decode cX7_does 13 = .ok (.caload, 1) := by decide +kernel
theorem dX7_does_14 : decode cX7_does 14 = .ok (.bipush 112, 2) := by decide +kernel
theorem dX7_does_16 : decode cX7_does 16 = .ok (.if_icmp .ne 42, 3) := by decide +kernel
theorem dX7_does_19 : decode cX7_does 19 = .ok (.aload_n 0, 1) := by decide +kernel
theorem dX7_does_20 : decode cX7_does 20 = .ok (.iload_n 2, 1) := by decide +kernel
theorem dX7_does_21 : decode cX7_does 21 = .ok (.aload_n 0, 1) := by decide +kernel
theorem dX7_does_22 : decode cX7_does 22 = .ok (.iload_n 1, 1) := by decide +kernel
theorem dX7_does_23 : decode cX7_does 23 = .ok (.iconst 2, 1) := by decide +kernel
theorem dX7_does_24 : decode cX7_does 24 = .ok (.iadd, 1) := by decide +kernel
theorem dX7_does_25 : decode cX7_does 25 = .ok (.invokevirtual 137, 3) := by decide +kernel
theorem dX7_does_28 : decode cX7_does 28 = .ok (.bipush 10, 2) := by decide +kernel
theorem dX7_does_30 : decode cX7_does 30 = .ok (.aload_n 0, 1) := by decide +kernel
theorem dX7_does_31 : decode cX7_does 31 = .ok (.iload_n 1, 1) := by decide +kernel
theorem dX7_does_32 : decode cX7_does 32 = .ok (.iconst 3, 1) := by decide +kernel
theorem dX7_does_33 : decode cX7_does 33 = .ok (.iadd, 1) := by decide +kernel
theorem dX7_does_34 : decode cX7_does 34 = .ok (.invokevirtual 137, 3) := by decide +kernel
theorem dX7_does_37 : decode cX7_does 37 = .ok (.imul, 1) := by decide +kernel
theorem dX7_does_38 : decode cX7_does 38 = .ok (.aload_n 0, 1) := by decide +kernel
theorem dX7_does_39 : decode cX7_does 39 = .ok (.iload_n 1, 1) := by decide +kernel
theorem dX7_does_40 : decode cX7_does 40 = .ok (.iconst 4, 1) := by decide +kernel
theorem dX7_does_41 : decode cX7_does 41 = .ok (.iadd, 1) := by decide +kernel
theorem dX7_does_42 : decode cX7_does 42 = .ok (.invokevirtual 137, 3) := by decide +kernel
theorem dX7_does_45 : decode cX7_does 45 = .ok (.iadd, 1) := by decide +kernel
theorem dX7_does_46 : decode cX7_does 46 = .ok (.invokevirtual 67, 3) := by decide +kernel
theorem dX7_does_49 : decode cX7_does 49 = .ok (.ifCond .ne 7, 3) := by decide +kernel
theorem dX7_does_52 : decode cX7_does 52 = .ok (.iconst 1, 1) := by decide +kernel
theorem dX7_does_53 : decode cX7_does 53 = .ok (.goto 4, 3) := by decide +kernel
theorem dX7_does_56 : decode cX7_does 56 = .ok (.iconst 0, 1) := by decide +kernel
theorem dX7_does_57 : decode cX7_does 57 = .ok (.ireturn, 1) := by decide +kernel
theorem dX7_does_58 : decode cX7_does 58 = .ok (.aload_n 0, 1) := by decide +kernel
theorem dX7_does_59 : decode cX7_does 59 = .ok (.getfield 17, 3) := by decide +kernel
theorem dX7_does_62 : decode cX7_does 62 = .ok (.iload_n 1, 1) := by decide +kernel
theorem dX7_does_63 : decode cX7_does 63 = .ok (.caload, 1) := by decide +kernel
theorem dX7_does_64 : decode cX7_does 64 = .ok (.bipush 98, 2) := by decide +kernel
theorem dX7_does_66 : decode cX7_does 66 = .ok (.if_icmp .ne 25, 3) := by decide +kernel
theorem dX7_does_69 : decode cX7_does 69 = .ok (.aload_n 0, 1) := by decide +kernel
theorem dX7_does_70 : decode cX7_does 70 = .ok (.iload_n 2, 1) := by decide +kernel
theorem dX7_does_71 : decode cX7_does 71 = .ok (.invokevirtual 84, 3) := by decide +kernel
theorem dX7_does_74 : decode cX7_does 74 = .ok (.ifCond .eq 15, 3) := by decide +kernel
theorem dX7_does_77 : decode cX7_does 77 = .ok (.aload_n 0, 1) := by decide +kernel
theorem dX7_does_78 : decode cX7_does 78 = .ok (.iload_n 2, 1) := by decide +kernel
theorem dX7_does_79 : decode cX7_does 79 = .ok (.invokevirtual 87, 3) := by decide +kernel
theorem dX7_does_82 : decode cX7_does 82 = .ok (.ifCond .le 7, 3) := by decide +kernel
theorem dX7_does_85 : decode cX7_does 85 = .ok (.iconst 1, 1) := by decide +kernel
theorem dX7_does_86 : decode cX7_does 86 = .ok (.goto 4, 3) := by decide +kernel
theorem dX7_does_89 : decode cX7_does 89 = .ok (.iconst 0, 1) := by decide +kernel
theorem dX7_does_90 : decode cX7_does 90 = .ok (.ireturn, 1) := by decide +kernel
theorem dX7_does_91 : decode cX7_does 91 = .ok (.aload_n 0, 1) := by decide +kernel
theorem dX7_does_92 : decode cX7_does 92 = .ok (.getfield 17, 3) := by decide +kernel
theorem dX7_does_95 : decode cX7_does 95 = .ok (.iload_n 1, 1) := by decide +kernel
theorem dX7_does_96 : decode cX7_does 96 = .ok (.caload, 1) := by decide +kernel
theorem dX7_does_97 : decode cX7_does 97 = .ok (.bipush 100, 2) := by decide +kernel
theorem dX7_does_99 : decode cX7_does 99 = .ok (.if_icmp .ne 32, 3) := by decide +kernel
theorem dX7_does_102 : decode cX7_does 102 = .ok (.iload_n 2, 1) := by decide +kernel
theorem dX7_does_103 : decode cX7_does 103 = .ok (.bipush 90, 2) := by decide +kernel
theorem dX7_does_105 : decode cX7_does 105 = .ok (.aload_n 0, 1) := by decide +kernel
theorem dX7_does_106 : decode cX7_does 106 = .ok (.getfield 7, 3) := by decide +kernel
theorem dX7_does_109 : decode cX7_does 109 = .ok (.sipush 457, 3) := by decide +kernel
theorem dX7_does_112 : decode cX7_does 112 = .ok (.iaload, 1) := by decide +kernel
theorem dX7_does_113 : decode cX7_does 113 = .ok (.isub, 1) := by decide +kernel
theorem dX7_does_114 : decode cX7_does 114 = .ok (.if_icmp .gt 15, 3) := by decide +kernel
theorem dX7_does_117 : decode cX7_does 117 = .ok (.aload_n 0, 1) := by decide +kernel
theorem dX7_does_118 : decode cX7_does 118 = .ok (.iload_n 2, 1) := by decide +kernel
theorem dX7_does_119 : decode cX7_does 119 = .ok (.invokevirtual 93, 3) := by decide +kernel
theorem dX7_does_122 : decode cX7_does 122 = .ok (.ifCond .le 7, 3) := by decide +kernel
theorem dX7_does_125 : decode cX7_does 125 = .ok (.iconst 1, 1) := by decide +kernel
theorem dX7_does_126 : decode cX7_does 126 = .ok (.goto 4, 3) := by decide +kernel
theorem dX7_does_129 : decode cX7_does 129 = .ok (.iconst 0, 1) := by decide +kernel
theorem dX7_does_130 : decode cX7_does 130 = .ok (.ireturn, 1) := by decide +kernel
theorem dX7_does_131 : decode cX7_does 131 = .ok (.aload_n 0, 1) := by decide +kernel
theorem dX7_does_132 : decode cX7_does 132 = .ok (.getfield 7, 3) := by decide +kernel
theorem dX7_does_135 : decode cX7_does 135 = .ok (.sipush 458, 3) := by decide +kernel
theorem dX7_does_138 : decode cX7_does 138 = .ok (.iload_n 2, 1) := by decide +kernel
theorem dX7_does_139 : decode cX7_does 139 = .ok (.iadd, 1) := by decide +kernel
theorem dX7_does_140 : decode cX7_does 140 = .ok (.iaload, 1) := by decide +kernel
theorem dX7_does_141 : decode cX7_does 141 = .ok (.iconst 1, 1) := by decide +kernel
theorem dX7_does_142 : decode cX7_does 142 = .ok (.if_icmp .ne 22, 3) := by decide +kernel
theorem dX7_does_145 : decode cX7_does 145 = .ok (.aload_n 0, 1) := by decide +kernel
theorem dX7_does_146 : decode cX7_does 146 = .ok (.iload_n 2, 1) := by decide +kernel
theorem dX7_does_147 : decode cX7_does 147 = .ok (.aload_n 0, 1) := by decide +kernel
theorem dX7_does_148 : decode cX7_does 148 = .ok (.iload_n 1, 1) := by decide +kernel
theorem dX7_does_149 : decode cX7_does 149 = .ok (.iconst 2, 1) := by decide +kernel
theorem dX7_does_150 : decode cX7_does 150 = .ok (.iadd, 1) := by decide +kernel
theorem dX7_does_151 : decode cX7_does 151 = .ok (.invokevirtual 137, 3) := by decide +kernel
theorem dX7_does_154 : decode cX7_does 154 = .ok (.invokevirtual 109, 3) := by decide +kernel
theorem dX7_does_157 : decode cX7_does 157 = .ok (.ifCond .ne 7, 3) := by decide +kernel
theorem dX7_does_160 : decode cX7_does 160 = .ok (.iconst 1, 1) := by decide +kernel
theorem dX7_does_161 : decode cX7_does 161 = .ok (.goto 4, 3) := by decide +kernel
theorem dX7_does_164 : decode cX7_does 164 = .ok (.iconst 0, 1) := by decide +kernel
theorem dX7_does_165 : decode cX7_does 165 = .ok (.ireturn, 1) := by decide +kernel
theorem dX7_run_0 : decode cX7_run 0 = .ok (.aload_n 0, 1) := by decide +kernel
theorem dX7_run_1 : decode cX7_run 1 = .ok (.aload_n 0, 1) := by decide +kernel
theorem dX7_run_2 : decode cX7_run 2 = .ok (.invokevirtual 134, 3) := by decide +kernel
theorem dX7_run_5 : decode cX7_run 5 = .ok (.ifCond .ge 7, 3) := by decide +kernel
theorem dX7_run_8 : decode cX7_run 8 = .ok (.iconst 1, 1) := by decide +kernel
theorem dX7_run_9 : decode cX7_run 9 = .ok (.goto 4, 3) := by decide +kernel
theorem dX7_run_12 : decode cX7_run 12 = .ok (.iconst 0, 1) := by decide +kernel
theorem dX7_run_13 : decode cX7_run 13 = .ok (.iconst 1, 1) := by decide +kernel
theorem dX7_run_14 : decode cX7_run 14 = .ok (.iconst 1, 1) := by decide +kernel
theorem dX7_run_15 : decode cX7_run 15 = .ok (.invokevirtual 60, 3) := by decide +kernel
theorem dX7_run_18 : decode cX7_run 18 = .ok (.ifCond .ne 5, 3) := by decide +kernel
theorem dX7_run_21 : decode cX7_run 21 = .ok (.iconst 0, 1) := by decide +kernel
theorem dX7_run_22 : decode cX7_run 22 = .ok (.ireturn, 1) := by decide +kernel
theorem dX7_run_23 : decode cX7_run 23 = .ok (.aload_n 0, 1) := by decide +kernel
theorem dX7_run_24 : decode cX7_run 24 = .ok (.invokevirtual 64, 3) := by decide +kernel
theorem dX7_run_27 : decode cX7_run 27 = .ok (.iconst 0, 1) := by decide +kernel
theorem dX7_run_28 : decode cX7_run 28 = .ok (.istore_n 1, 1) := by decide +kernel
theorem dX7_run_29 : decode cX7_run 29 = .ok (.iconst 0, 1) := by decide +kernel
theorem dX7_run_30 : decode cX7_run 30 = .ok (.istore_n 2, 1) := by decide +kernel
theorem dX7_run_31 : decode cX7_run 31 = .ok (.iconst 1, 1) := by decide +kernel
theorem dX7_run_32 : decode cX7_run 32 = .ok (.istore_n 3, 1) := by decide +kernel
theorem dX7_run_33 : decode cX7_run 33 = .ok (.iload_n 1, 1) := by decide +kernel
theorem dX7_run_34 : decode cX7_run 34 = .ok (.aload_n 0, 1) := by decide +kernel
theorem dX7_run_35 : decode cX7_run 35 = .ok (.getfield 121, 3) := by decide +kernel
theorem dX7_run_38 : decode cX7_run 38 = .ok (.if_icmp .ge 34, 3) := by decide +kernel
theorem dX7_run_41 : decode cX7_run 41 = .ok (.iload_n 3, 1) := by decide +kernel
theorem dX7_run_42 : decode cX7_run 42 = .ok (.ifCond .eq 30, 3) := by decide +kernel
theorem dX7_run_45 : decode cX7_run 45 = .ok (.aload_n 0, 1) := by decide +kernel
theorem dX7_run_46 : decode cX7_run 46 = .ok (.iload_n 1, 1) := by decide +kernel
theorem dX7_run_47 : decode cX7_run 47 = .ok (.invokevirtual 140, 3) := by decide +kernel
theorem dX7_run_50 : decode cX7_run 50 = .ok (.istore_n 3, 1) := by decide +kernel
theorem dX7_run_51 : decode cX7_run 51 = .ok (.iload_n 2, 1) := by decide +kernel
theorem dX7_run_52 : decode cX7_run 52 = .ok (.iload_n 3, 1) := by decide +kernel
theorem dX7_run_53 : decode cX7_run 53 = .ok (.ifCond .eq 7, 3) := by decide +kernel
theorem dX7_run_56 : decode cX7_run 56 = .ok (.iconst 1, 1) := by decide +kernel
theorem dX7_run_57 : decode cX7_run 57 = .ok (.goto 4, 3) := by decide +kernel
theorem dX7_run_60 : decode cX7_run 60 = .ok (.iconst 0, 1) := by decide +kernel
theorem dX7_run_61 : decode cX7_run 61 = .ok (.iadd, 1) := by decide +kernel
theorem dX7_run_62 : decode cX7_run 62 = .ok (.istore_n 2, 1) := by decide +kernel
theorem dX7_run_63 : decode cX7_run 63 = .ok (.aload_n 0, 1) := by decide +kernel
theorem dX7_run_64 : decode cX7_run 64 = .ok (.iload_n 1, 1) := by decide +kernel
theorem dX7_run_65 : decode cX7_run 65 = .ok (.invokevirtual 131, 3) := by decide +kernel
theorem dX7_run_68 : decode cX7_run 68 = .ok (.istore_n 1, 1) := by decide +kernel
theorem dX7_run_69 : decode cX7_run 69 = .ok (.goto (-36), 3) := by decide +kernel
theorem dX7_run_72 : decode cX7_run 72 = .ok (.aload_n 0, 1) := by decide +kernel
theorem dX7_run_73 : decode cX7_run 73 = .ok (.iconst 0, 1) := by decide +kernel
theorem dX7_run_74 : decode cX7_run 74 = .ok (.putfield 121, 3) := by decide +kernel
theorem dX7_run_77 : decode cX7_run 77 = .ok (.iload_n 2, 1) := by decide +kernel
theorem dX7_run_78 : decode cX7_run 78 = .ok (.ireturn, 1) := by decide +kernel
theorem dX7_keep_0 : decode cX7_keep 0 = .ok (.aload_n 0, 1) := by decide +kernel
theorem dX7_keep_1 : decode cX7_keep 1 = .ok (.iload_n 1, 1) := by decide +kernel
theorem dX7_keep_2 : decode cX7_keep 2 = .ok (.iconst 0, 1) := by decide +kernel
theorem dX7_keep_3 : decode cX7_keep 3 = .ok (.iconst 1, 1) := by decide +kernel
theorem dX7_keep_4 : decode cX7_keep 4 = .ok (.invokestatic 32, 3) := by decide +kernel
theorem dX7_keep_7 : decode cX7_keep 7 = .ok (.iconst 1, 1) := by decide +kernel
theorem dX7_keep_8 : decode cX7_keep 8 = .ok (.iconst 1, 1) := by decide +kernel
theorem dX7_keep_9 : decode cX7_keep 9 = .ok (.invokevirtual 60, 3) := by decide +kernel
theorem dX7_keep_12 : decode cX7_keep 12 = .ok (.ifCond .ne 5, 3) := by decide +kernel
theorem dX7_keep_15 : decode cX7_keep 15 = .ok (.iconst 0, 1) := by decide +kernel
theorem dX7_keep_16 : decode cX7_keep 16 = .ok (.ireturn, 1) := by decide +kernel
theorem dX7_keep_17 : decode cX7_keep 17 = .ok (.aload_n 0, 1) := by decide +kernel
theorem dX7_keep_18 : decode cX7_keep 18 = .ok (.iconst 0, 1) := by decide +kernel
theorem dX7_keep_19 : decode cX7_keep 19 = .ok (.bipush 7, 2) := by decide +kernel
theorem dX7_keep_21 : decode cX7_keep 21 = .ok (.iload_n 1, 1) := by decide +kernel
theorem dX7_keep_22 : decode cX7_keep 22 = .ok (.iadd, 1) := by decide +kernel
theorem dX7_keep_23 : decode cX7_keep 23 = .ok (.invokevirtual 28, 3) := by decide +kernel
theorem dX7_keep_26 : decode cX7_keep 26 = .ok (.aload_n 0, 1) := by decide +kernel
theorem dX7_keep_27 : decode cX7_keep 27 = .ok (.getfield 13, 3) := by decide +kernel
theorem dX7_keep_30 : decode cX7_keep 30 = .ok (.iload_n 1, 1) := by decide +kernel
theorem dX7_keep_31 : decode cX7_keep 31 = .ok (.iconst 1, 1) := by decide +kernel
theorem dX7_keep_32 : decode cX7_keep 32 = .ok (.bastore, 1) := by decide +kernel
theorem dX7_keep_33 : decode cX7_keep 33 = .ok (.aload_n 0, 1) := by decide +kernel
theorem dX7_keep_34 : decode cX7_keep 34 = .ok (.invokevirtual 70, 3) := by decide +kernel
theorem dX7_keep_37 : decode cX7_keep 37 = .ok (.ireturn, 1) := by decide +kernel
theorem dX7_goBack_0 : decode cX7_goBack 0 = .ok (.aload_n 0, 1) := by decide +kernel
theorem dX7_goBack_1 : decode cX7_goBack 1 = .ok (.iload_n 1, 1) := by decide +kernel
theorem dX7_goBack_2 : decode cX7_goBack 2 = .ok (.iconst 0, 1) := by decide +kernel
theorem dX7_goBack_3 : decode cX7_goBack 3 = .ok (.iconst 1, 1) := by decide +kernel
theorem dX7_goBack_4 : decode cX7_goBack 4 = .ok (.invokestatic 32, 3) := by decide +kernel
theorem dX7_goBack_7 : decode cX7_goBack 7 = .ok (.iload_n 1, 1) := by decide +kernel
theorem dX7_goBack_8 : decode cX7_goBack 8 = .ok (.iconst 0, 1) := by decide +kernel
theorem dX7_goBack_9 : decode cX7_goBack 9 = .ok (.iconst 1, 1) := by decide +kernel
theorem dX7_goBack_10 : decode cX7_goBack 10 = .ok (.invokestatic 32, 3) := by decide +kernel
theorem dX7_goBack_13 : decode cX7_goBack 13 = .ok (.ifCond .eq 16, 3) := by decide +kernel
theorem dX7_goBack_16 : decode cX7_goBack 16 = .ok (.aload_n 0, 1) := by decide +kernel
theorem dX7_goBack_17 : decode cX7_goBack 17 = .ok (.getfield 13, 3) := by decide +kernel
theorem dX7_goBack_20 : decode cX7_goBack 20 = .ok (.iload_n 1, 1) := by decide +kernel
theorem dX7_goBack_21 : decode cX7_goBack 21 = .ok (.baload, 1) := by decide +kernel
theorem dX7_goBack_22 : decode cX7_goBack 22 = .ok (.ifCond .eq 7, 3) := by decide +kernel
theorem dX7_goBack_25 : decode cX7_goBack 25 = .ok (.iconst 1, 1) := by decide +kernel
theorem dX7_goBack_26 : decode cX7_goBack 26 = .ok (.goto 4, 3) := by decide +kernel
theorem dX7_goBack_29 : decode cX7_goBack 29 = .ok (.iconst 0, 1) := by decide +kernel
theorem dX7_goBack_30 : decode cX7_goBack 30 = .ok (.iconst 1, 1) := by decide +kernel
theorem dX7_goBack_31 : decode cX7_goBack 31 = .ok (.invokevirtual 60, 3) := by decide +kernel
theorem dX7_goBack_34 : decode cX7_goBack 34 = .ok (.ifCond .ne 5, 3) := by decide +kernel
theorem dX7_goBack_37 : decode cX7_goBack 37 = .ok (.iconst 0, 1) := by decide +kernel
theorem dX7_goBack_38 : decode cX7_goBack 38 = .ok (.ireturn, 1) := by decide +kernel
theorem dX7_goBack_39 : decode cX7_goBack 39 = .ok (.aload_n 0, 1) := by decide +kernel
theorem dX7_goBack_40 : decode cX7_goBack 40 = .ok (.invokevirtual 64, 3) := by decide +kernel
theorem dX7_goBack_43 : decode cX7_goBack 43 = .ok (.aload_n 0, 1) := by decide +kernel
theorem dX7_goBack_44 : decode cX7_goBack 44 = .ok (.bipush 7, 2) := by decide +kernel
theorem dX7_goBack_46 : decode cX7_goBack 46 = .ok (.iload_n 1, 1) := by decide +kernel
theorem dX7_goBack_47 : decode cX7_goBack 47 = .ok (.iadd, 1) := by decide +kernel
theorem dX7_goBack_48 : decode cX7_goBack 48 = .ok (.iconst 0, 1) := by decide +kernel
theorem dX7_goBack_49 : decode cX7_goBack 49 = .ok (.invokevirtual 28, 3) := by decide +kernel
theorem dX7_goBack_52 : decode cX7_goBack 52 = .ok (.aload_n 0, 1) := by decide +kernel
theorem dX7_goBack_53 : decode cX7_goBack 53 = .ok (.invokevirtual 70, 3) := by decide +kernel
theorem dX7_goBack_56 : decode cX7_goBack 56 = .ok (.ireturn, 1) := by decide +kernel
theorem dX7_undo_0 : decode cX7_undo 0 = .ok (.aload_n 0, 1) := by decide +kernel
theorem dX7_undo_1 : decode cX7_undo 1 = .ok (.aload_n 0, 1) := by decide +kernel
theorem dX7_undo_2 : decode cX7_undo 2 = .ok (.getfield 25, 3) := by decide +kernel
theorem dX7_undo_5 : decode cX7_undo 5 = .ok (.ifCond .le 7, 3) := by decide +kernel
theorem dX7_undo_8 : decode cX7_undo 8 = .ok (.iconst 1, 1) := by decide +kernel
theorem dX7_undo_9 : decode cX7_undo 9 = .ok (.goto 4, 3) := by decide +kernel
theorem dX7_undo_12 : decode cX7_undo 12 = .ok (.iconst 0, 1) := by decide +kernel
theorem dX7_undo_13 : decode cX7_undo 13 = .ok (.iconst 1, 1) := by decide +kernel
theorem dX7_undo_14 : decode cX7_undo 14 = .ok (.iconst 1, 1) := by decide +kernel
theorem dX7_undo_15 : decode cX7_undo 15 = .ok (.invokevirtual 60, 3) := by decide +kernel
theorem dX7_undo_18 : decode cX7_undo 18 = .ok (.ifCond .ne 5, 3) := by decide +kernel
theorem dX7_undo_21 : decode cX7_undo 21 = .ok (.iconst 0, 1) := by decide +kernel
theorem dX7_undo_22 : decode cX7_undo 22 = .ok (.ireturn, 1) := by decide +kernel
theorem dX7_undo_23 : decode cX7_undo 23 = .ok (.aload_n 0, 1) := by decide +kernel
theorem dX7_undo_24 : decode cX7_undo 24 = .ok (.aload_n 0, 1) := by decide +kernel
theorem dX7_undo_25 : decode cX7_undo 25 = .ok (.getfield 25, 3) := by decide +kernel
theorem dX7_undo_28 : decode cX7_undo 28 = .ok (.iconst 0, 1) := by decide +kernel
theorem dX7_undo_29 : decode cX7_undo 29 = .ok (.invokevirtual 28, 3) := by decide +kernel
theorem dX7_undo_32 : decode cX7_undo 32 = .ok (.aload_n 0, 1) := by decide +kernel
theorem dX7_undo_33 : decode cX7_undo 33 = .ok (.dup, 1) := by decide +kernel
theorem dX7_undo_34 : decode cX7_undo 34 = .ok (.getfield 25, 3) := by decide +kernel
theorem dX7_undo_37 : decode cX7_undo 37 = .ok (.iconst 1, 1) := by decide +kernel
theorem dX7_undo_38 : decode cX7_undo 38 = .ok (.isub, 1) := by decide +kernel
theorem dX7_undo_39 : decode cX7_undo 39 = .ok (.putfield 25, 3) := by decide +kernel
theorem dX7_undo_42 : decode cX7_undo 42 = .ok (.aload_n 0, 1) := by decide +kernel
theorem dX7_undo_43 : decode cX7_undo 43 = .ok (.getfield 25, 3) := by decide +kernel
theorem dX7_undo_46 : decode cX7_undo 46 = .ok (.ireturn, 1) := by decide +kernel
theorem dX7_at_0 : decode cX7_at 0 = .ok (.aload_n 0, 1) := by decide +kernel
theorem dX7_at_1 : decode cX7_at 1 = .ok (.iload_n 1, 1) := by decide +kernel
theorem dX7_at_2 : decode cX7_at 2 = .ok (.invokestatic 50, 3) := by decide +kernel
theorem dX7_at_5 : decode cX7_at 5 = .ok (.ifCond .eq 24, 3) := by decide +kernel
theorem dX7_at_8 : decode cX7_at 8 = .ok (.iload_n 2, 1) := by decide +kernel
theorem dX7_at_9 : decode cX7_at 9 = .ok (.invokestatic 54, 3) := by decide +kernel
theorem dX7_at_12 : decode cX7_at 12 = .ok (.ifCond .eq 17, 3) := by decide +kernel
theorem dX7_at_15 : decode cX7_at 15 = .ok (.iload_n 3, 1) := by decide +kernel
theorem dX7_at_16 : decode cX7_at 16 = .ok (.iconst 0, 1) := by decide +kernel
theorem dX7_at_17 : decode cX7_at 17 = .ok (.bipush 8, 2) := by decide +kernel
theorem dX7_at_19 : decode cX7_at 19 = .ok (.invokestatic 32, 3) := by decide +kernel
theorem dX7_at_22 : decode cX7_at 22 = .ok (.ifCond .eq 7, 3) := by decide +kernel
theorem dX7_at_25 : decode cX7_at 25 = .ok (.iconst 1, 1) := by decide +kernel
theorem dX7_at_26 : decode cX7_at 26 = .ok (.goto 4, 3) := by decide +kernel
theorem dX7_at_29 : decode cX7_at 29 = .ok (.iconst 0, 1) := by decide +kernel
theorem dX7_at_30 : decode cX7_at 30 = .ok (.iconst 1, 1) := by decide +kernel
theorem dX7_at_31 : decode cX7_at 31 = .ok (.iconst 1, 1) := by decide +kernel
theorem dX7_at_32 : decode cX7_at 32 = .ok (.invokevirtual 60, 3) := by decide +kernel
theorem dX7_at_35 : decode cX7_at 35 = .ok (.ifCond .eq 13, 3) := by decide +kernel
theorem dX7_at_38 : decode cX7_at 38 = .ok (.aload_n 0, 1) := by decide +kernel
theorem dX7_at_39 : decode cX7_at 39 = .ok (.iload_n 1, 1) := by decide +kernel
theorem dX7_at_40 : decode cX7_at 40 = .ok (.iload_n 2, 1) := by decide +kernel
theorem dX7_at_41 : decode cX7_at 41 = .ok (.iload_n 3, 1) := by decide +kernel
theorem dX7_at_42 : decode cX7_at 42 = .ok (.invokevirtual 44, 3) := by decide +kernel
theorem dX7_at_45 : decode cX7_at 45 = .ok (.goto 4, 3) := by decide +kernel
theorem dX7_at_48 : decode cX7_at 48 = .ok (.iconst 0, 1) := by decide +kernel
theorem dX7_at_49 : decode cX7_at 49 = .ok (.ireturn, 1) := by decide +kernel
theorem dX7_fullRows_0 : decode cX7_fullRows 0 = .ok (.iconst 0, 1) := by decide +kernel
theorem dX7_fullRows_1 : decode cX7_fullRows 1 = .ok (.istore_n 2, 1) := by decide +kernel
theorem dX7_fullRows_2 : decode cX7_fullRows 2 = .ok (.iconst 0, 1) := by decide +kernel
theorem dX7_fullRows_3 : decode cX7_fullRows 3 = .ok (.istore_n 3, 1) := by decide +kernel
theorem dX7_fullRows_4 : decode cX7_fullRows 4 = .ok (.iload_n 3, 1) := by decide +kernel
theorem dX7_fullRows_5 : decode cX7_fullRows 5 = .ok (.iconst 3, 1) := by decide +kernel
theorem dX7_fullRows_6 : decode cX7_fullRows 6 = .ok (.if_icmp .ge 28, 3) := by decide +kernel
theorem dX7_fullRows_9 : decode cX7_fullRows 9 = .ok (.iload_n 2, 1) := by decide +kernel
theorem dX7_fullRows_10 : decode cX7_fullRows 10 = .ok (.aload_n 0, 1) := by decide +kernel
theorem dX7_fullRows_11 : decode cX7_fullRows 11 = .ok (.iload_n 1, 1) := by decide +kernel
theorem dX7_fullRows_12 : decode cX7_fullRows 12 = .ok (.iload_n 3, 1) := by decide +kernel
theorem dX7_fullRows_13 : decode cX7_fullRows 13 = .ok (.iconst 1, 1) := by decide +kernel
theorem dX7_fullRows_14 : decode cX7_fullRows 14 = .ok (.invokevirtual 40, 3) := by decide +kernel
theorem dX7_fullRows_17 : decode cX7_fullRows 17 = .ok (.iconst 5, 1) := by decide +kernel
theorem dX7_fullRows_18 : decode cX7_fullRows 18 = .ok (.if_icmp .ne 7, 3) := by decide +kernel
theorem dX7_fullRows_21 : decode cX7_fullRows 21 = .ok (.iconst 1, 1) := by decide +kernel
theorem dX7_fullRows_22 : decode cX7_fullRows 22 = .ok (.goto 4, 3) := by decide +kernel
theorem dX7_fullRows_25 : decode cX7_fullRows 25 = .ok (.iconst 0, 1) := by decide +kernel
theorem dX7_fullRows_26 : decode cX7_fullRows 26 = .ok (.iadd, 1) := by decide +kernel
theorem dX7_fullRows_27 : decode cX7_fullRows 27 = .ok (.istore_n 2, 1) := by decide +kernel
theorem dX7_fullRows_28 : decode cX7_fullRows 28 = .ok (.iinc 3 1, 3) := by decide +kernel
theorem dX7_fullRows_31 : decode cX7_fullRows 31 = .ok (.goto (-27), 3) := by decide +kernel
theorem dX7_fullRows_34 : decode cX7_fullRows 34 = .ok (.iload_n 2, 1) := by decide +kernel
theorem dX7_fullRows_35 : decode cX7_fullRows 35 = .ok (.ireturn, 1) := by decide +kernel
theorem dX7_cards_0 : decode cX7_cards 0 = .ok (.iload_n 2, 1) := by decide +kernel
theorem dX7_cards_1 : decode cX7_cards 1 = .ok (.tableswitch 121 0 7 #[47, 54, 68, 79, 86, 93, 99, 110], 47) := by decide +kernel
theorem dX7_cards_48 : decode cX7_cards 48 = .ok (.aload_n 0, 1) := by decide +kernel
theorem dX7_cards_49 : decode cX7_cards 49 = .ok (.iload_n 1, 1) := by decide +kernel
theorem dX7_cards_50 : decode cX7_cards 50 = .ok (.iconst 0, 1) := by decide +kernel
theorem dX7_cards_51 : decode cX7_cards 51 = .ok (.invokevirtual 143, 3) := by decide +kernel
theorem dX7_cards_54 : decode cX7_cards 54 = .ok (.ireturn, 1) := by decide +kernel
theorem dX7_cards_55 : decode cX7_cards 55 = .ok (.aload_n 0, 1) := by decide +kernel
theorem dX7_cards_56 : decode cX7_cards 56 = .ok (.iload_n 1, 1) := by decide +kernel
theorem dX7_cards_57 : decode cX7_cards 57 = .ok (.invokevirtual 81, 3) := by decide +kernel
