theorem dX7_cards_60 : decode cX7_cards 60 = .ok (.ifCond .eq 7, 3) := by decide +kernel
theorem dX7_cards_63 : decode cX7_cards 63 = .ok (.iconst 1, 1) := by decide +kernel
theorem dX7_cards_64 : decode cX7_cards 64 = .ok (.goto 4, 3) := by decide +kernel
theorem dX7_cards_67 : decode cX7_cards 67 = .ok (.iconst 0, 1) := by decide +kernel
theorem dX7_cards_68 : decode cX7_cards 68 = .ok (.ireturn, 1) := by decide +kernel
theorem dX7_cards_69 : decode cX7_cards 69 = .ok (.aload_n 0, 1) := by decide +kernel
theorem dX7_cards_70 : decode cX7_cards 70 = .ok (.getfield 7, 3) := by decide +kernel
theorem dX7_cards_73 : decode cX7_cards 73 = .ok (.sipush 458, 3) := by decide +kernel
theorem dX7_cards_76 : decode cX7_cards 76 = .ok (.iload_n 1, 1) := by decide +kernel
theorem dX7_cards_77 : decode cX7_cards 77 = .ok (.iadd, 1) := by decide +kernel
theorem dX7_cards_78 : decode cX7_cards 78 = .ok (.iaload, 1) := by decide +kernel
theorem dX7_cards_79 : decode cX7_cards 79 = .ok (.ireturn, 1) := by decide +kernel
theorem dX7_cards_80 : decode cX7_cards 80 = .ok (.aload_n 0, 1) := by decide +kernel
theorem dX7_cards_81 : decode cX7_cards 81 = .ok (.iload_n 1, 1) := by decide +kernel
theorem dX7_cards_82 : decode cX7_cards 82 = .ok (.iconst 1, 1) := by decide +kernel
theorem dX7_cards_83 : decode cX7_cards 83 = .ok (.invokevirtual 143, 3) := by decide +kernel
theorem dX7_cards_86 : decode cX7_cards 86 = .ok (.ireturn, 1) := by decide +kernel
theorem dX7_cards_87 : decode cX7_cards 87 = .ok (.aload_n 0, 1) := by decide +kernel
theorem dX7_cards_88 : decode cX7_cards 88 = .ok (.iload_n 1, 1) := by decide +kernel
theorem dX7_cards_89 : decode cX7_cards 89 = .ok (.iconst 2, 1) := by decide +kernel
theorem dX7_cards_90 : decode cX7_cards 90 = .ok (.invokevirtual 143, 3) := by decide +kernel
theorem dX7_cards_93 : decode cX7_cards 93 = .ok (.ireturn, 1) := by decide +kernel
theorem dX7_cards_94 : decode cX7_cards 94 = .ok (.aload_n 0, 1) := by decide +kernel
theorem dX7_cards_95 : decode cX7_cards 95 = .ok (.iload_n 1, 1) := by decide +kernel
theorem dX7_cards_96 : decode cX7_cards 96 = .ok (.invokevirtual 146, 3) := by decide +kernel
theorem dX7_cards_99 : decode cX7_cards 99 = .ok (.ireturn, 1) := by decide +kernel
theorem dX7_cards_100 : decode cX7_cards 100 = .ok (.aload_n 0, 1) := by decide +kernel
theorem dX7_cards_101 : decode cX7_cards 101 = .ok (.getfield 7, 3) := by decide +kernel
theorem dX7_cards_104 : decode cX7_cards 104 = .ok (.sipush 464, 3) := by decide +kernel
theorem dX7_cards_107 : decode cX7_cards 107 = .ok (.iload_n 1, 1) := by decide +kernel
theorem dX7_cards_108 : decode cX7_cards 108 = .ok (.iadd, 1) := by decide +kernel
theorem dX7_cards_109 : decode cX7_cards 109 = .ok (.iaload, 1) := by decide +kernel
theorem dX7_cards_110 : decode cX7_cards 110 = .ok (.ireturn, 1) := by decide +kernel
theorem dX7_cards_111 : decode cX7_cards 111 = .ok (.aload_n 0, 1) := by decide +kernel
theorem dX7_cards_112 : decode cX7_cards 112 = .ok (.getfield 7, 3) := by decide +kernel
theorem dX7_cards_115 : decode cX7_cards 115 = .ok (.sipush 470, 3) := by decide +kernel
theorem dX7_cards_118 : decode cX7_cards 118 = .ok (.iload_n 1, 1) := by decide +kernel
theorem dX7_cards_119 : decode cX7_cards 119 = .ok (.iadd, 1) := by decide +kernel
theorem dX7_cards_120 : decode cX7_cards 120 = .ok (.iaload, 1) := by decide +kernel
theorem dX7_cards_121 : decode cX7_cards 121 = .ok (.ireturn, 1) := by decide +kernel
theorem dX7_cards_122 : decode cX7_cards 122 = .ok (.aload_n 0, 1) := by decide +kernel
theorem dX7_cards_123 : decode cX7_cards 123 = .ok (.getfield 7, 3) := by decide +kernel
theorem dX7_cards_126 : decode cX7_cards 126 = .ok (.sipush 476, 3) := by decide +kernel
theorem dX7_cards_129 : decode cX7_cards 129 = .ok (.iload_n 1, 1) := by decide +kernel
theorem dX7_cards_130 : decode cX7_cards 130 = .ok (.iadd, 1) := by decide +kernel
theorem dX7_cards_131 : decode cX7_cards 131 = .ok (.iaload, 1) := by decide +kernel
theorem dX7_cards_132 : decode cX7_cards 132 = .ok (.ireturn, 1) := by decide +kernel
theorem dX7_cardOf_0 : decode cX7_cardOf 0 = .ok (.aload_n 0, 1) := by decide +kernel
theorem dX7_cardOf_1 : decode cX7_cardOf 1 = .ok (.iload_n 1, 1) := by decide +kernel
theorem dX7_cardOf_2 : decode cX7_cardOf 2 = .ok (.invokestatic 50, 3) := by decide +kernel
theorem dX7_cardOf_5 : decode cX7_cardOf 5 = .ok (.iload_n 2, 1) := by decide +kernel
theorem dX7_cardOf_6 : decode cX7_cardOf 6 = .ok (.iconst 0, 1) := by decide +kernel
theorem dX7_cardOf_7 : decode cX7_cardOf 7 = .ok (.bipush 8, 2) := by decide +kernel
theorem dX7_cardOf_9 : decode cX7_cardOf 9 = .ok (.invokestatic 32, 3) := by decide +kernel
theorem dX7_cardOf_12 : decode cX7_cardOf 12 = .ok (.iconst 1, 1) := by decide +kernel
theorem dX7_cardOf_13 : decode cX7_cardOf 13 = .ok (.invokevirtual 60, 3) := by decide +kernel
theorem dX7_cardOf_16 : decode cX7_cardOf 16 = .ok (.ifCond .eq 12, 3) := by decide +kernel
theorem dX7_cardOf_19 : decode cX7_cardOf 19 = .ok (.aload_n 0, 1) := by decide +kernel
theorem dX7_cardOf_20 : decode cX7_cardOf 20 = .ok (.iload_n 1, 1) := by decide +kernel
theorem dX7_cardOf_21 : decode cX7_cardOf 21 = .ok (.iload_n 2, 1) := by decide +kernel
theorem dX7_cardOf_22 : decode cX7_cardOf 22 = .ok (.invokevirtual 149, 3) := by decide +kernel
theorem dX7_cardOf_25 : decode cX7_cardOf 25 = .ok (.goto 4, 3) := by decide +kernel
theorem dX7_cardOf_28 : decode cX7_cardOf 28 = .ok (.iconst 0, 1) := by decide +kernel
theorem dX7_cardOf_29 : decode cX7_cardOf 29 = .ok (.ireturn, 1) := by decide +kernel
theorem dX7_numbers_0 : decode cX7_numbers 0 = .ok (.aload_n 0, 1) := by decide +kernel
theorem dX7_numbers_1 : decode cX7_numbers 1 = .ok (.getfield 7, 3) := by decide +kernel
theorem dX7_numbers_4 : decode cX7_numbers 4 = .ok (.iconst 4, 1) := by decide +kernel
theorem dX7_numbers_5 : decode cX7_numbers 5 = .ok (.iload_n 1, 1) := by decide +kernel
theorem dX7_numbers_6 : decode cX7_numbers 6 = .ok (.iadd, 1) := by decide +kernel
theorem dX7_numbers_7 : decode cX7_numbers 7 = .ok (.iaload, 1) := by decide +kernel
theorem dX7_numbers_8 : decode cX7_numbers 8 = .ok (.iconst 1, 1) := by decide +kernel
theorem dX7_numbers_9 : decode cX7_numbers 9 = .ok (.isub, 1) := by decide +kernel
theorem dX7_numbers_10 : decode cX7_numbers 10 = .ok (.istore_n 3, 1) := by decide +kernel
theorem dX7_numbers_11 : decode cX7_numbers 11 = .ok (.iload_n 2, 1) := by decide +kernel
theorem dX7_numbers_12 : decode cX7_numbers 12 = .ok (.iconst 2, 1) := by decide +kernel
theorem dX7_numbers_13 : decode cX7_numbers 13 = .ok (.if_icmp .ne 15, 3) := by decide +kernel
theorem dX7_numbers_16 : decode cX7_numbers 16 = .ok (.aload_n 0, 1) := by decide +kernel
theorem dX7_numbers_17 : decode cX7_numbers 17 = .ok (.getfield 7, 3) := by decide +kernel
theorem dX7_numbers_20 : decode cX7_numbers 20 = .ok (.bipush 95, 2) := by decide +kernel
theorem dX7_numbers_22 : decode cX7_numbers 22 = .ok (.iload_n 1, 1) := by decide +kernel
theorem dX7_numbers_23 : decode cX7_numbers 23 = .ok (.iadd, 1) := by decide +kernel
theorem dX7_numbers_24 : decode cX7_numbers 24 = .ok (.iaload, 1) := by decide +kernel
theorem dX7_numbers_25 : decode cX7_numbers 25 = .ok (.goto 42, 3) := by decide +kernel
theorem dX7_numbers_28 : decode cX7_numbers 28 = .ok (.iload_n 2, 1) := by decide +kernel
theorem dX7_numbers_29 : decode cX7_numbers 29 = .ok (.iconst 3, 1) := by decide +kernel
theorem dX7_numbers_30 : decode cX7_numbers 30 = .ok (.if_icmp .ne 16, 3) := by decide +kernel
theorem dX7_numbers_33 : decode cX7_numbers 33 = .ok (.aload_n 0, 1) := by decide +kernel
theorem dX7_numbers_34 : decode cX7_numbers 34 = .ok (.getfield 7, 3) := by decide +kernel
theorem dX7_numbers_37 : decode cX7_numbers 37 = .ok (.sipush 186, 3) := by decide +kernel
theorem dX7_numbers_40 : decode cX7_numbers 40 = .ok (.iload_n 1, 1) := by decide +kernel
theorem dX7_numbers_41 : decode cX7_numbers 41 = .ok (.iadd, 1) := by decide +kernel
theorem dX7_numbers_42 : decode cX7_numbers 42 = .ok (.iaload, 1) := by decide +kernel
theorem dX7_numbers_43 : decode cX7_numbers 43 = .ok (.goto 24, 3) := by decide +kernel
theorem dX7_numbers_46 : decode cX7_numbers 46 = .ok (.iload_n 3, 1) := by decide +kernel
theorem dX7_numbers_47 : decode cX7_numbers 47 = .ok (.ifCond .ge 7, 3) := by decide +kernel
theorem dX7_numbers_50 : decode cX7_numbers 50 = .ok (.iconst (-1), 1) := by decide +kernel
theorem dX7_numbers_51 : decode cX7_numbers 51 = .ok (.goto 16, 3) := by decide +kernel
theorem dX7_numbers_54 : decode cX7_numbers 54 = .ok (.iload_n 2, 1) := by decide +kernel
theorem dX7_numbers_55 : decode cX7_numbers 55 = .ok (.ifCond .ne 9, 3) := by decide +kernel
theorem dX7_numbers_58 : decode cX7_numbers 58 = .ok (.iload_n 3, 1) := by decide +kernel
theorem dX7_numbers_59 : decode cX7_numbers 59 = .ok (.iconst 3, 1) := by decide +kernel
theorem dX7_numbers_60 : decode cX7_numbers 60 = .ok (.idiv, 1) := by decide +kernel
theorem dX7_numbers_61 : decode cX7_numbers 61 = .ok (.goto 6, 3) := by decide +kernel
theorem dX7_numbers_64 : decode cX7_numbers 64 = .ok (.iload_n 3, 1) := by decide +kernel
theorem dX7_numbers_65 : decode cX7_numbers 65 = .ok (.iconst 3, 1) := by decide +kernel
theorem dX7_numbers_66 : decode cX7_numbers 66 = .ok (.irem, 1) := by decide +kernel
theorem dX7_numbers_67 : decode cX7_numbers 67 = .ok (.ireturn, 1) := by decide +kernel
theorem dX7_numberOf_0 : decode cX7_numberOf 0 = .ok (.aload_n 0, 1) := by decide +kernel
theorem dX7_numberOf_1 : decode cX7_numberOf 1 = .ok (.iload_n 1, 1) := by decide +kernel
theorem dX7_numberOf_2 : decode cX7_numberOf 2 = .ok (.invokestatic 57, 3) := by decide +kernel
theorem dX7_numberOf_5 : decode cX7_numberOf 5 = .ok (.ifCond .eq 16, 3) := by decide +kernel
theorem dX7_numberOf_8 : decode cX7_numberOf 8 = .ok (.iload_n 2, 1) := by decide +kernel
theorem dX7_numberOf_9 : decode cX7_numberOf 9 = .ok (.iconst 0, 1) := by decide +kernel
theorem dX7_numberOf_10 : decode cX7_numberOf 10 = .ok (.iconst 3, 1) := by decide +kernel
theorem dX7_numberOf_11 : decode cX7_numberOf 11 = .ok (.invokestatic 32, 3) := by decide +kernel
theorem dX7_numberOf_14 : decode cX7_numberOf 14 = .ok (.ifCond .eq 7, 3) := by decide +kernel
theorem dX7_numberOf_17 : decode cX7_numberOf 17 = .ok (.iconst 1, 1) := by decide +kernel
theorem dX7_numberOf_18 : decode cX7_numberOf 18 = .ok (.goto 4, 3) := by decide +kernel
theorem dX7_numberOf_21 : decode cX7_numberOf 21 = .ok (.iconst 0, 1) := by decide +kernel
theorem dX7_numberOf_22 : decode cX7_numberOf 22 = .ok (.iconst 1, 1) := by decide +kernel
theorem dX7_numberOf_23 : decode cX7_numberOf 23 = .ok (.iconst 1, 1) := by decide +kernel
theorem dX7_numberOf_24 : decode cX7_numberOf 24 = .ok (.invokevirtual 60, 3) := by decide +kernel
theorem dX7_numberOf_27 : decode cX7_numberOf 27 = .ok (.ifCond .eq 12, 3) := by decide +kernel
theorem dX7_numberOf_30 : decode cX7_numberOf 30 = .ok (.aload_n 0, 1) := by decide +kernel
theorem dX7_numberOf_31 : decode cX7_numberOf 31 = .ok (.iload_n 1, 1) := by decide +kernel
theorem dX7_numberOf_32 : decode cX7_numberOf 32 = .ok (.iload_n 2, 1) := by decide +kernel
theorem dX7_numberOf_33 : decode cX7_numberOf 33 = .ok (.invokevirtual 152, 3) := by decide +kernel
theorem dX7_numberOf_36 : decode cX7_numberOf 36 = .ok (.goto 4, 3) := by decide +kernel
theorem dX7_numberOf_39 : decode cX7_numberOf 39 = .ok (.iconst 0, 1) := by decide +kernel
theorem dX7_numberOf_40 : decode cX7_numberOf 40 = .ok (.ireturn, 1) := by decide +kernel
theorem dX7_calls_0 : decode cX7_calls 0 = .ok (.iload_n 1, 1) := by decide +kernel
theorem dX7_calls_1 : decode cX7_calls 1 = .ok (.aload_n 0, 1) := by decide +kernel
theorem dX7_calls_2 : decode cX7_calls 2 = .ok (.getfield 7, 3) := by decide +kernel
theorem dX7_calls_5 : decode cX7_calls 5 = .ok (.sipush 457, 3) := by decide +kernel
theorem dX7_calls_8 : decode cX7_calls 8 = .ok (.iaload, 1) := by decide +kernel
theorem dX7_calls_9 : decode cX7_calls 9 = .ok (.if_icmp .lt 7, 3) := by decide +kernel
theorem dX7_calls_12 : decode cX7_calls 12 = .ok (.iconst (-1), 1) := by decide +kernel
theorem dX7_calls_13 : decode cX7_calls 13 = .ok (.goto 34, 3) := by decide +kernel
theorem dX7_calls_16 : decode cX7_calls 16 = .ok (.aload_n 0, 1) := by decide +kernel
theorem dX7_calls_17 : decode cX7_calls 17 = .ok (.getfield 7, 3) := by decide +kernel
theorem dX7_calls_20 : decode cX7_calls 20 = .ok (.iload_n 2, 1) := by decide +kernel
theorem dX7_calls_21 : decode cX7_calls 21 = .ok (.ifCond .ne 9, 3) := by decide +kernel
theorem dX7_calls_24 : decode cX7_calls 24 = .ok (.sipush 277, 3) := by decide +kernel
theorem dX7_calls_27 : decode cX7_calls 27 = .ok (.goto 6, 3) := by decide +kernel
theorem dX7_calls_30 : decode cX7_calls 30 = .ok (.sipush 367, 3) := by decide +kernel
theorem dX7_calls_33 : decode cX7_calls 33 = .ok (.aload_n 0, 1) := by decide +kernel
theorem dX7_calls_34 : decode cX7_calls 34 = .ok (.getfield 7, 3) := by decide +kernel
theorem dX7_calls_37 : decode cX7_calls 37 = .ok (.sipush 457, 3) := by decide +kernel
theorem dX7_calls_40 : decode cX7_calls 40 = .ok (.iaload, 1) := by decide +kernel
theorem dX7_calls_41 : decode cX7_calls 41 = .ok (.iadd, 1) := by decide +kernel
theorem dX7_calls_42 : decode cX7_calls 42 = .ok (.iconst 1, 1) := by decide +kernel
theorem dX7_calls_43 : decode cX7_calls 43 = .ok (.isub, 1) := by decide +kernel
theorem dX7_calls_44 : decode cX7_calls 44 = .ok (.iload_n 1, 1) := by decide +kernel
theorem dX7_calls_45 : decode cX7_calls 45 = .ok (.isub, 1) := by decide +kernel
theorem dX7_calls_46 : decode cX7_calls 46 = .ok (.iaload, 1) := by decide +kernel
theorem dX7_calls_47 : decode cX7_calls 47 = .ok (.ireturn, 1) := by decide +kernel
theorem dX7_call_0 : decode cX7_call 0 = .ok (.aload_n 0, 1) := by decide +kernel
theorem dX7_call_1 : decode cX7_call 1 = .ok (.iload_n 1, 1) := by decide +kernel
theorem dX7_call_2 : decode cX7_call 2 = .ok (.ifCond .lt 16, 3) := by decide +kernel
theorem dX7_call_5 : decode cX7_call 5 = .ok (.iload_n 2, 1) := by decide +kernel
theorem dX7_call_6 : decode cX7_call 6 = .ok (.iconst 0, 1) := by decide +kernel
theorem dX7_call_7 : decode cX7_call 7 = .ok (.iconst 1, 1) := by decide +kernel
theorem dX7_call_8 : decode cX7_call 8 = .ok (.invokestatic 32, 3) := by decide +kernel
theorem dX7_call_11 : decode cX7_call 11 = .ok (.ifCond .eq 7, 3) := by decide +kernel
theorem dX7_call_14 : decode cX7_call 14 = .ok (.iconst 1, 1) := by decide +kernel
theorem dX7_call_15 : decode cX7_call 15 = .ok (.goto 4, 3) := by decide +kernel
theorem dX7_call_18 : decode cX7_call 18 = .ok (.iconst 0, 1) := by decide +kernel
theorem dX7_call_19 : decode cX7_call 19 = .ok (.iconst 1, 1) := by decide +kernel
theorem dX7_call_20 : decode cX7_call 20 = .ok (.iconst 1, 1) := by decide +kernel
theorem dX7_call_21 : decode cX7_call 21 = .ok (.invokevirtual 60, 3) := by decide +kernel
theorem dX7_call_24 : decode cX7_call 24 = .ok (.ifCond .eq 12, 3) := by decide +kernel
theorem dX7_call_27 : decode cX7_call 27 = .ok (.aload_n 0, 1) := by decide +kernel
theorem dX7_call_28 : decode cX7_call 28 = .ok (.iload_n 1, 1) := by decide +kernel
theorem dX7_call_29 : decode cX7_call 29 = .ok (.iload_n 2, 1) := by decide +kernel
theorem dX7_call_30 : decode cX7_call 30 = .ok (.invokevirtual 155, 3) := by decide +kernel
theorem dX7_call_33 : decode cX7_call 33 = .ok (.goto 4, 3) := by decide +kernel
theorem dX7_call_36 : decode cX7_call 36 = .ok (.iconst 0, 1) := by decide +kernel
theorem dX7_call_37 : decode cX7_call 37 = .ok (.ireturn, 1) := by decide +kernel
theorem dX7_games_0 : decode cX7_games 0 = .ok (.iload_n 2, 1) := by decide +kernel
theorem dX7_games_1 : decode cX7_games 1 = .ok (.ifCond .ne 11, 3) := by decide +kernel
theorem dX7_games_4 : decode cX7_games 4 = .ok (.aload_n 0, 1) := by decide +kernel
theorem dX7_games_5 : decode cX7_games 5 = .ok (.iload_n 1, 1) := by decide +kernel
theorem dX7_games_6 : decode cX7_games 6 = .ok (.invokevirtual 112, 3) := by decide +kernel
theorem dX7_games_9 : decode cX7_games 9 = .ok (.goto 48, 3) := by decide +kernel
theorem dX7_games_12 : decode cX7_games 12 = .ok (.iload_n 2, 1) := by decide +kernel
theorem dX7_games_13 : decode cX7_games 13 = .ok (.iconst 1, 1) := by decide +kernel
theorem dX7_games_14 : decode cX7_games 14 = .ok (.if_icmp .ne 16, 3) := by decide +kernel
theorem dX7_games_17 : decode cX7_games 17 = .ok (.aload_n 0, 1) := by decide +kernel
theorem dX7_games_18 : decode cX7_games 18 = .ok (.getfield 7, 3) := by decide +kernel
theorem dX7_games_21 : decode cX7_games 21 = .ok (.sipush 482, 3) := by decide +kernel
theorem dX7_games_24 : decode cX7_games 24 = .ok (.iload_n 1, 1) := by decide +kernel
theorem dX7_games_25 : decode cX7_games 25 = .ok (.iadd, 1) := by decide +kernel
theorem dX7_games_26 : decode cX7_games 26 = .ok (.iaload, 1) := by decide +kernel
theorem dX7_games_27 : decode cX7_games 27 = .ok (.goto 30, 3) := by decide +kernel
theorem dX7_games_30 : decode cX7_games 30 = .ok (.iload_n 2, 1) := by decide +kernel
theorem dX7_games_31 : decode cX7_games 31 = .ok (.iconst 2, 1) := by decide +kernel
theorem dX7_games_32 : decode cX7_games 32 = .ok (.if_icmp .ne 20, 3) := by decide +kernel
theorem dX7_games_35 : decode cX7_games 35 = .ok (.aload_n 0, 1) := by decide +kernel
theorem dX7_games_36 : decode cX7_games 36 = .ok (.iload_n 1, 1) := by decide +kernel
theorem dX7_games_37 : decode cX7_games 37 = .ok (.invokevirtual 118, 3) := by decide +kernel
theorem dX7_games_40 : decode cX7_games 40 = .ok (.aload_n 0, 1) := by decide +kernel
theorem dX7_games_41 : decode cX7_games 41 = .ok (.iload_n 1, 1) := by decide +kernel
theorem dX7_games_42 : decode cX7_games 42 = .ok (.invokevirtual 112, 3) := by decide +kernel
theorem dX7_games_45 : decode cX7_games 45 = .ok (.invokestatic 115, 3) := by decide +kernel
theorem dX7_games_48 : decode cX7_games 48 = .ok (.imul, 1) := by decide +kernel
theorem dX7_games_49 : decode cX7_games 49 = .ok (.goto 8, 3) := by decide +kernel
theorem dX7_games_52 : decode cX7_games 52 = .ok (.aload_n 0, 1) := by decide +kernel
theorem dX7_games_53 : decode cX7_games 53 = .ok (.iload_n 1, 1) := by decide +kernel
theorem dX7_games_54 : decode cX7_games 54 = .ok (.invokevirtual 118, 3) := by decide +kernel
theorem dX7_games_57 : decode cX7_games 57 = .ok (.ireturn, 1) := by decide +kernel
theorem dX7_gameOf_0 : decode cX7_gameOf 0 = .ok (.aload_n 0, 1) := by decide +kernel
theorem dX7_gameOf_1 : decode cX7_gameOf 1 = .ok (.iload_n 1, 1) := by decide +kernel
theorem dX7_gameOf_2 : decode cX7_gameOf 2 = .ok (.iconst 0, 1) := by decide +kernel
theorem dX7_gameOf_3 : decode cX7_gameOf 3 = .ok (.iconst 3, 1) := by decide +kernel
theorem dX7_gameOf_4 : decode cX7_gameOf 4 = .ok (.invokestatic 32, 3) := by decide +kernel
theorem dX7_gameOf_7 : decode cX7_gameOf 7 = .ok (.iload_n 2, 1) := by decide +kernel
theorem dX7_gameOf_8 : decode cX7_gameOf 8 = .ok (.iconst 0, 1) := by decide +kernel
theorem dX7_gameOf_9 : decode cX7_gameOf 9 = .ok (.iconst 3, 1) := by decide +kernel
theorem dX7_gameOf_10 : decode cX7_gameOf 10 = .ok (.invokestatic 32, 3) := by decide +kernel
theorem dX7_gameOf_13 : decode cX7_gameOf 13 = .ok (.iconst 1, 1) := by decide +kernel
theorem dX7_gameOf_14 : decode cX7_gameOf 14 = .ok (.invokevirtual 60, 3) := by decide +kernel
theorem dX7_gameOf_17 : decode cX7_gameOf 17 = .ok (.ifCond .eq 12, 3) := by decide +kernel
theorem dX7_gameOf_20 : decode cX7_gameOf 20 = .ok (.aload_n 0, 1) := by decide +kernel
theorem dX7_gameOf_21 : decode cX7_gameOf 21 = .ok (.iload_n 1, 1) := by decide +kernel
theorem dX7_gameOf_22 : decode cX7_gameOf 22 = .ok (.iload_n 2, 1) := by decide +kernel
theorem dX7_gameOf_23 : decode cX7_gameOf 23 = .ok (.invokevirtual 158, 3) := by decide +kernel
theorem dX7_gameOf_26 : decode cX7_gameOf 26 = .ok (.goto 4, 3) := by decide +kernel
theorem dX7_gameOf_29 : decode cX7_gameOf 29 = .ok (.iconst 0, 1) := by decide +kernel
theorem dX7_gameOf_30 : decode cX7_gameOf 30 = .ok (.ireturn, 1) := by decide +kernel
theorem dX7_cardsThat_0 : decode cX7_cardsThat 0 = .ok (.iconst 0, 1) := by decide +kernel
theorem dX7_cardsThat_1 : decode cX7_cardsThat 1 = .ok (.istore_n 2, 1) := by decide +kernel
theorem dX7_cardsThat_2 : decode cX7_cardsThat 2 = .ok (.iconst 0, 1) := by decide +kernel
theorem dX7_cardsThat_3 : decode cX7_cardsThat 3 = .ok (.istore_n 3, 1) := by decide +kernel
theorem dX7_cardsThat_4 : decode cX7_cardsThat 4 = .ok (.iload_n 3, 1) := by decide +kernel
theorem dX7_cardsThat_5 : decode cX7_cardsThat 5 = .ok (.bipush 6, 2) := by decide +kernel
theorem dX7_cardsThat_7 : decode cX7_cardsThat 7 = .ok (.if_icmp .ge 42, 3) := by decide +kernel
theorem dX7_cardsThat_10 : decode cX7_cardsThat 10 = .ok (.iload_n 2, 1) := by decide +kernel
theorem dX7_cardsThat_11 : decode cX7_cardsThat 11 = .ok (.iload_n 1, 1) := by decide +kernel
theorem dX7_cardsThat_12 : decode cX7_cardsThat 12 = .ok (.ifCond .eq 19, 3) := by decide +kernel
theorem dX7_cardsThat_15 : decode cX7_cardsThat 15 = .ok (.aload_n 0, 1) := by decide +kernel
theorem dX7_cardsThat_16 : decode cX7_cardsThat 16 = .ok (.iload_n 3, 1) := by decide +kernel
theorem dX7_cardsThat_17 : decode cX7_cardsThat 17 = .ok (.invokevirtual 81, 3) := by decide +kernel
theorem dX7_cardsThat_20 : decode cX7_cardsThat 20 = .ok (.ifCond .eq 7, 3) := by decide +kernel
theorem dX7_cardsThat_23 : decode cX7_cardsThat 23 = .ok (.iconst 1, 1) := by decide +kernel
theorem dX7_cardsThat_24 : decode cX7_cardsThat 24 = .ok (.goto 17, 3) := by decide +kernel
theorem dX7_cardsThat_27 : decode cX7_cardsThat 27 = .ok (.iconst 0, 1) := by decide +kernel
theorem dX7_cardsThat_28 : decode cX7_cardsThat 28 = .ok (.goto 13, 3) := by decide +kernel
theorem dX7_cardsThat_31 : decode cX7_cardsThat 31 = .ok (.aload_n 0, 1) := by decide +kernel
theorem dX7_cardsThat_32 : decode cX7_cardsThat 32 = .ok (.getfield 7, 3) := by decide +kernel
theorem dX7_cardsThat_35 : decode cX7_cardsThat 35 = .ok (.sipush 458, 3) := by decide +kernel
theorem dX7_cardsThat_38 : decode cX7_cardsThat 38 = .ok (.iload_n 3, 1) := by decide +kernel
theorem dX7_cardsThat_39 : decode cX7_cardsThat 39 = .ok (.iadd, 1) := by decide +kernel
theorem dX7_cardsThat_40 : decode cX7_cardsThat 40 = .ok (.iaload, 1) := by decide +kernel
theorem dX7_cardsThat_41 : decode cX7_cardsThat 41 = .ok (.iadd, 1) := by decide +kernel
theorem dX7_cardsThat_42 : decode cX7_cardsThat 42 = .ok (.istore_n 2, 1) := by decide +kernel
theorem dX7_cardsThat_43 : decode cX7_cardsThat 43 = .ok (.iinc 3 1, 3) := by decide +kernel
theorem dX7_cardsThat_46 : decode cX7_cardsThat 46 = .ok (.goto (-42), 3) := by decide +kernel
theorem dX7_cardsThat_49 : decode cX7_cardsThat 49 = .ok (.iload_n 2, 1) := by decide +kernel
theorem dX7_cardsThat_50 : decode cX7_cardsThat 50 = .ok (.ireturn, 1) := by decide +kernel
theorem dX7_counted_0 : decode cX7_counted 0 = .ok (.iload_n 1, 1) := by decide +kernel
theorem dX7_counted_1 : decode cX7_counted 1 = .ok (.tableswitch 152 0 13 #[71, 76, 82, 88, 88, 88, 88, 101, 113, 122, 131, 131, 131, 145], 71) := by decide +kernel
theorem dX7_counted_72 : decode cX7_counted 72 = .ok (.aload_n 0, 1) := by decide +kernel
theorem dX7_counted_73 : decode cX7_counted 73 = .ok (.invokevirtual 70, 3) := by decide +kernel
theorem dX7_counted_76 : decode cX7_counted 76 = .ok (.ireturn, 1) := by decide +kernel
theorem dX7_counted_77 : decode cX7_counted 77 = .ok (.aload_n 0, 1) := by decide +kernel
theorem dX7_counted_78 : decode cX7_counted 78 = .ok (.iconst 1, 1) := by decide +kernel
theorem dX7_counted_79 : decode cX7_counted 79 = .ok (.invokevirtual 161, 3) := by decide +kernel
theorem dX7_counted_82 : decode cX7_counted 82 = .ok (.ireturn, 1) := by decide +kernel
theorem dX7_counted_83 : decode cX7_counted 83 = .ok (.aload_n 0, 1) := by decide +kernel
theorem dX7_counted_84 : decode cX7_counted 84 = .ok (.iconst 0, 1) := by decide +kernel
theorem dX7_counted_85 : decode cX7_counted 85 = .ok (.invokevirtual 161, 3) := by decide +kernel
theorem dX7_counted_88 : decode cX7_counted 88 = .ok (.ireturn, 1) := by decide +kernel
theorem dX7_counted_89 : decode cX7_counted 89 = .ok (.aload_n 0, 1) := by decide +kernel
theorem dX7_counted_90 : decode cX7_counted 90 = .ok (.getfield 7, 3) := by decide +kernel
theorem dX7_counted_93 : decode cX7_counted 93 = .ok (.sipush 486, 3) := by decide +kernel
theorem dX7_counted_96 : decode cX7_counted 96 = .ok (.iload_n 1, 1) := by decide +kernel
theorem dX7_counted_97 : decode cX7_counted 97 = .ok (.iadd, 1) := by decide +kernel
theorem dX7_counted_98 : decode cX7_counted 98 = .ok (.iconst 3, 1) := by decide +kernel
theorem dX7_counted_99 : decode cX7_counted 99 = .ok (.isub, 1) := by decide +kernel
theorem dX7_counted_100 : decode cX7_counted 100 = .ok (.iaload, 1) := by decide +kernel
theorem dX7_counted_101 : decode cX7_counted 101 = .ok (.ireturn, 1) := by decide +kernel
theorem dX7_counted_102 : decode cX7_counted 102 = .ok (.bipush 90, 2) := by decide +kernel
theorem dX7_counted_104 : decode cX7_counted 104 = .ok (.aload_n 0, 1) := by decide +kernel
theorem dX7_counted_105 : decode cX7_counted 105 = .ok (.getfield 7, 3) := by decide +kernel
theorem dX7_counted_108 : decode cX7_counted 108 = .ok (.sipush 457, 3) := by decide +kernel
theorem dX7_counted_111 : decode cX7_counted 111 = .ok (.iaload, 1) := by decide +kernel
theorem dX7_counted_112 : decode cX7_counted 112 = .ok (.isub, 1) := by decide +kernel
theorem dX7_counted_113 : decode cX7_counted 113 = .ok (.ireturn, 1) := by decide +kernel
theorem dX7_counted_114 : decode cX7_counted 114 = .ok (.aload_n 0, 1) := by decide +kernel
theorem dX7_counted_115 : decode cX7_counted 115 = .ok (.getfield 7, 3) := by decide +kernel
theorem dX7_counted_118 : decode cX7_counted 118 = .ok (.sipush 457, 3) := by decide +kernel
theorem dX7_counted_121 : decode cX7_counted 121 = .ok (.iaload, 1) := by decide +kernel
theorem dX7_counted_122 : decode cX7_counted 122 = .ok (.ireturn, 1) := by decide +kernel
theorem dX7_counted_123 : decode cX7_counted 123 = .ok (.aload_n 0, 1) := by decide +kernel
theorem dX7_counted_124 : decode cX7_counted 124 = .ok (.getfield 7, 3) := by decide +kernel
theorem dX7_counted_127 : decode cX7_counted 127 = .ok (.sipush 493, 3) := by decide +kernel
theorem dX7_counted_130 : decode cX7_counted 130 = .ok (.iaload, 1) := by decide +kernel
theorem dX7_counted_131 : decode cX7_counted 131 = .ok (.ireturn, 1) := by decide +kernel
theorem dX7_counted_132 : decode cX7_counted 132 = .ok (.aload_n 0, 1) := by decide +kernel
theorem dX7_counted_133 : decode cX7_counted 133 = .ok (.getfield 7, 3) := by decide +kernel
theorem dX7_counted_136 : decode cX7_counted 136 = .ok (.sipush 490, 3) := by decide +kernel
theorem dX7_counted_139 : decode cX7_counted 139 = .ok (.iload_n 1, 1) := by decide +kernel
theorem dX7_counted_140 : decode cX7_counted 140 = .ok (.iadd, 1) := by decide +kernel
theorem dX7_counted_141 : decode cX7_counted 141 = .ok (.bipush 10, 2) := by decide +kernel
theorem dX7_counted_143 : decode cX7_counted 143 = .ok (.isub, 1) := by decide +kernel
theorem dX7_counted_144 : decode cX7_counted 144 = .ok (.iaload, 1) := by decide +kernel
theorem dX7_counted_145 : decode cX7_counted 145 = .ok (.ireturn, 1) := by decide +kernel
theorem dX7_counted_146 : decode cX7_counted 146 = .ok (.aload_n 0, 1) := by decide +kernel
theorem dX7_counted_147 : decode cX7_counted 147 = .ok (.getfield 7, 3) := by decide +kernel
theorem dX7_counted_150 : decode cX7_counted 150 = .ok (.iconst 3, 1) := by decide +kernel
theorem dX7_counted_151 : decode cX7_counted 151 = .ok (.iaload, 1) := by decide +kernel
theorem dX7_counted_152 : decode cX7_counted 152 = .ok (.ireturn, 1) := by decide +kernel
theorem dX7_counted_153 : decode cX7_counted 153 = .ok (.aload_n 0, 1) := by decide +kernel
theorem dX7_counted_154 : decode cX7_counted 154 = .ok (.getfield 25, 3) := by decide +kernel
theorem dX7_counted_157 : decode cX7_counted 157 = .ok (.ireturn, 1) := by decide +kernel
theorem dX7_count_0 : decode cX7_count 0 = .ok (.aload_n 0, 1) := by decide +kernel
theorem dX7_count_1 : decode cX7_count 1 = .ok (.iload_n 1, 1) := by decide +kernel
theorem dX7_count_2 : decode cX7_count 2 = .ok (.iconst 0, 1) := by decide +kernel
theorem dX7_count_3 : decode cX7_count 3 = .ok (.bipush 14, 2) := by decide +kernel
theorem dX7_count_5 : decode cX7_count 5 = .ok (.invokestatic 32, 3) := by decide +kernel
theorem dX7_count_8 : decode cX7_count 8 = .ok (.iconst 1, 1) := by decide +kernel
theorem dX7_count_9 : decode cX7_count 9 = .ok (.iconst 1, 1) := by decide +kernel
theorem dX7_count_10 : decode cX7_count 10 = .ok (.invokevirtual 60, 3) := by decide +kernel
theorem dX7_count_13 : decode cX7_count 13 = .ok (.ifCond .eq 11, 3) := by decide +kernel
theorem dX7_count_16 : decode cX7_count 16 = .ok (.aload_n 0, 1) := by decide +kernel
theorem dX7_count_17 : decode cX7_count 17 = .ok (.iload_n 1, 1) := by decide +kernel
theorem dX7_count_18 : decode cX7_count 18 = .ok (.invokevirtual 165, 3) := by decide +kernel
theorem dX7_count_21 : decode cX7_count 21 = .ok (.goto 4, 3) := by decide +kernel
theorem dX7_count_24 : decode cX7_count 24 = .ok (.iconst 0, 1) := by decide +kernel
theorem dX7_count_25 : decode cX7_count 25 = .ok (.ireturn, 1) := by decide +kernel
theorem dX7_setting_0 : decode cX7_setting 0 = .ok (.aload_n 0, 1) := by decide +kernel
theorem dX7_setting_1 : decode cX7_setting 1 = .ok (.iload_n 1, 1) := by decide +kernel
theorem dX7_setting_2 : decode cX7_setting 2 = .ok (.iconst 0, 1) := by decide +kernel
theorem dX7_setting_3 : decode cX7_setting 3 = .ok (.iconst 2, 1) := by decide +kernel
theorem dX7_setting_4 : decode cX7_setting 4 = .ok (.invokestatic 32, 3) := by decide +kernel
theorem dX7_setting_7 : decode cX7_setting 7 = .ok (.iconst 1, 1) := by decide +kernel
theorem dX7_setting_8 : decode cX7_setting 8 = .ok (.iconst 1, 1) := by decide +kernel
theorem dX7_setting_9 : decode cX7_setting 9 = .ok (.invokevirtual 60, 3) := by decide +kernel
theorem dX7_setting_12 : decode cX7_setting 12 = .ok (.ifCond .eq 12, 3) := by decide +kernel
theorem dX7_setting_15 : decode cX7_setting 15 = .ok (.aload_n 0, 1) := by decide +kernel
theorem dX7_setting_16 : decode cX7_setting 16 = .ok (.getfield 7, 3) := by decide +kernel
theorem dX7_setting_19 : decode cX7_setting 19 = .ok (.iload_n 1, 1) := by decide +kernel
theorem dX7_setting_20 : decode cX7_setting 20 = .ok (.iaload, 1) := by decide +kernel
theorem dX7_setting_21 : decode cX7_setting 21 = .ok (.goto 4, 3) := by decide +kernel
theorem dX7_setting_24 : decode cX7_setting 24 = .ok (.iconst 0, 1) := by decide +kernel
theorem dX7_setting_25 : decode cX7_setting 25 = .ok (.ireturn, 1) := by decide +kernel
theorem dX7_whyNot_0 : decode cX7_whyNot 0 = .ok (.aload_n 0, 1) := by decide +kernel
theorem dX7_whyNot_1 : decode cX7_whyNot 1 = .ok (.iload_n 1, 1) := by decide +kernel
theorem dX7_whyNot_2 : decode cX7_whyNot 2 = .ok (.invokestatic 50, 3) := by decide +kernel
theorem dX7_whyNot_5 : decode cX7_whyNot 5 = .ok (.ifCond .eq 14, 3) := by decide +kernel
theorem dX7_whyNot_8 : decode cX7_whyNot 8 = .ok (.iload_n 2, 1) := by decide +kernel
theorem dX7_whyNot_9 : decode cX7_whyNot 9 = .ok (.invokestatic 54, 3) := by decide +kernel
theorem dX7_whyNot_12 : decode cX7_whyNot 12 = .ok (.ifCond .eq 7, 3) := by decide +kernel
theorem dX7_whyNot_15 : decode cX7_whyNot 15 = .ok (.iconst 1, 1) := by decide +kernel
theorem dX7_whyNot_16 : decode cX7_whyNot 16 = .ok (.goto 4, 3) := by decide +kernel
theorem dX7_whyNot_19 : decode cX7_whyNot 19 = .ok (.iconst 0, 1) := by decide +kernel
theorem dX7_whyNot_20 : decode cX7_whyNot 20 = .ok (.iload_n 3, 1) := by decide +kernel
theorem dX7_whyNot_21 : decode cX7_whyNot 21 = .ok (.invokestatic 57, 3) := by decide +kernel
theorem dX7_whyNot_24 : decode cX7_whyNot 24 = .ok (.iconst 1, 1) := by decide +kernel
theorem dX7_whyNot_25 : decode cX7_whyNot 25 = .ok (.invokevirtual 60, 3) := by decide +kernel
theorem dX7_whyNot_28 : decode cX7_whyNot 28 = .ok (.ifCond .eq 13, 3) := by decide +kernel
theorem dX7_whyNot_31 : decode cX7_whyNot 31 = .ok (.aload_n 0, 1) := by decide +kernel
theorem dX7_whyNot_32 : decode cX7_whyNot 32 = .ok (.iload_n 1, 1) := by decide +kernel
theorem dX7_whyNot_33 : decode cX7_whyNot 33 = .ok (.iload_n 2, 1) := by decide +kernel
theorem dX7_whyNot_34 : decode cX7_whyNot 34 = .ok (.iload_n 3, 1) := by decide +kernel
theorem dX7_whyNot_35 : decode cX7_whyNot 35 = .ok (.invokevirtual 47, 3) := by decide +kernel
theorem dX7_whyNot_38 : decode cX7_whyNot 38 = .ok (.goto 4, 3) := by decide +kernel
theorem dX7_whyNot_41 : decode cX7_whyNot 41 = .ok (.iconst 0, 1) := by decide +kernel
theorem dX7_whyNot_42 : decode cX7_whyNot 42 = .ok (.ireturn, 1) := by decide +kernel
theorem dX7_claimed_0 : decode cX7_claimed 0 = .ok (.aload_n 0, 1) := by decide +kernel
theorem dX7_claimed_1 : decode cX7_claimed 1 = .ok (.getfield 7, 3) := by decide +kernel
theorem dX7_claimed_4 : decode cX7_claimed 4 = .ok (.sipush 458, 3) := by decide +kernel
theorem dX7_claimed_7 : decode cX7_claimed 7 = .ok (.iload_n 1, 1) := by decide +kernel
theorem dX7_claimed_8 : decode cX7_claimed 8 = .ok (.iadd, 1) := by decide +kernel
theorem dX7_claimed_9 : decode cX7_claimed 9 = .ok (.iaload, 1) := by decide +kernel
theorem dX7_claimed_10 : decode cX7_claimed 10 = .ok (.ifCond .ne 7, 3) := by decide +kernel
theorem dX7_claimed_13 : decode cX7_claimed 13 = .ok (.iconst (-1), 1) := by decide +kernel
theorem dX7_claimed_14 : decode cX7_claimed 14 = .ok (.goto 9, 3) := by decide +kernel
theorem dX7_claimed_17 : decode cX7_claimed 17 = .ok (.aload_n 0, 1) := by decide +kernel
theorem dX7_claimed_18 : decode cX7_claimed 18 = .ok (.iload_n 1, 1) := by decide +kernel
theorem dX7_claimed_19 : decode cX7_claimed 19 = .ok (.iload_n 2, 1) := by decide +kernel
theorem dX7_claimed_20 : decode cX7_claimed 20 = .ok (.invokevirtual 106, 3) := by decide +kernel
theorem dX7_claimed_23 : decode cX7_claimed 23 = .ok (.ireturn, 1) := by decide +kernel
theorem dX7_ifClaimed_0 : decode cX7_ifClaimed 0 = .ok (.aload_n 0, 1) := by decide +kernel
theorem dX7_ifClaimed_1 : decode cX7_ifClaimed 1 = .ok (.iload_n 1, 1) := by decide +kernel
theorem dX7_ifClaimed_2 : decode cX7_ifClaimed 2 = .ok (.invokestatic 50, 3) := by decide +kernel
theorem dX7_ifClaimed_5 : decode cX7_ifClaimed 5 = .ok (.ifCond .eq 16, 3) := by decide +kernel
theorem dX7_ifClaimed_8 : decode cX7_ifClaimed 8 = .ok (.iload_n 2, 1) := by decide +kernel
theorem dX7_ifClaimed_9 : decode cX7_ifClaimed 9 = .ok (.iconst 0, 1) := by decide +kernel
theorem dX7_ifClaimed_10 : decode cX7_ifClaimed 10 = .ok (.iconst 3, 1) := by decide +kernel
theorem dX7_ifClaimed_11 : decode cX7_ifClaimed 11 = .ok (.invokestatic 32, 3) := by decide +kernel
theorem dX7_ifClaimed_14 : decode cX7_ifClaimed 14 = .ok (.ifCond .eq 7, 3) := by decide +kernel
theorem dX7_ifClaimed_17 : decode cX7_ifClaimed 17 = .ok (.iconst 1, 1) := by decide +kernel
theorem dX7_ifClaimed_18 : decode cX7_ifClaimed 18 = .ok (.goto 4, 3) := by decide +kernel
theorem dX7_ifClaimed_21 : decode cX7_ifClaimed 21 = .ok (.iconst 0, 1) := by decide +kernel
theorem dX7_ifClaimed_22 : decode cX7_ifClaimed 22 = .ok (.iconst 1, 1) := by decide +kernel
theorem dX7_ifClaimed_23 : decode cX7_ifClaimed 23 = .ok (.iconst 1, 1) := by decide +kernel
theorem dX7_ifClaimed_24 : decode cX7_ifClaimed 24 = .ok (.invokevirtual 60, 3) := by decide +kernel
theorem dX7_ifClaimed_27 : decode cX7_ifClaimed 27 = .ok (.ifCond .eq 12, 3) := by decide +kernel
theorem dX7_ifClaimed_30 : decode cX7_ifClaimed 30 = .ok (.aload_n 0, 1) := by decide +kernel
theorem dX7_ifClaimed_31 : decode cX7_ifClaimed 31 = .ok (.iload_n 1, 1) := by decide +kernel
theorem dX7_ifClaimed_32 : decode cX7_ifClaimed 32 = .ok (.iload_n 2, 1) := by decide +kernel
theorem dX7_ifClaimed_33 : decode cX7_ifClaimed 33 = .ok (.invokevirtual 168, 3) := by decide +kernel
theorem dX7_ifClaimed_36 : decode cX7_ifClaimed 36 = .ok (.goto 4, 3) := by decide +kernel
theorem dX7_ifClaimed_39 : decode cX7_ifClaimed 39 = .ok (.iconst 0, 1) := by decide +kernel
theorem dX7_ifClaimed_40 : decode cX7_ifClaimed 40 = .ok (.ireturn, 1) := by decide +kernel
theorem dX7_lacks_0 : decode cX7_lacks 0 = .ok (.iconst 0, 1) := by decide +kernel
theorem dX7_lacks_1 : decode cX7_lacks 1 = .ok (.istore 4, 2) := by decide +kernel
theorem dX7_lacks_3 : decode cX7_lacks 3 = .ok (.iconst 0, 1) := by decide +kernel
theorem dX7_lacks_4 : decode cX7_lacks 4 = .ok (.istore 5, 2) := by decide +kernel
theorem dX7_lacks_6 : decode cX7_lacks 6 = .ok (.iconst 1, 1) := by decide +kernel
theorem dX7_lacks_7 : decode cX7_lacks 7 = .ok (.istore 6, 2) := by decide +kernel
theorem dX7_lacks_9 : decode cX7_lacks 9 = .ok (.iload 6, 2) := by decide +kernel
theorem dX7_lacks_11 : decode cX7_lacks 11 = .ok (.bipush 90, 2) := by decide +kernel
theorem dX7_lacks_13 : decode cX7_lacks 13 = .ok (.if_icmp .gt 93, 3) := by decide +kernel
theorem dX7_lacks_16 : decode cX7_lacks 16 = .ok (.aload_n 0, 1) := by decide +kernel
theorem dX7_lacks_17 : decode cX7_lacks 17 = .ok (.getfield 7, 3) := by decide +kernel
theorem dX7_lacks_20 : decode cX7_lacks 20 = .ok (.iconst 4, 1) := by decide +kernel
theorem dX7_lacks_21 : decode cX7_lacks 21 = .ok (.iload 6, 2) := by decide +kernel
theorem dX7_lacks_23 : decode cX7_lacks 23 = .ok (.iadd, 1) := by decide +kernel
theorem dX7_lacks_24 : decode cX7_lacks 24 = .ok (.iaload, 1) := by decide +kernel
theorem dX7_lacks_25 : decode cX7_lacks 25 = .ok (.iconst 1, 1) := by decide +kernel
theorem dX7_lacks_26 : decode cX7_lacks 26 = .ok (.isub, 1) := by decide +kernel
theorem dX7_lacks_27 : decode cX7_lacks 27 = .ok (.iconst 3, 1) := by decide +kernel
theorem dX7_lacks_28 : decode cX7_lacks 28 = .ok (.iload_n 1, 1) := by decide +kernel
theorem dX7_lacks_29 : decode cX7_lacks 29 = .ok (.imul, 1) := by decide +kernel
theorem dX7_lacks_30 : decode cX7_lacks 30 = .ok (.isub, 1) := by decide +kernel
theorem dX7_lacks_31 : decode cX7_lacks 31 = .ok (.istore 7, 2) := by decide +kernel
theorem dX7_lacks_33 : decode cX7_lacks 33 = .ok (.iload_n 2, 1) := by decide +kernel
theorem dX7_lacks_34 : decode cX7_lacks 34 = .ok (.ifCond .ge 13, 3) := by decide +kernel
theorem dX7_lacks_37 : decode cX7_lacks 37 = .ok (.aload_n 0, 1) := by decide +kernel
theorem dX7_lacks_38 : decode cX7_lacks 38 = .ok (.iload_n 1, 1) := by decide +kernel
theorem dX7_lacks_39 : decode cX7_lacks 39 = .ok (.iload 6, 2) := by decide +kernel
theorem dX7_lacks_41 : decode cX7_lacks 41 = .ok (.invokevirtual 96, 3) := by decide +kernel
theorem dX7_lacks_44 : decode cX7_lacks 44 = .ok (.goto 29, 3) := by decide +kernel
theorem dX7_lacks_47 : decode cX7_lacks 47 = .ok (.iload_n 2, 1) := by decide +kernel
theorem dX7_lacks_48 : decode cX7_lacks 48 = .ok (.iconst 3, 1) := by decide +kernel
theorem dX7_lacks_49 : decode cX7_lacks 49 = .ok (.if_icmp .ne 13, 3) := by decide +kernel
theorem dX7_lacks_52 : decode cX7_lacks 52 = .ok (.iload 7, 2) := by decide +kernel
theorem dX7_lacks_54 : decode cX7_lacks 54 = .ok (.iconst 0, 1) := by decide +kernel
theorem dX7_lacks_55 : decode cX7_lacks 55 = .ok (.iconst 2, 1) := by decide +kernel
theorem dX7_lacks_56 : decode cX7_lacks 56 = .ok (.invokestatic 32, 3) := by decide +kernel
theorem dX7_lacks_59 : decode cX7_lacks 59 = .ok (.goto 14, 3) := by decide +kernel
theorem dX7_lacks_62 : decode cX7_lacks 62 = .ok (.iload 7, 2) := by decide +kernel
theorem dX7_lacks_64 : decode cX7_lacks 64 = .ok (.iload_n 2, 1) := by decide +kernel
theorem dX7_lacks_65 : decode cX7_lacks 65 = .ok (.if_icmp .ne 7, 3) := by decide +kernel
theorem dX7_lacks_68 : decode cX7_lacks 68 = .ok (.iconst 1, 1) := by decide +kernel
theorem dX7_lacks_69 : decode cX7_lacks 69 = .ok (.goto 4, 3) := by decide +kernel
theorem dX7_lacks_72 : decode cX7_lacks 72 = .ok (.iconst 0, 1) := by decide +kernel
theorem dX7_lacks_73 : decode cX7_lacks 73 = .ok (.istore 8, 2) := by decide +kernel
theorem dX7_lacks_75 : decode cX7_lacks 75 = .ok (.iload 8, 2) := by decide +kernel
theorem dX7_lacks_77 : decode cX7_lacks 77 = .ok (.ifCond .eq 23, 3) := by decide +kernel
theorem dX7_lacks_80 : decode cX7_lacks 80 = .ok (.aload_n 0, 1) := by decide +kernel
theorem dX7_lacks_81 : decode cX7_lacks 81 = .ok (.getfield 7, 3) := by decide +kernel
theorem dX7_lacks_84 : decode cX7_lacks 84 = .ok (.bipush 95, 2) := by decide +kernel
theorem dX7_lacks_86 : decode cX7_lacks 86 = .ok (.iload 6, 2) := by decide +kernel
theorem dX7_lacks_88 : decode cX7_lacks 88 = .ok (.iadd, 1) := by decide +kernel
theorem dX7_lacks_89 : decode cX7_lacks 89 = .ok (.iaload, 1) := by decide +kernel
theorem dX7_lacks_90 : decode cX7_lacks 90 = .ok (.ifCond .ne 10, 3) := by decide +kernel
theorem dX7_lacks_93 : decode cX7_lacks 93 = .ok (.iinc 4 1, 3) := by decide +kernel
theorem dX7_lacks_96 : decode cX7_lacks 96 = .ok (.iload 6, 2) := by decide +kernel
theorem dX7_lacks_98 : decode cX7_lacks 98 = .ok (.istore 5, 2) := by decide +kernel
theorem dX7_lacks_100 : decode cX7_lacks 100 = .ok (.iinc 6 1, 3) := by decide +kernel
theorem dX7_lacks_103 : decode cX7_lacks 103 = .ok (.goto (-94), 3) := by decide +kernel
theorem dX7_lacks_106 : decode cX7_lacks 106 = .ok (.iload_n 3, 1) := by decide +kernel
theorem dX7_lacks_107 : decode cX7_lacks 107 = .ok (.ifCond .eq 8, 3) := by decide +kernel
theorem dX7_lacks_110 : decode cX7_lacks 110 = .ok (.iload 5, 2) := by decide +kernel
theorem dX7_lacks_112 : decode cX7_lacks 112 = .ok (.goto 5, 3) := by decide +kernel
theorem dX7_lacks_115 : decode cX7_lacks 115 = .ok (.iload 4, 2) := by decide +kernel
theorem dX7_lacks_117 : decode cX7_lacks 117 = .ok (.ireturn, 1) := by decide +kernel
theorem dX7_misses_0 : decode cX7_misses 0 = .ok (.aload_n 0, 1) := by decide +kernel
theorem dX7_misses_1 : decode cX7_misses 1 = .ok (.iload_n 1, 1) := by decide +kernel
theorem dX7_misses_2 : decode cX7_misses 2 = .ok (.invokevirtual 81, 3) := by decide +kernel
theorem dX7_misses_5 : decode cX7_misses 5 = .ok (.ifCond .ne 5, 3) := by decide +kernel
theorem dX7_misses_8 : decode cX7_misses 8 = .ok (.iconst (-1), 1) := by decide +kernel
theorem dX7_misses_9 : decode cX7_misses 9 = .ok (.ireturn, 1) := by decide +kernel
theorem dX7_misses_10 : decode cX7_misses 10 = .ok (.iload_n 2, 1) := by decide +kernel
theorem dX7_misses_11 : decode cX7_misses 11 = .ok (.iconst 1, 1) := by decide +kernel
theorem dX7_misses_12 : decode cX7_misses 12 = .ok (.if_icmp .eq 8, 3) := by decide +kernel
theorem dX7_misses_15 : decode cX7_misses 15 = .ok (.iload_n 2, 1) := by decide +kernel
theorem dX7_misses_16 : decode cX7_misses 16 = .ok (.iconst 3, 1) := by decide +kernel
theorem dX7_misses_17 : decode cX7_misses 17 = .ok (.if_icmp .ne 57, 3) := by decide +kernel
theorem dX7_misses_20 : decode cX7_misses 20 = .ok (.aload_n 0, 1) := by decide +kernel
theorem dX7_misses_21 : decode cX7_misses 21 = .ok (.iload_n 1, 1) := by decide +kernel
theorem dX7_misses_22 : decode cX7_misses 22 = .ok (.iload_n 2, 1) := by decide +kernel
theorem dX7_misses_23 : decode cX7_misses 23 = .ok (.iconst 1, 1) := by decide +kernel
theorem dX7_misses_24 : decode cX7_misses 24 = .ok (.if_icmp .ne 7, 3) := by decide +kernel
theorem dX7_misses_27 : decode cX7_misses 27 = .ok (.iconst (-1), 1) := by decide +kernel
theorem dX7_misses_28 : decode cX7_misses 28 = .ok (.goto 4, 3) := by decide +kernel
theorem dX7_misses_31 : decode cX7_misses 31 = .ok (.iconst 3, 1) := by decide +kernel
theorem dX7_misses_32 : decode cX7_misses 32 = .ok (.iconst 0, 1) := by decide +kernel
theorem dX7_misses_33 : decode cX7_misses 33 = .ok (.invokevirtual 171, 3) := by decide +kernel
theorem dX7_misses_36 : decode cX7_misses 36 = .ok (.istore 4, 2) := by decide +kernel
theorem dX7_misses_38 : decode cX7_misses 38 = .ok (.iload_n 3, 1) := by decide +kernel
theorem dX7_misses_39 : decode cX7_misses 39 = .ok (.ifCond .ne 8, 3) := by decide +kernel
theorem dX7_misses_42 : decode cX7_misses 42 = .ok (.iload 4, 2) := by decide +kernel
theorem dX7_misses_44 : decode cX7_misses 44 = .ok (.goto 29, 3) := by decide +kernel
theorem dX7_misses_47 : decode cX7_misses 47 = .ok (.iload 4, 2) := by decide +kernel
theorem dX7_misses_49 : decode cX7_misses 49 = .ok (.iconst 1, 1) := by decide +kernel
theorem dX7_misses_50 : decode cX7_misses 50 = .ok (.if_icmp .ne 22, 3) := by decide +kernel
theorem dX7_misses_53 : decode cX7_misses 53 = .ok (.aload_n 0, 1) := by decide +kernel
theorem dX7_misses_54 : decode cX7_misses 54 = .ok (.iload_n 1, 1) := by decide +kernel
theorem dX7_misses_55 : decode cX7_misses 55 = .ok (.iload_n 2, 1) := by decide +kernel
theorem dX7_misses_56 : decode cX7_misses 56 = .ok (.iconst 1, 1) := by decide +kernel
theorem dX7_misses_57 : decode cX7_misses 57 = .ok (.if_icmp .ne 7, 3) := by decide +kernel
theorem dX7_misses_60 : decode cX7_misses 60 = .ok (.iconst (-1), 1) := by decide +kernel
theorem dX7_misses_61 : decode cX7_misses 61 = .ok (.goto 4, 3) := by decide +kernel
theorem dX7_misses_64 : decode cX7_misses 64 = .ok (.iconst 3, 1) := by decide +kernel
theorem dX7_misses_65 : decode cX7_misses 65 = .ok (.iconst 1, 1) := by decide +kernel
theorem dX7_misses_66 : decode cX7_misses 66 = .ok (.invokevirtual 171, 3) := by decide +kernel
theorem dX7_misses_69 : decode cX7_misses 69 = .ok (.goto 4, 3) := by decide +kernel
theorem dX7_misses_72 : decode cX7_misses 72 = .ok (.iconst (-1), 1) := by decide +kernel
theorem dX7_misses_73 : decode cX7_misses 73 = .ok (.ireturn, 1) := by decide +kernel
theorem dX7_misses_74 : decode cX7_misses 74 = .ok (.iconst 0, 1) := by decide +kernel
theorem dX7_misses_75 : decode cX7_misses 75 = .ok (.istore 4, 2) := by decide +kernel
theorem dX7_misses_77 : decode cX7_misses 77 = .ok (.iconst 0, 1) := by decide +kernel
theorem dX7_misses_78 : decode cX7_misses 78 = .ok (.istore 5, 2) := by decide +kernel
theorem dX7_misses_80 : decode cX7_misses 80 = .ok (.iconst 5, 1) := by decide +kernel
theorem dX7_misses_81 : decode cX7_misses 81 = .ok (.istore 6, 2) := by decide +kernel
theorem dX7_misses_83 : decode cX7_misses 83 = .ok (.iconst (-1), 1) := by decide +kernel
theorem dX7_misses_84 : decode cX7_misses 84 = .ok (.istore 7, 2) := by decide +kernel
theorem dX7_misses_86 : decode cX7_misses 86 = .ok (.iconst 2, 1) := by decide +kernel
theorem dX7_misses_87 : decode cX7_misses 87 = .ok (.istore 8, 2) := by decide +kernel
theorem dX7_misses_89 : decode cX7_misses 89 = .ok (.iload 8, 2) := by decide +kernel
theorem dX7_misses_91 : decode cX7_misses 91 = .ok (.ifCond .lt 79, 3) := by decide +kernel
theorem dX7_misses_94 : decode cX7_misses 94 = .ok (.aload_n 0, 1) := by decide +kernel
theorem dX7_misses_95 : decode cX7_misses 95 = .ok (.iload_n 1, 1) := by decide +kernel
theorem dX7_misses_96 : decode cX7_misses 96 = .ok (.iload 8, 2) := by decide +kernel
theorem dX7_misses_98 : decode cX7_misses 98 = .ok (.iconst 0, 1) := by decide +kernel
theorem dX7_misses_99 : decode cX7_misses 99 = .ok (.invokevirtual 171, 3) := by decide +kernel
theorem dX7_misses_102 : decode cX7_misses 102 = .ok (.istore 9, 2) := by decide +kernel
theorem dX7_misses_104 : decode cX7_misses 104 = .ok (.iload 4, 2) := by decide +kernel
theorem dX7_misses_106 : decode cX7_misses 106 = .ok (.iload 9, 2) := by decide +kernel
theorem dX7_misses_108 : decode cX7_misses 108 = .ok (.iadd, 1) := by decide +kernel
theorem dX7_misses_109 : decode cX7_misses 109 = .ok (.istore 4, 2) := by decide +kernel
theorem dX7_misses_111 : decode cX7_misses 111 = .ok (.iload 9, 2) := by decide +kernel
theorem dX7_misses_113 : decode cX7_misses 113 = .ok (.iload 5, 2) := by decide +kernel
theorem dX7_misses_115 : decode cX7_misses 115 = .ok (.if_icmp .le 8, 3) := by decide +kernel
theorem dX7_misses_118 : decode cX7_misses 118 = .ok (.iload 9, 2) := by decide +kernel
theorem dX7_misses_120 : decode cX7_misses 120 = .ok (.goto 5, 3) := by decide +kernel
theorem dX7_misses_123 : decode cX7_misses 123 = .ok (.iload 5, 2) := by decide +kernel
theorem dX7_misses_125 : decode cX7_misses 125 = .ok (.istore 5, 2) := by decide +kernel
theorem dX7_misses_127 : decode cX7_misses 127 = .ok (.iload 9, 2) := by decide +kernel
theorem dX7_misses_129 : decode cX7_misses 129 = .ok (.iload 6, 2) := by decide +kernel
theorem dX7_misses_131 : decode cX7_misses 131 = .ok (.if_icmp .ge 8, 3) := by decide +kernel
theorem dX7_misses_134 : decode cX7_misses 134 = .ok (.iload 9, 2) := by decide +kernel
theorem dX7_misses_136 : decode cX7_misses 136 = .ok (.goto 5, 3) := by decide +kernel
theorem dX7_misses_139 : decode cX7_misses 139 = .ok (.iload 6, 2) := by decide +kernel
theorem dX7_misses_141 : decode cX7_misses 141 = .ok (.istore 6, 2) := by decide +kernel
theorem dX7_misses_143 : decode cX7_misses 143 = .ok (.iload 9, 2) := by decide +kernel
theorem dX7_misses_145 : decode cX7_misses 145 = .ok (.iconst 1, 1) := by decide +kernel
theorem dX7_misses_146 : decode cX7_misses 146 = .ok (.if_icmp .ne 14, 3) := by decide +kernel
theorem dX7_misses_149 : decode cX7_misses 149 = .ok (.aload_n 0, 1) := by decide +kernel
theorem dX7_misses_150 : decode cX7_misses 150 = .ok (.iload_n 1, 1) := by decide +kernel
theorem dX7_misses_151 : decode cX7_misses 151 = .ok (.iload 8, 2) := by decide +kernel
theorem dX7_misses_153 : decode cX7_misses 153 = .ok (.iconst 1, 1) := by decide +kernel
theorem dX7_misses_154 : decode cX7_misses 154 = .ok (.invokevirtual 171, 3) := by decide +kernel
theorem dX7_misses_157 : decode cX7_misses 157 = .ok (.goto 5, 3) := by decide +kernel
theorem dX7_misses_160 : decode cX7_misses 160 = .ok (.iload 7, 2) := by decide +kernel
theorem dX7_misses_162 : decode cX7_misses 162 = .ok (.istore 7, 2) := by decide +kernel
theorem dX7_misses_164 : decode cX7_misses 164 = .ok (.iinc 8 (-1), 3) := by decide +kernel
theorem dX7_misses_167 : decode cX7_misses 167 = .ok (.goto (-78), 3) := by decide +kernel
theorem dX7_misses_170 : decode cX7_misses 170 = .ok (.iload_n 2, 1) := by decide +kernel
theorem dX7_misses_171 : decode cX7_misses 171 = .ok (.ifCond .ne 8, 3) := by decide +kernel
theorem dX7_misses_174 : decode cX7_misses 174 = .ok (.iload 6, 2) := by decide +kernel
theorem dX7_misses_176 : decode cX7_misses 176 = .ok (.goto 8, 3) := by decide +kernel
theorem dX7_misses_179 : decode cX7_misses 179 = .ok (.iload 4, 2) := by decide +kernel
theorem dX7_misses_181 : decode cX7_misses 181 = .ok (.iload 5, 2) := by decide +kernel
theorem dX7_misses_183 : decode cX7_misses 183 = .ok (.isub, 1) := by decide +kernel
theorem dX7_misses_184 : decode cX7_misses 184 = .ok (.istore 8, 2) := by decide +kernel
theorem dX7_misses_186 : decode cX7_misses 186 = .ok (.iload_n 3, 1) := by decide +kernel
theorem dX7_misses_187 : decode cX7_misses 187 = .ok (.ifCond .ne 8, 3) := by decide +kernel
theorem dX7_misses_190 : decode cX7_misses 190 = .ok (.iload 8, 2) := by decide +kernel
theorem dX7_misses_192 : decode cX7_misses 192 = .ok (.goto 15, 3) := by decide +kernel
theorem dX7_misses_195 : decode cX7_misses 195 = .ok (.iload 8, 2) := by decide +kernel
theorem dX7_misses_197 : decode cX7_misses 197 = .ok (.iconst 1, 1) := by decide +kernel
theorem dX7_misses_198 : decode cX7_misses 198 = .ok (.if_icmp .ne 8, 3) := by decide +kernel
theorem dX7_misses_201 : decode cX7_misses 201 = .ok (.iload 7, 2) := by decide +kernel
theorem dX7_misses_203 : decode cX7_misses 203 = .ok (.goto 4, 3) := by decide +kernel
theorem dX7_misses_206 : decode cX7_misses 206 = .ok (.iconst (-1), 1) := by decide +kernel
theorem dX7_misses_207 : decode cX7_misses 207 = .ok (.ireturn, 1) := by decide +kernel
theorem dX7_missing_0 : decode cX7_missing 0 = .ok (.aload_n 0, 1) := by decide +kernel
theorem dX7_missing_1 : decode cX7_missing 1 = .ok (.iload_n 1, 1) := by decide +kernel
theorem dX7_missing_2 : decode cX7_missing 2 = .ok (.invokestatic 50, 3) := by decide +kernel
theorem dX7_missing_5 : decode cX7_missing 5 = .ok (.ifCond .eq 16, 3) := by decide +kernel
theorem dX7_missing_8 : decode cX7_missing 8 = .ok (.iload_n 2, 1) := by decide +kernel
theorem dX7_missing_9 : decode cX7_missing 9 = .ok (.iconst 0, 1) := by decide +kernel
theorem dX7_missing_10 : decode cX7_missing 10 = .ok (.iconst 3, 1) := by decide +kernel
theorem dX7_missing_11 : decode cX7_missing 11 = .ok (.invokestatic 32, 3) := by decide +kernel
theorem dX7_missing_14 : decode cX7_missing 14 = .ok (.ifCond .eq 7, 3) := by decide +kernel
theorem dX7_missing_17 : decode cX7_missing 17 = .ok (.iconst 1, 1) := by decide +kernel
theorem dX7_missing_18 : decode cX7_missing 18 = .ok (.goto 4, 3) := by decide +kernel
theorem dX7_missing_21 : decode cX7_missing 21 = .ok (.iconst 0, 1) := by decide +kernel
theorem dX7_missing_22 : decode cX7_missing 22 = .ok (.iload_n 3, 1) := by decide +kernel
theorem dX7_missing_23 : decode cX7_missing 23 = .ok (.iconst 0, 1) := by decide +kernel
theorem dX7_missing_24 : decode cX7_missing 24 = .ok (.iconst 1, 1) := by decide +kernel
theorem dX7_missing_25 : decode cX7_missing 25 = .ok (.invokestatic 32, 3) := by decide +kernel
theorem dX7_missing_28 : decode cX7_missing 28 = .ok (.iconst 1, 1) := by decide +kernel
theorem dX7_missing_29 : decode cX7_missing 29 = .ok (.invokevirtual 60, 3) := by decide +kernel
theorem dX7_missing_32 : decode cX7_missing 32 = .ok (.ifCond .eq 13, 3) := by decide +kernel
theorem dX7_missing_35 : decode cX7_missing 35 = .ok (.aload_n 0, 1) := by decide +kernel
theorem dX7_missing_36 : decode cX7_missing 36 = .ok (.iload_n 1, 1) := by decide +kernel
theorem dX7_missing_37 : decode cX7_missing 37 = .ok (.iload_n 2, 1) := by decide +kernel
theorem dX7_missing_38 : decode cX7_missing 38 = .ok (.iload_n 3, 1) := by decide +kernel
theorem dX7_missing_39 : decode cX7_missing 39 = .ok (.invokevirtual 175, 3) := by decide +kernel
theorem dX7_missing_42 : decode cX7_missing 42 = .ok (.goto 4, 3) := by decide +kernel
theorem dX7_missing_45 : decode cX7_missing 45 = .ok (.iconst 0, 1) := by decide +kernel
theorem dX7_missing_46 : decode cX7_missing 46 = .ok (.ireturn, 1) := by decide +kernel
theorem dX7_empties_0 : decode cX7_empties 0 = .ok (.aload_n 0, 1) := by decide +kernel
theorem dX7_empties_1 : decode cX7_empties 1 = .ok (.iconst 0, 1) := by decide +kernel
theorem dX7_empties_2 : decode cX7_empties 2 = .ok (.bipush 9, 2) := by decide +kernel
theorem dX7_empties_4 : decode cX7_empties 4 = .ok (.invokevirtual 28, 3) := by decide +kernel
theorem dX7_empties_7 : decode cX7_empties 7 = .ok (.aload_n 0, 1) := by decide +kernel
theorem dX7_empties_8 : decode cX7_empties 8 = .ok (.getfield 7, 3) := by decide +kernel
theorem dX7_empties_11 : decode cX7_empties 11 = .ok (.sipush 4903, 3) := by decide +kernel
theorem dX7_empties_14 : decode cX7_empties 14 = .ok (.iaload, 1) := by decide +kernel
theorem dX7_empties_15 : decode cX7_empties 15 = .ok (.bipush 90, 2) := by decide +kernel
theorem dX7_empties_17 : decode cX7_empties 17 = .ok (.if_icmp .ge 14, 3) := by decide +kernel
theorem dX7_empties_20 : decode cX7_empties 20 = .ok (.aload_n 0, 1) := by decide +kernel
theorem dX7_empties_21 : decode cX7_empties 21 = .ok (.sipush 4446, 3) := by decide +kernel
theorem dX7_empties_24 : decode cX7_empties 24 = .ok (.invokevirtual 90, 3) := by decide +kernel
theorem dX7_empties_27 : decode cX7_empties 27 = .ok (.pop, 1) := by decide +kernel
theorem dX7_empties_28 : decode cX7_empties 28 = .ok (.goto (-21), 3) := by decide +kernel
theorem dX7_empties_31 : decode cX7_empties 31 = .ok (.return_, 1) := by decide +kernel
theorem dX7_full_0 : decode cX7_full 0 = .ok (.aload_n 0, 1) := by decide +kernel
theorem dX7_full_1 : decode cX7_full 1 = .ok (.iload_n 1, 1) := by decide +kernel
theorem dX7_full_2 : decode cX7_full 2 = .ok (.invokevirtual 81, 3) := by decide +kernel
theorem dX7_full_5 : decode cX7_full 5 = .ok (.ifCond .ne 5, 3) := by decide +kernel
theorem dX7_full_8 : decode cX7_full 8 = .ok (.iconst (-1), 1) := by decide +kernel
theorem dX7_full_9 : decode cX7_full 9 = .ok (.ireturn, 1) := by decide +kernel
theorem dX7_full_10 : decode cX7_full 10 = .ok (.aload_n 0, 1) := by decide +kernel
theorem dX7_full_11 : decode cX7_full 11 = .ok (.invokevirtual 178, 3) := by decide +kernel
theorem dX7_full_14 : decode cX7_full 14 = .ok (.iconst 0, 1) := by decide +kernel
theorem dX7_full_15 : decode cX7_full 15 = .ok (.istore_n 2, 1) := by decide +kernel
theorem dX7_full_16 : decode cX7_full 16 = .ok (.iconst 1, 1) := by decide +kernel
theorem dX7_full_17 : decode cX7_full 17 = .ok (.istore_n 3, 1) := by decide +kernel
theorem dX7_full_18 : decode cX7_full 18 = .ok (.iload_n 3, 1) := by decide +kernel
theorem dX7_full_19 : decode cX7_full 19 = .ok (.bipush 90, 2) := by decide +kernel
theorem dX7_full_21 : decode cX7_full 21 = .ok (.if_icmp .gt 64, 3) := by decide +kernel
theorem dX7_full_24 : decode cX7_full 24 = .ok (.aload_n 0, 1) := by decide +kernel
theorem dX7_full_25 : decode cX7_full 25 = .ok (.getfield 7, 3) := by decide +kernel
theorem dX7_full_28 : decode cX7_full 28 = .ok (.iconst 4, 1) := by decide +kernel
theorem dX7_full_29 : decode cX7_full 29 = .ok (.iload_n 3, 1) := by decide +kernel
theorem dX7_full_30 : decode cX7_full 30 = .ok (.iadd, 1) := by decide +kernel
theorem dX7_full_31 : decode cX7_full 31 = .ok (.iaload, 1) := by decide +kernel
theorem dX7_full_32 : decode cX7_full 32 = .ok (.iconst 2, 1) := by decide +kernel
theorem dX7_full_33 : decode cX7_full 33 = .ok (.iadd, 1) := by decide +kernel
theorem dX7_full_34 : decode cX7_full 34 = .ok (.iconst 3, 1) := by decide +kernel
theorem dX7_full_35 : decode cX7_full 35 = .ok (.idiv, 1) := by decide +kernel
theorem dX7_full_36 : decode cX7_full 36 = .ok (.iload_n 1, 1) := by decide +kernel
theorem dX7_full_37 : decode cX7_full 37 = .ok (.iconst 1, 1) := by decide +kernel
theorem dX7_full_38 : decode cX7_full 38 = .ok (.iadd, 1) := by decide +kernel
theorem dX7_full_39 : decode cX7_full 39 = .ok (.if_icmp .ne 7, 3) := by decide +kernel
theorem dX7_full_42 : decode cX7_full 42 = .ok (.iconst 1, 1) := by decide +kernel
theorem dX7_full_43 : decode cX7_full 43 = .ok (.goto 4, 3) := by decide +kernel
theorem dX7_full_46 : decode cX7_full 46 = .ok (.iconst 0, 1) := by decide +kernel
theorem dX7_full_47 : decode cX7_full 47 = .ok (.istore 4, 2) := by decide +kernel
theorem dX7_full_49 : decode cX7_full 49 = .ok (.aload_n 0, 1) := by decide +kernel
theorem dX7_full_50 : decode cX7_full 50 = .ok (.getfield 7, 3) := by decide +kernel
theorem dX7_full_53 : decode cX7_full 53 = .ok (.sipush 4541, 3) := by decide +kernel
theorem dX7_full_56 : decode cX7_full 56 = .ok (.iload_n 3, 1) := by decide +kernel
theorem dX7_full_57 : decode cX7_full 57 = .ok (.iadd, 1) := by decide +kernel
theorem dX7_full_58 : decode cX7_full 58 = .ok (.iaload, 1) := by decide +kernel
theorem dX7_full_59 : decode cX7_full 59 = .ok (.istore 5, 2) := by decide +kernel
theorem dX7_full_61 : decode cX7_full 61 = .ok (.iload 4, 2) := by decide +kernel
theorem dX7_full_63 : decode cX7_full 63 = .ok (.ifCond .eq 14, 3) := by decide +kernel
theorem dX7_full_66 : decode cX7_full 66 = .ok (.iload 5, 2) := by decide +kernel
theorem dX7_full_68 : decode cX7_full 68 = .ok (.iload_n 2, 1) := by decide +kernel
theorem dX7_full_69 : decode cX7_full 69 = .ok (.if_icmp .le 8, 3) := by decide +kernel
theorem dX7_full_72 : decode cX7_full 72 = .ok (.iload 5, 2) := by decide +kernel
theorem dX7_full_74 : decode cX7_full 74 = .ok (.goto 4, 3) := by decide +kernel
theorem dX7_full_77 : decode cX7_full 77 = .ok (.iload_n 2, 1) := by decide +kernel
theorem dX7_full_78 : decode cX7_full 78 = .ok (.istore_n 2, 1) := by decide +kernel
theorem dX7_full_79 : decode cX7_full 79 = .ok (.iinc 3 1, 3) := by decide +kernel
theorem dX7_full_82 : decode cX7_full 82 = .ok (.goto (-64), 3) := by decide +kernel
theorem dX7_full_85 : decode cX7_full 85 = .ok (.iload_n 2, 1) := by decide +kernel
theorem dX7_full_86 : decode cX7_full 86 = .ok (.ireturn, 1) := by decide +kernel
theorem dX7_fullAt_0 : decode cX7_fullAt 0 = .ok (.aload_n 0, 1) := by decide +kernel
theorem dX7_fullAt_1 : decode cX7_fullAt 1 = .ok (.iload_n 1, 1) := by decide +kernel
theorem dX7_fullAt_2 : decode cX7_fullAt 2 = .ok (.invokestatic 50, 3) := by decide +kernel
theorem dX7_fullAt_5 : decode cX7_fullAt 5 = .ok (.iload_n 2, 1) := by decide +kernel
theorem dX7_fullAt_6 : decode cX7_fullAt 6 = .ok (.iconst 0, 1) := by decide +kernel
theorem dX7_fullAt_7 : decode cX7_fullAt 7 = .ok (.iconst 1, 1) := by decide +kernel
theorem dX7_fullAt_8 : decode cX7_fullAt 8 = .ok (.invokestatic 32, 3) := by decide +kernel
theorem dX7_fullAt_11 : decode cX7_fullAt 11 = .ok (.iconst 1, 1) := by decide +kernel
theorem dX7_fullAt_12 : decode cX7_fullAt 12 = .ok (.invokevirtual 60, 3) := by decide +kernel
theorem dX7_fullAt_15 : decode cX7_fullAt 15 = .ok (.ifCond .eq 11, 3) := by decide +kernel
theorem dX7_fullAt_18 : decode cX7_fullAt 18 = .ok (.aload_n 0, 1) := by decide +kernel
theorem dX7_fullAt_19 : decode cX7_fullAt 19 = .ok (.iload_n 1, 1) := by decide +kernel
theorem dX7_fullAt_20 : decode cX7_fullAt 20 = .ok (.invokevirtual 181, 3) := by decide +kernel
theorem dX7_fullAt_23 : decode cX7_fullAt 23 = .ok (.goto 4, 3) := by decide +kernel
theorem dX7_fullAt_26 : decode cX7_fullAt 26 = .ok (.iconst 0, 1) := by decide +kernel
theorem dX7_fullAt_27 : decode cX7_fullAt 27 = .ok (.ireturn, 1) := by decide +kernel
theorem dX7_first_0 : decode cX7_first 0 = .ok (.iconst (-1), 1) := by decide +kernel
theorem dX7_first_1 : decode cX7_first 1 = .ok (.istore_n 1, 1) := by decide +kernel
theorem dX7_first_2 : decode cX7_first 2 = .ok (.iconst 0, 1) := by decide +kernel
theorem dX7_first_3 : decode cX7_first 3 = .ok (.istore_n 2, 1) := by decide +kernel
theorem dX7_first_4 : decode cX7_first 4 = .ok (.iconst 0, 1) := by decide +kernel
theorem dX7_first_5 : decode cX7_first 5 = .ok (.istore_n 3, 1) := by decide +kernel
theorem dX7_first_6 : decode cX7_first 6 = .ok (.iload_n 3, 1) := by decide +kernel
theorem dX7_first_7 : decode cX7_first 7 = .ok (.bipush 6, 2) := by decide +kernel
theorem dX7_first_9 : decode cX7_first 9 = .ok (.if_icmp .ge 36, 3) := by decide +kernel
theorem dX7_first_12 : decode cX7_first 12 = .ok (.aload_n 0, 1) := by decide +kernel
theorem dX7_first_13 : decode cX7_first 13 = .ok (.iload_n 3, 1) := by decide +kernel
theorem dX7_first_14 : decode cX7_first 14 = .ok (.invokevirtual 181, 3) := by decide +kernel
theorem dX7_first_17 : decode cX7_first 17 = .ok (.istore 4, 2) := by decide +kernel
theorem dX7_first_19 : decode cX7_first 19 = .ok (.iload 4, 2) := by decide +kernel
theorem dX7_first_21 : decode cX7_first 21 = .ok (.ifCond .le 18, 3) := by decide +kernel
theorem dX7_first_24 : decode cX7_first 24 = .ok (.iload_n 1, 1) := by decide +kernel
theorem dX7_first_25 : decode cX7_first 25 = .ok (.ifCond .lt 9, 3) := by decide +kernel
theorem dX7_first_28 : decode cX7_first 28 = .ok (.iload 4, 2) := by decide +kernel
theorem dX7_first_30 : decode cX7_first 30 = .ok (.iload_n 2, 1) := by decide +kernel
theorem dX7_first_31 : decode cX7_first 31 = .ok (.if_icmp .ge 8, 3) := by decide +kernel
theorem dX7_first_34 : decode cX7_first 34 = .ok (.iload_n 3, 1) := by decide +kernel
theorem dX7_first_35 : decode cX7_first 35 = .ok (.istore_n 1, 1) := by decide +kernel
theorem dX7_first_36 : decode cX7_first 36 = .ok (.iload 4, 2) := by decide +kernel
theorem dX7_first_38 : decode cX7_first 38 = .ok (.istore_n 2, 1) := by decide +kernel
theorem dX7_first_39 : decode cX7_first 39 = .ok (.iinc 3 1, 3) := by decide +kernel
theorem dX7_first_42 : decode cX7_first 42 = .ok (.goto (-36), 3) := by decide +kernel
theorem dX7_first_45 : decode cX7_first 45 = .ok (.iload_n 1, 1) := by decide +kernel
theorem dX7_first_46 : decode cX7_first 46 = .ok (.ireturn, 1) := by decide +kernel
theorem dX7_firstFull_0 : decode cX7_firstFull 0 = .ok (.aload_n 0, 1) := by decide +kernel
theorem dX7_firstFull_1 : decode cX7_firstFull 1 = .ok (.iconst 0, 1) := by decide +kernel
theorem dX7_firstFull_2 : decode cX7_firstFull 2 = .ok (.putfield 21, 3) := by decide +kernel
theorem dX7_firstFull_5 : decode cX7_firstFull 5 = .ok (.aload_n 0, 1) := by decide +kernel
theorem dX7_firstFull_6 : decode cX7_firstFull 6 = .ok (.invokevirtual 184, 3) := by decide +kernel
theorem dX7_firstFull_9 : decode cX7_firstFull 9 = .ok (.ireturn, 1) := by decide +kernel
theorem dX7_nextBall_0 : decode cX7_nextBall 0 = .ok (.aload_n 0, 1) := by decide +kernel
theorem dX7_nextBall_1 : decode cX7_nextBall 1 = .ok (.invokevirtual 178, 3) := by decide +kernel
theorem dX7_nextBall_4 : decode cX7_nextBall 4 = .ok (.aload_n 0, 1) := by decide +kernel
theorem dX7_nextBall_5 : decode cX7_nextBall 5 = .ok (.getfield 7, 3) := by decide +kernel
theorem dX7_nextBall_8 : decode cX7_nextBall 8 = .ok (.sipush 457, 3) := by decide +kernel
theorem dX7_nextBall_11 : decode cX7_nextBall 11 = .ok (.iaload, 1) := by decide +kernel
theorem dX7_nextBall_12 : decode cX7_nextBall 12 = .ok (.iload_n 1, 1) := by decide +kernel
theorem dX7_nextBall_13 : decode cX7_nextBall 13 = .ok (.iadd, 1) := by decide +kernel
theorem dX7_nextBall_14 : decode cX7_nextBall 14 = .ok (.istore_n 2, 1) := by decide +kernel
theorem dX7_nextBall_15 : decode cX7_nextBall 15 = .ok (.iload_n 2, 1) := by decide +kernel
theorem dX7_nextBall_16 : decode cX7_nextBall 16 = .ok (.bipush 90, 2) := by decide +kernel
theorem dX7_nextBall_18 : decode cX7_nextBall 18 = .ok (.if_icmp .le 7, 3) := by decide +kernel
theorem dX7_nextBall_21 : decode cX7_nextBall 21 = .ok (.iconst (-1), 1) := by decide +kernel
theorem dX7_nextBall_22 : decode cX7_nextBall 22 = .ok (.goto 15, 3) := by decide +kernel
theorem dX7_nextBall_25 : decode cX7_nextBall 25 = .ok (.aload_n 0, 1) := by decide +kernel
theorem dX7_nextBall_26 : decode cX7_nextBall 26 = .ok (.getfield 7, 3) := by decide +kernel
theorem dX7_nextBall_29 : decode cX7_nextBall 29 = .ok (.sipush 4723, 3) := by decide +kernel
theorem dX7_nextBall_32 : decode cX7_nextBall 32 = .ok (.iload_n 2, 1) := by decide +kernel
theorem dX7_nextBall_33 : decode cX7_nextBall 33 = .ok (.iadd, 1) := by decide +kernel
theorem dX7_nextBall_34 : decode cX7_nextBall 34 = .ok (.iconst 1, 1) := by decide +kernel
theorem dX7_nextBall_35 : decode cX7_nextBall 35 = .ok (.isub, 1) := by decide +kernel
theorem dX7_nextBall_36 : decode cX7_nextBall 36 = .ok (.iaload, 1) := by decide +kernel
theorem dX7_nextBall_37 : decode cX7_nextBall 37 = .ok (.ireturn, 1) := by decide +kernel
theorem dX7_next_0 : decode cX7_next 0 = .ok (.aload_n 0, 1) := by decide +kernel
theorem dX7_next_1 : decode cX7_next 1 = .ok (.iload_n 1, 1) := by decide +kernel
theorem dX7_next_2 : decode cX7_next 2 = .ok (.iconst 1, 1) := by decide +kernel
theorem dX7_next_3 : decode cX7_next 3 = .ok (.bipush 90, 2) := by decide +kernel
theorem dX7_next_5 : decode cX7_next 5 = .ok (.invokestatic 32, 3) := by decide +kernel
theorem dX7_next_8 : decode cX7_next 8 = .ok (.iconst 1, 1) := by decide +kernel
theorem dX7_next_9 : decode cX7_next 9 = .ok (.iconst 1, 1) := by decide +kernel
theorem dX7_next_10 : decode cX7_next 10 = .ok (.invokevirtual 60, 3) := by decide +kernel
theorem dX7_next_13 : decode cX7_next 13 = .ok (.ifCond .eq 11, 3) := by decide +kernel
theorem dX7_next_16 : decode cX7_next 16 = .ok (.aload_n 0, 1) := by decide +kernel
theorem dX7_next_17 : decode cX7_next 17 = .ok (.iload_n 1, 1) := by decide +kernel
theorem dX7_next_18 : decode cX7_next 18 = .ok (.invokevirtual 187, 3) := by decide +kernel
theorem dX7_next_21 : decode cX7_next 21 = .ok (.goto 4, 3) := by decide +kernel
theorem dX7_next_24 : decode cX7_next 24 = .ok (.iconst 0, 1) := by decide +kernel
theorem dX7_next_25 : decode cX7_next 25 = .ok (.ireturn, 1) := by decide +kernel
theorem dX7_share_0 : decode cX7_share 0 = .ok (.iconst 0, 1) := by decide +kernel
theorem dX7_share_1 : decode cX7_share 1 = .ok (.istore_n 1, 1) := by decide +kernel
theorem dX7_share_2 : decode cX7_share 2 = .ok (.iconst 0, 1) := by decide +kernel
theorem dX7_share_3 : decode cX7_share 3 = .ok (.istore_n 2, 1) := by decide +kernel
theorem dX7_share_4 : decode cX7_share 4 = .ok (.iload_n 2, 1) := by decide +kernel
theorem dX7_share_5 : decode cX7_share 5 = .ok (.bipush 6, 2) := by decide +kernel
theorem dX7_share_7 : decode cX7_share 7 = .ok (.if_icmp .ge 18, 3) := by decide +kernel
theorem dX7_share_10 : decode cX7_share 10 = .ok (.iload_n 1, 1) := by decide +kernel
theorem dX7_share_11 : decode cX7_share 11 = .ok (.aload_n 0, 1) := by decide +kernel
theorem dX7_share_12 : decode cX7_share 12 = .ok (.iload_n 2, 1) := by decide +kernel
theorem dX7_share_13 : decode cX7_share 13 = .ok (.iconst 1, 1) := by decide +kernel
theorem dX7_share_14 : decode cX7_share 14 = .ok (.invokevirtual 143, 3) := by decide +kernel
theorem dX7_share_17 : decode cX7_share 17 = .ok (.iadd, 1) := by decide +kernel
theorem dX7_share_18 : decode cX7_share 18 = .ok (.istore_n 1, 1) := by decide +kernel
theorem dX7_share_19 : decode cX7_share 19 = .ok (.iinc 2 1, 3) := by decide +kernel
theorem dX7_share_22 : decode cX7_share 22 = .ok (.goto (-18), 3) := by decide +kernel
theorem dX7_share_25 : decode cX7_share 25 = .ok (.aload_n 0, 1) := by decide +kernel
theorem dX7_share_26 : decode cX7_share 26 = .ok (.invokevirtual 70, 3) := by decide +kernel
theorem dX7_share_29 : decode cX7_share 29 = .ok (.ifCond .ne 7, 3) := by decide +kernel
theorem dX7_share_32 : decode cX7_share 32 = .ok (.dconst 0, 1) := by decide +kernel
theorem dX7_share_33 : decode cX7_share 33 = .ok (.goto 11, 3) := by decide +kernel
theorem dX7_share_36 : decode cX7_share 36 = .ok (.iload_n 1, 1) := by decide +kernel
theorem dX7_share_37 : decode cX7_share 37 = .ok (.i2d, 1) := by decide +kernel
theorem dX7_share_38 : decode cX7_share 38 = .ok (.aload_n 0, 1) := by decide +kernel
theorem dX7_share_39 : decode cX7_share 39 = .ok (.invokevirtual 70, 3) := by decide +kernel
theorem dX7_share_42 : decode cX7_share 42 = .ok (.i2d, 1) := by decide +kernel
theorem dX7_share_43 : decode cX7_share 43 = .ok (.ddiv, 1) := by decide +kernel
theorem dX7_share_44 : decode cX7_share 44 = .ok (.dreturn, 1) := by decide +kernel
theorem dX7_drawnShare_0 : decode cX7_drawnShare 0 = .ok (.aload_n 0, 1) := by decide +kernel
theorem dX7_drawnShare_1 : decode cX7_drawnShare 1 = .ok (.iconst 0, 1) := by decide +kernel
theorem dX7_drawnShare_2 : decode cX7_drawnShare 2 = .ok (.putfield 21, 3) := by decide +kernel
theorem dX7_drawnShare_5 : decode cX7_drawnShare 5 = .ok (.aload_n 0, 1) := by decide +kernel
theorem dX7_drawnShare_6 : decode cX7_drawnShare 6 = .ok (.invokevirtual 190, 3) := by decide +kernel
theorem dX7_drawnShare_9 : decode cX7_drawnShare 9 = .ok (.dreturn, 1) := by decide +kernel
theorem dX7_digest_0 : decode cX7_digest 0 = .ok (.aload_n 0, 1) := by decide +kernel
theorem dX7_digest_1 : decode cX7_digest 1 = .ok (.iconst 0, 1) := by decide +kernel
theorem dX7_digest_2 : decode cX7_digest 2 = .ok (.putfield 21, 3) := by decide +kernel
theorem dX7_digest_5 : decode cX7_digest 5 = .ok (.ldc2_w 194, 3) := by decide +kernel
theorem dX7_digest_8 : decode cX7_digest 8 = .ok (.lstore_n 1, 1) := by decide +kernel
theorem dX7_digest_9 : decode cX7_digest 9 = .ok (.iconst 0, 1) := by decide +kernel
theorem dX7_digest_10 : decode cX7_digest 10 = .ok (.istore_n 3, 1) := by decide +kernel
theorem dX7_digest_11 : decode cX7_digest 11 = .ok (.iload_n 3, 1) := by decide +kernel
theorem dX7_digest_12 : decode cX7_digest 12 = .ok (.bipush 15, 2) := by decide +kernel
theorem dX7_digest_14 : decode cX7_digest 14 = .ok (.if_icmp .ge 22, 3) := by decide +kernel
theorem dX7_digest_17 : decode cX7_digest 17 = .ok (.ldc2_w 196, 3) := by decide +kernel
theorem dX7_digest_20 : decode cX7_digest 20 = .ok (.lload_n 1, 1) := by decide +kernel
theorem dX7_digest_21 : decode cX7_digest 21 = .ok (.lmul, 1) := by decide +kernel
theorem dX7_digest_22 : decode cX7_digest 22 = .ok (.aload_n 0, 1) := by decide +kernel
theorem dX7_digest_23 : decode cX7_digest 23 = .ok (.iload_n 3, 1) := by decide +kernel
theorem dX7_digest_24 : decode cX7_digest 24 = .ok (.invokevirtual 165, 3) := by decide +kernel
theorem dX7_digest_27 : decode cX7_digest 27 = .ok (.i2l, 1) := by decide +kernel
theorem dX7_digest_28 : decode cX7_digest 28 = .ok (.ladd, 1) := by decide +kernel
theorem dX7_digest_29 : decode cX7_digest 29 = .ok (.lstore_n 1, 1) := by decide +kernel
theorem dX7_digest_30 : decode cX7_digest 30 = .ok (.iinc 3 1, 3) := by decide +kernel
theorem dX7_digest_33 : decode cX7_digest 33 = .ok (.goto (-22), 3) := by decide +kernel
theorem dX7_digest_36 : decode cX7_digest 36 = .ok (.iconst 0, 1) := by decide +kernel
theorem dX7_digest_37 : decode cX7_digest 37 = .ok (.istore_n 3, 1) := by decide +kernel
theorem dX7_digest_38 : decode cX7_digest 38 = .ok (.iload_n 3, 1) := by decide +kernel
theorem dX7_digest_39 : decode cX7_digest 39 = .ok (.iconst 3, 1) := by decide +kernel
theorem dX7_digest_40 : decode cX7_digest 40 = .ok (.if_icmp .ge 23, 3) := by decide +kernel
theorem dX7_digest_43 : decode cX7_digest 43 = .ok (.ldc2_w 196, 3) := by decide +kernel
theorem dX7_digest_46 : decode cX7_digest 46 = .ok (.lload_n 1, 1) := by decide +kernel
theorem dX7_digest_47 : decode cX7_digest 47 = .ok (.lmul, 1) := by decide +kernel
theorem dX7_digest_48 : decode cX7_digest 48 = .ok (.aload_n 0, 1) := by decide +kernel
theorem dX7_digest_49 : decode cX7_digest 49 = .ok (.getfield 7, 3) := by decide +kernel
theorem dX7_digest_52 : decode cX7_digest 52 = .ok (.iload_n 3, 1) := by decide +kernel
theorem dX7_digest_53 : decode cX7_digest 53 = .ok (.iaload, 1) := by decide +kernel
theorem dX7_digest_54 : decode cX7_digest 54 = .ok (.i2l, 1) := by decide +kernel
theorem dX7_digest_55 : decode cX7_digest 55 = .ok (.ladd, 1) := by decide +kernel
theorem dX7_digest_56 : decode cX7_digest 56 = .ok (.lstore_n 1, 1) := by decide +kernel
theorem dX7_digest_57 : decode cX7_digest 57 = .ok (.iinc 3 1, 3) := by decide +kernel
theorem dX7_digest_60 : decode cX7_digest 60 = .ok (.goto (-22), 3) := by decide +kernel
theorem dX7_digest_63 : decode cX7_digest 63 = .ok (.iconst 0, 1) := by decide +kernel
theorem dX7_digest_64 : decode cX7_digest 64 = .ok (.istore_n 3, 1) := by decide +kernel
theorem dX7_digest_65 : decode cX7_digest 65 = .ok (.iload_n 3, 1) := by decide +kernel
theorem dX7_digest_66 : decode cX7_digest 66 = .ok (.sipush 162, 3) := by decide +kernel
theorem dX7_digest_69 : decode cX7_digest 69 = .ok (.if_icmp .ge 35, 3) := by decide +kernel
theorem dX7_digest_72 : decode cX7_digest 72 = .ok (.ldc2_w 196, 3) := by decide +kernel
theorem dX7_digest_75 : decode cX7_digest 75 = .ok (.lload_n 1, 1) := by decide +kernel
theorem dX7_digest_76 : decode cX7_digest 76 = .ok (.lmul, 1) := by decide +kernel
theorem dX7_digest_77 : decode cX7_digest 77 = .ok (.aload_n 0, 1) := by decide +kernel
theorem dX7_digest_78 : decode cX7_digest 78 = .ok (.iload_n 3, 1) := by decide +kernel
theorem dX7_digest_79 : decode cX7_digest 79 = .ok (.bipush 27, 2) := by decide +kernel
theorem dX7_digest_81 : decode cX7_digest 81 = .ok (.idiv, 1) := by decide +kernel
theorem dX7_digest_82 : decode cX7_digest 82 = .ok (.iload_n 3, 1) := by decide +kernel
theorem dX7_digest_83 : decode cX7_digest 83 = .ok (.bipush 9, 2) := by decide +kernel
theorem dX7_digest_85 : decode cX7_digest 85 = .ok (.idiv, 1) := by decide +kernel
theorem dX7_digest_86 : decode cX7_digest 86 = .ok (.iconst 3, 1) := by decide +kernel
theorem dX7_digest_87 : decode cX7_digest 87 = .ok (.irem, 1) := by decide +kernel
theorem dX7_digest_88 : decode cX7_digest 88 = .ok (.iload_n 3, 1) := by decide +kernel
theorem dX7_digest_89 : decode cX7_digest 89 = .ok (.bipush 9, 2) := by decide +kernel
theorem dX7_digest_91 : decode cX7_digest 91 = .ok (.irem, 1) := by decide +kernel
theorem dX7_digest_92 : decode cX7_digest 92 = .ok (.invokevirtual 44, 3) := by decide +kernel
theorem dX7_digest_95 : decode cX7_digest 95 = .ok (.i2l, 1) := by decide +kernel
theorem dX7_digest_96 : decode cX7_digest 96 = .ok (.ladd, 1) := by decide +kernel
theorem dX7_digest_97 : decode cX7_digest 97 = .ok (.lstore_n 1, 1) := by decide +kernel
theorem dX7_digest_98 : decode cX7_digest 98 = .ok (.iinc 3 1, 3) := by decide +kernel
theorem dX7_digest_101 : decode cX7_digest 101 = .ok (.goto (-36), 3) := by decide +kernel
theorem dX7_digest_104 : decode cX7_digest 104 = .ok (.iconst 0, 1) := by decide +kernel
theorem dX7_digest_105 : decode cX7_digest 105 = .ok (.istore_n 3, 1) := by decide +kernel
theorem dX7_digest_106 : decode cX7_digest 106 = .ok (.iload_n 3, 1) := by decide +kernel
theorem dX7_digest_107 : decode cX7_digest 107 = .ok (.bipush 6, 2) := by decide +kernel
theorem dX7_digest_109 : decode cX7_digest 109 = .ok (.if_icmp .ge 115, 3) := by decide +kernel
theorem dX7_digest_112 : decode cX7_digest 112 = .ok (.iconst 0, 1) := by decide +kernel
theorem dX7_digest_113 : decode cX7_digest 113 = .ok (.istore 4, 2) := by decide +kernel
theorem dX7_digest_115 : decode cX7_digest 115 = .ok (.iload 4, 2) := by decide +kernel
theorem dX7_digest_117 : decode cX7_digest 117 = .ok (.bipush 9, 2) := by decide +kernel
theorem dX7_digest_119 : decode cX7_digest 119 = .ok (.if_icmp .ge 24, 3) := by decide +kernel
theorem dX7_digest_122 : decode cX7_digest 122 = .ok (.ldc2_w 196, 3) := by decide +kernel
theorem dX7_digest_125 : decode cX7_digest 125 = .ok (.lload_n 1, 1) := by decide +kernel
theorem dX7_digest_126 : decode cX7_digest 126 = .ok (.lmul, 1) := by decide +kernel
theorem dX7_digest_127 : decode cX7_digest 127 = .ok (.aload_n 0, 1) := by decide +kernel
theorem dX7_digest_128 : decode cX7_digest 128 = .ok (.iload_n 3, 1) := by decide +kernel
theorem dX7_digest_129 : decode cX7_digest 129 = .ok (.iload 4, 2) := by decide +kernel
theorem dX7_digest_131 : decode cX7_digest 131 = .ok (.invokevirtual 149, 3) := by decide +kernel
theorem dX7_digest_134 : decode cX7_digest 134 = .ok (.i2l, 1) := by decide +kernel
theorem dX7_digest_135 : decode cX7_digest 135 = .ok (.ladd, 1) := by decide +kernel
theorem dX7_digest_136 : decode cX7_digest 136 = .ok (.lstore_n 1, 1) := by decide +kernel
theorem dX7_digest_137 : decode cX7_digest 137 = .ok (.iinc 4 1, 3) := by decide +kernel
theorem dX7_digest_140 : decode cX7_digest 140 = .ok (.goto (-25), 3) := by decide +kernel
theorem dX7_digest_143 : decode cX7_digest 143 = .ok (.iconst 0, 1) := by decide +kernel
theorem dX7_digest_144 : decode cX7_digest 144 = .ok (.istore 4, 2) := by decide +kernel
theorem dX7_digest_146 : decode cX7_digest 146 = .ok (.iload 4, 2) := by decide +kernel
theorem dX7_digest_148 : decode cX7_digest 148 = .ok (.iconst 4, 1) := by decide +kernel
theorem dX7_digest_149 : decode cX7_digest 149 = .ok (.if_icmp .ge 56, 3) := by decide +kernel
theorem dX7_digest_152 : decode cX7_digest 152 = .ok (.ldc2_w 196, 3) := by decide +kernel
theorem dX7_digest_155 : decode cX7_digest 155 = .ok (.lload_n 1, 1) := by decide +kernel
theorem dX7_digest_156 : decode cX7_digest 156 = .ok (.lmul, 1) := by decide +kernel
theorem dX7_digest_157 : decode cX7_digest 157 = .ok (.aload_n 0, 1) := by decide +kernel
theorem dX7_digest_158 : decode cX7_digest 158 = .ok (.iload_n 3, 1) := by decide +kernel
theorem dX7_digest_159 : decode cX7_digest 159 = .ok (.iload 4, 2) := by decide +kernel
theorem dX7_digest_161 : decode cX7_digest 161 = .ok (.invokevirtual 168, 3) := by decide +kernel
theorem dX7_digest_164 : decode cX7_digest 164 = .ok (.i2l, 1) := by decide +kernel
theorem dX7_digest_165 : decode cX7_digest 165 = .ok (.ladd, 1) := by decide +kernel
theorem dX7_digest_166 : decode cX7_digest 166 = .ok (.lstore_n 1, 1) := by decide +kernel
theorem dX7_digest_167 : decode cX7_digest 167 = .ok (.ldc2_w 196, 3) := by decide +kernel
theorem dX7_digest_170 : decode cX7_digest 170 = .ok (.lload_n 1, 1) := by decide +kernel
theorem dX7_digest_171 : decode cX7_digest 171 = .ok (.lmul, 1) := by decide +kernel
theorem dX7_digest_172 : decode cX7_digest 172 = .ok (.aload_n 0, 1) := by decide +kernel
theorem dX7_digest_173 : decode cX7_digest 173 = .ok (.iload_n 3, 1) := by decide +kernel
theorem dX7_digest_174 : decode cX7_digest 174 = .ok (.iload 4, 2) := by decide +kernel
theorem dX7_digest_176 : decode cX7_digest 176 = .ok (.iconst 0, 1) := by decide +kernel
theorem dX7_digest_177 : decode cX7_digest 177 = .ok (.invokevirtual 175, 3) := by decide +kernel
theorem dX7_digest_180 : decode cX7_digest 180 = .ok (.i2l, 1) := by decide +kernel
theorem dX7_digest_181 : decode cX7_digest 181 = .ok (.ladd, 1) := by decide +kernel
theorem dX7_digest_182 : decode cX7_digest 182 = .ok (.lstore_n 1, 1) := by decide +kernel
theorem dX7_digest_183 : decode cX7_digest 183 = .ok (.ldc2_w 196, 3) := by decide +kernel
theorem dX7_digest_186 : decode cX7_digest 186 = .ok (.lload_n 1, 1) := by decide +kernel
theorem dX7_digest_187 : decode cX7_digest 187 = .ok (.lmul, 1) := by decide +kernel
theorem dX7_digest_188 : decode cX7_digest 188 = .ok (.aload_n 0, 1) := by decide +kernel
theorem dX7_digest_189 : decode cX7_digest 189 = .ok (.iload_n 3, 1) := by decide +kernel
theorem dX7_digest_190 : decode cX7_digest 190 = .ok (.iload 4, 2) := by decide +kernel
theorem dX7_digest_192 : decode cX7_digest 192 = .ok (.iconst 1, 1) := by decide +kernel
theorem dX7_digest_193 : decode cX7_digest 193 = .ok (.invokevirtual 175, 3) := by decide +kernel
theorem dX7_digest_196 : decode cX7_digest 196 = .ok (.i2l, 1) := by decide +kernel
theorem dX7_digest_197 : decode cX7_digest 197 = .ok (.ladd, 1) := by decide +kernel
theorem dX7_digest_198 : decode cX7_digest 198 = .ok (.lstore_n 1, 1) := by decide +kernel
theorem dX7_digest_199 : decode cX7_digest 199 = .ok (.iinc 4 1, 3) := by decide +kernel
theorem dX7_digest_202 : decode cX7_digest 202 = .ok (.goto (-56), 3) := by decide +kernel
theorem dX7_digest_205 : decode cX7_digest 205 = .ok (.ldc2_w 196, 3) := by decide +kernel
theorem dX7_digest_208 : decode cX7_digest 208 = .ok (.lload_n 1, 1) := by decide +kernel
theorem dX7_digest_209 : decode cX7_digest 209 = .ok (.lmul, 1) := by decide +kernel
theorem dX7_digest_210 : decode cX7_digest 210 = .ok (.aload_n 0, 1) := by decide +kernel
theorem dX7_digest_211 : decode cX7_digest 211 = .ok (.iload_n 3, 1) := by decide +kernel
theorem dX7_digest_212 : decode cX7_digest 212 = .ok (.invokevirtual 181, 3) := by decide +kernel
theorem dX7_digest_215 : decode cX7_digest 215 = .ok (.i2l, 1) := by decide +kernel
theorem dX7_digest_216 : decode cX7_digest 216 = .ok (.ladd, 1) := by decide +kernel
theorem dX7_digest_217 : decode cX7_digest 217 = .ok (.lstore_n 1, 1) := by decide +kernel
theorem dX7_digest_218 : decode cX7_digest 218 = .ok (.iinc 3 1, 3) := by decide +kernel
theorem dX7_digest_221 : decode cX7_digest 221 = .ok (.goto (-115), 3) := by decide +kernel
theorem dX7_digest_224 : decode cX7_digest 224 = .ok (.iconst 1, 1) := by decide +kernel
theorem dX7_digest_225 : decode cX7_digest 225 = .ok (.istore_n 3, 1) := by decide +kernel
theorem dX7_digest_226 : decode cX7_digest 226 = .ok (.iload_n 3, 1) := by decide +kernel
theorem dX7_digest_227 : decode cX7_digest 227 = .ok (.bipush 90, 2) := by decide +kernel
theorem dX7_digest_229 : decode cX7_digest 229 = .ok (.if_icmp .gt 39, 3) := by decide +kernel
theorem dX7_digest_232 : decode cX7_digest 232 = .ok (.iconst 0, 1) := by decide +kernel
theorem dX7_digest_233 : decode cX7_digest 233 = .ok (.istore 4, 2) := by decide +kernel
theorem dX7_digest_235 : decode cX7_digest 235 = .ok (.iload 4, 2) := by decide +kernel
theorem dX7_digest_237 : decode cX7_digest 237 = .ok (.iconst 4, 1) := by decide +kernel
theorem dX7_digest_238 : decode cX7_digest 238 = .ok (.if_icmp .ge 24, 3) := by decide +kernel
theorem dX7_digest_241 : decode cX7_digest 241 = .ok (.ldc2_w 196, 3) := by decide +kernel
theorem dX7_digest_244 : decode cX7_digest 244 = .ok (.lload_n 1, 1) := by decide +kernel
theorem dX7_digest_245 : decode cX7_digest 245 = .ok (.lmul, 1) := by decide +kernel
theorem dX7_digest_246 : decode cX7_digest 246 = .ok (.aload_n 0, 1) := by decide +kernel
theorem dX7_digest_247 : decode cX7_digest 247 = .ok (.iload_n 3, 1) := by decide +kernel
theorem dX7_digest_248 : decode cX7_digest 248 = .ok (.iload 4, 2) := by decide +kernel
theorem dX7_digest_250 : decode cX7_digest 250 = .ok (.invokevirtual 152, 3) := by decide +kernel
theorem dX7_digest_253 : decode cX7_digest 253 = .ok (.i2l, 1) := by decide +kernel
theorem dX7_digest_254 : decode cX7_digest 254 = .ok (.ladd, 1) := by decide +kernel
theorem dX7_digest_255 : decode cX7_digest 255 = .ok (.lstore_n 1, 1) := by decide +kernel
theorem dX7_digest_256 : decode cX7_digest 256 = .ok (.iinc 4 1, 3) := by decide +kernel
theorem dX7_digest_259 : decode cX7_digest 259 = .ok (.goto (-24), 3) := by decide +kernel
theorem dX7_digest_262 : decode cX7_digest 262 = .ok (.iinc 3 1, 3) := by decide +kernel
theorem dX7_digest_265 : decode cX7_digest 265 = .ok (.goto (-39), 3) := by decide +kernel
theorem dX7_digest_268 : decode cX7_digest 268 = .ok (.iconst 0, 1) := by decide +kernel
theorem dX7_digest_269 : decode cX7_digest 269 = .ok (.istore_n 3, 1) := by decide +kernel
theorem dX7_digest_270 : decode cX7_digest 270 = .ok (.iload_n 3, 1) := by decide +kernel
theorem dX7_digest_271 : decode cX7_digest 271 = .ok (.bipush 20, 2) := by decide +kernel
theorem dX7_digest_273 : decode cX7_digest 273 = .ok (.if_icmp .ge 27, 3) := by decide +kernel
theorem dX7_digest_276 : decode cX7_digest 276 = .ok (.ldc2_w 196, 3) := by decide +kernel
theorem dX7_digest_279 : decode cX7_digest 279 = .ok (.lload_n 1, 1) := by decide +kernel
theorem dX7_digest_280 : decode cX7_digest 280 = .ok (.lmul, 1) := by decide +kernel
theorem dX7_digest_281 : decode cX7_digest 281 = .ok (.aload_n 0, 1) := by decide +kernel
theorem dX7_digest_282 : decode cX7_digest 282 = .ok (.iload_n 3, 1) := by decide +kernel
theorem dX7_digest_283 : decode cX7_digest 283 = .ok (.iconst 2, 1) := by decide +kernel
theorem dX7_digest_284 : decode cX7_digest 284 = .ok (.idiv, 1) := by decide +kernel
theorem dX7_digest_285 : decode cX7_digest 285 = .ok (.iload_n 3, 1) := by decide +kernel
theorem dX7_digest_286 : decode cX7_digest 286 = .ok (.iconst 2, 1) := by decide +kernel
theorem dX7_digest_287 : decode cX7_digest 287 = .ok (.irem, 1) := by decide +kernel
theorem dX7_digest_288 : decode cX7_digest 288 = .ok (.invokevirtual 155, 3) := by decide +kernel
theorem dX7_digest_291 : decode cX7_digest 291 = .ok (.i2l, 1) := by decide +kernel
theorem dX7_digest_292 : decode cX7_digest 292 = .ok (.ladd, 1) := by decide +kernel
theorem dX7_digest_293 : decode cX7_digest 293 = .ok (.lstore_n 1, 1) := by decide +kernel
theorem dX7_digest_294 : decode cX7_digest 294 = .ok (.iinc 3 1, 3) := by decide +kernel
theorem dX7_digest_297 : decode cX7_digest 297 = .ok (.goto (-27), 3) := by decide +kernel
theorem dX7_digest_300 : decode cX7_digest 300 = .ok (.iconst 0, 1) := by decide +kernel
theorem dX7_digest_301 : decode cX7_digest 301 = .ok (.istore_n 3, 1) := by decide +kernel
theorem dX7_digest_302 : decode cX7_digest 302 = .ok (.iload_n 3, 1) := by decide +kernel
theorem dX7_digest_303 : decode cX7_digest 303 = .ok (.bipush 16, 2) := by decide +kernel
theorem dX7_digest_305 : decode cX7_digest 305 = .ok (.if_icmp .ge 27, 3) := by decide +kernel
theorem dX7_digest_308 : decode cX7_digest 308 = .ok (.ldc2_w 196, 3) := by decide +kernel
theorem dX7_digest_311 : decode cX7_digest 311 = .ok (.lload_n 1, 1) := by decide +kernel
theorem dX7_digest_312 : decode cX7_digest 312 = .ok (.lmul, 1) := by decide +kernel
theorem dX7_digest_313 : decode cX7_digest 313 = .ok (.aload_n 0, 1) := by decide +kernel
theorem dX7_digest_314 : decode cX7_digest 314 = .ok (.iload_n 3, 1) := by decide +kernel
theorem dX7_digest_315 : decode cX7_digest 315 = .ok (.iconst 4, 1) := by decide +kernel
theorem dX7_digest_316 : decode cX7_digest 316 = .ok (.idiv, 1) := by decide +kernel
theorem dX7_digest_317 : decode cX7_digest 317 = .ok (.iload_n 3, 1) := by decide +kernel
theorem dX7_digest_318 : decode cX7_digest 318 = .ok (.iconst 4, 1) := by decide +kernel
theorem dX7_digest_319 : decode cX7_digest 319 = .ok (.irem, 1) := by decide +kernel
theorem dX7_digest_320 : decode cX7_digest 320 = .ok (.invokevirtual 158, 3) := by decide +kernel
theorem dX7_digest_323 : decode cX7_digest 323 = .ok (.i2l, 1) := by decide +kernel
theorem dX7_digest_324 : decode cX7_digest 324 = .ok (.ladd, 1) := by decide +kernel
theorem dX7_digest_325 : decode cX7_digest 325 = .ok (.lstore_n 1, 1) := by decide +kernel
theorem dX7_digest_326 : decode cX7_digest 326 = .ok (.iinc 3 1, 3) := by decide +kernel
theorem dX7_digest_329 : decode cX7_digest 329 = .ok (.goto (-27), 3) := by decide +kernel
theorem dX7_digest_332 : decode cX7_digest 332 = .ok (.iconst 0, 1) := by decide +kernel
theorem dX7_digest_333 : decode cX7_digest 333 = .ok (.istore_n 3, 1) := by decide +kernel
theorem dX7_digest_334 : decode cX7_digest 334 = .ok (.iload_n 3, 1) := by decide +kernel
theorem dX7_digest_335 : decode cX7_digest 335 = .ok (.bipush 18, 2) := by decide +kernel
theorem dX7_digest_337 : decode cX7_digest 337 = .ok (.if_icmp .ge 29, 3) := by decide +kernel
theorem dX7_digest_340 : decode cX7_digest 340 = .ok (.ldc2_w 196, 3) := by decide +kernel
theorem dX7_digest_343 : decode cX7_digest 343 = .ok (.lload_n 1, 1) := by decide +kernel
theorem dX7_digest_344 : decode cX7_digest 344 = .ok (.lmul, 1) := by decide +kernel
theorem dX7_digest_345 : decode cX7_digest 345 = .ok (.aload_n 0, 1) := by decide +kernel
theorem dX7_digest_346 : decode cX7_digest 346 = .ok (.iload_n 3, 1) := by decide +kernel
theorem dX7_digest_347 : decode cX7_digest 347 = .ok (.iconst 3, 1) := by decide +kernel
theorem dX7_digest_348 : decode cX7_digest 348 = .ok (.idiv, 1) := by decide +kernel
theorem dX7_digest_349 : decode cX7_digest 349 = .ok (.iload_n 3, 1) := by decide +kernel
theorem dX7_digest_350 : decode cX7_digest 350 = .ok (.iconst 3, 1) := by decide +kernel
theorem dX7_digest_351 : decode cX7_digest 351 = .ok (.irem, 1) := by decide +kernel
theorem dX7_digest_352 : decode cX7_digest 352 = .ok (.bipush 45, 2) := by decide +kernel
theorem dX7_digest_354 : decode cX7_digest 354 = .ok (.invokevirtual 47, 3) := by decide +kernel
theorem dX7_digest_357 : decode cX7_digest 357 = .ok (.i2l, 1) := by decide +kernel
theorem dX7_digest_358 : decode cX7_digest 358 = .ok (.ladd, 1) := by decide +kernel
theorem dX7_digest_359 : decode cX7_digest 359 = .ok (.lstore_n 1, 1) := by decide +kernel
theorem dX7_digest_360 : decode cX7_digest 360 = .ok (.iinc 3 1, 3) := by decide +kernel
theorem dX7_digest_363 : decode cX7_digest 363 = .ok (.goto (-29), 3) := by decide +kernel
theorem dX7_digest_366 : decode cX7_digest 366 = .ok (.ldc2_w 196, 3) := by decide +kernel
theorem dX7_digest_369 : decode cX7_digest 369 = .ok (.lload_n 1, 1) := by decide +kernel
theorem dX7_digest_370 : decode cX7_digest 370 = .ok (.lmul, 1) := by decide +kernel
theorem dX7_digest_371 : decode cX7_digest 371 = .ok (.aload_n 0, 1) := by decide +kernel
theorem dX7_digest_372 : decode cX7_digest 372 = .ok (.invokevirtual 184, 3) := by decide +kernel
theorem dX7_digest_375 : decode cX7_digest 375 = .ok (.i2l, 1) := by decide +kernel
theorem dX7_digest_376 : decode cX7_digest 376 = .ok (.ladd, 1) := by decide +kernel
theorem dX7_digest_377 : decode cX7_digest 377 = .ok (.lstore_n 1, 1) := by decide +kernel
theorem dX7_digest_378 : decode cX7_digest 378 = .ok (.iconst 1, 1) := by decide +kernel
theorem dX7_digest_379 : decode cX7_digest 379 = .ok (.istore_n 3, 1) := by decide +kernel
theorem dX7_digest_380 : decode cX7_digest 380 = .ok (.iload_n 3, 1) := by decide +kernel
theorem dX7_digest_381 : decode cX7_digest 381 = .ok (.iconst 4, 1) := by decide +kernel
theorem dX7_digest_382 : decode cX7_digest 382 = .ok (.if_icmp .ge 22, 3) := by decide +kernel
theorem dX7_digest_385 : decode cX7_digest 385 = .ok (.ldc2_w 196, 3) := by decide +kernel
theorem dX7_digest_388 : decode cX7_digest 388 = .ok (.lload_n 1, 1) := by decide +kernel
theorem dX7_digest_389 : decode cX7_digest 389 = .ok (.lmul, 1) := by decide +kernel
theorem dX7_digest_390 : decode cX7_digest 390 = .ok (.aload_n 0, 1) := by decide +kernel
theorem dX7_digest_391 : decode cX7_digest 391 = .ok (.iload_n 3, 1) := by decide +kernel
theorem dX7_digest_392 : decode cX7_digest 392 = .ok (.invokevirtual 187, 3) := by decide +kernel
theorem dX7_digest_395 : decode cX7_digest 395 = .ok (.i2l, 1) := by decide +kernel
theorem dX7_digest_396 : decode cX7_digest 396 = .ok (.ladd, 1) := by decide +kernel
theorem dX7_digest_397 : decode cX7_digest 397 = .ok (.lstore_n 1, 1) := by decide +kernel
theorem dX7_digest_398 : decode cX7_digest 398 = .ok (.iinc 3 1, 3) := by decide +kernel
theorem dX7_digest_401 : decode cX7_digest 401 = .ok (.goto (-21), 3) := by decide +kernel
theorem dX7_digest_404 : decode cX7_digest 404 = .ok (.ldc2_w 196, 3) := by decide +kernel
theorem dX7_digest_407 : decode cX7_digest 407 = .ok (.lload_n 1, 1) := by decide +kernel
theorem dX7_digest_408 : decode cX7_digest 408 = .ok (.lmul, 1) := by decide +kernel
theorem dX7_digest_409 : decode cX7_digest 409 = .ok (.aload_n 0, 1) := by decide +kernel
theorem dX7_digest_410 : decode cX7_digest 410 = .ok (.invokevirtual 190, 3) := by decide +kernel
theorem dX7_digest_413 : decode cX7_digest 413 = .ok (.invokestatic 198, 3) := by decide +kernel
theorem dX7_digest_416 : decode cX7_digest 416 = .ok (.ladd, 1) := by decide +kernel
theorem dX7_digest_417 : decode cX7_digest 417 = .ok (.lstore_n 1, 1) := by decide +kernel
theorem dX7_digest_418 : decode cX7_digest 418 = .ok (.ldc2_w 196, 3) := by decide +kernel
theorem dX7_digest_421 : decode cX7_digest 421 = .ok (.lload_n 1, 1) := by decide +kernel
theorem dX7_digest_422 : decode cX7_digest 422 = .ok (.lmul, 1) := by decide +kernel
theorem dX7_digest_423 : decode cX7_digest 423 = .ok (.aload_n 0, 1) := by decide +kernel
theorem dX7_digest_424 : decode cX7_digest 424 = .ok (.getfield 13, 3) := by decide +kernel
theorem dX7_digest_427 : decode cX7_digest 427 = .ok (.iconst 0, 1) := by decide +kernel
theorem dX7_digest_428 : decode cX7_digest 428 = .ok (.baload, 1) := by decide +kernel
theorem dX7_digest_429 : decode cX7_digest 429 = .ok (.ifCond .eq 7, 3) := by decide +kernel
theorem dX7_digest_432 : decode cX7_digest 432 = .ok (.iconst 1, 1) := by decide +kernel
theorem dX7_digest_433 : decode cX7_digest 433 = .ok (.goto 4, 3) := by decide +kernel
theorem dX7_digest_436 : decode cX7_digest 436 = .ok (.iconst 0, 1) := by decide +kernel
theorem dX7_digest_437 : decode cX7_digest 437 = .ok (.i2l, 1) := by decide +kernel
theorem dX7_digest_438 : decode cX7_digest 438 = .ok (.ladd, 1) := by decide +kernel
theorem dX7_digest_439 : decode cX7_digest 439 = .ok (.lstore_n 1, 1) := by decide +kernel
theorem dX7_digest_440 : decode cX7_digest 440 = .ok (.ldc2_w 196, 3) := by decide +kernel
theorem dX7_digest_443 : decode cX7_digest 443 = .ok (.lload_n 1, 1) := by decide +kernel
theorem dX7_digest_444 : decode cX7_digest 444 = .ok (.lmul, 1) := by decide +kernel
theorem dX7_digest_445 : decode cX7_digest 445 = .ok (.aload_n 0, 1) := by decide +kernel
theorem dX7_digest_446 : decode cX7_digest 446 = .ok (.getfield 13, 3) := by decide +kernel
theorem dX7_digest_449 : decode cX7_digest 449 = .ok (.iconst 1, 1) := by decide +kernel
theorem dX7_digest_450 : decode cX7_digest 450 = .ok (.baload, 1) := by decide +kernel
theorem dX7_digest_451 : decode cX7_digest 451 = .ok (.ifCond .eq 7, 3) := by decide +kernel
theorem dX7_digest_454 : decode cX7_digest 454 = .ok (.iconst 1, 1) := by decide +kernel
theorem dX7_digest_455 : decode cX7_digest 455 = .ok (.goto 4, 3) := by decide +kernel
theorem dX7_digest_458 : decode cX7_digest 458 = .ok (.iconst 0, 1) := by decide +kernel
theorem dX7_digest_459 : decode cX7_digest 459 = .ok (.i2l, 1) := by decide +kernel
theorem dX7_digest_460 : decode cX7_digest 460 = .ok (.ladd, 1) := by decide +kernel
theorem dX7_digest_461 : decode cX7_digest 461 = .ok (.lstore_n 1, 1) := by decide +kernel
theorem dX7_digest_462 : decode cX7_digest 462 = .ok (.ldc2_w 196, 3) := by decide +kernel
theorem dX7_digest_465 : decode cX7_digest 465 = .ok (.lload_n 1, 1) := by decide +kernel
theorem dX7_digest_466 : decode cX7_digest 466 = .ok (.lmul, 1) := by decide +kernel
theorem dX7_digest_467 : decode cX7_digest 467 = .ok (.aload_n 0, 1) := by decide +kernel
theorem dX7_digest_468 : decode cX7_digest 468 = .ok (.getfield 121, 3) := by decide +kernel
theorem dX7_digest_471 : decode cX7_digest 471 = .ok (.i2l, 1) := by decide +kernel
theorem dX7_digest_472 : decode cX7_digest 472 = .ok (.ladd, 1) := by decide +kernel
theorem dX7_digest_473 : decode cX7_digest 473 = .ok (.lstore_n 1, 1) := by decide +kernel
theorem dX7_digest_474 : decode cX7_digest 474 = .ok (.iconst 0, 1) := by decide +kernel
theorem dX7_digest_475 : decode cX7_digest 475 = .ok (.istore_n 3, 1) := by decide +kernel
theorem dX7_digest_476 : decode cX7_digest 476 = .ok (.iload_n 3, 1) := by decide +kernel
theorem dX7_digest_477 : decode cX7_digest 477 = .ok (.aload_n 0, 1) := by decide +kernel
theorem dX7_digest_478 : decode cX7_digest 478 = .ok (.getfield 121, 3) := by decide +kernel
theorem dX7_digest_481 : decode cX7_digest 481 = .ok (.if_icmp .ge 23, 3) := by decide +kernel
theorem dX7_digest_484 : decode cX7_digest 484 = .ok (.ldc2_w 196, 3) := by decide +kernel
theorem dX7_digest_487 : decode cX7_digest 487 = .ok (.lload_n 1, 1) := by decide +kernel
theorem dX7_digest_488 : decode cX7_digest 488 = .ok (.lmul, 1) := by decide +kernel
theorem dX7_digest_489 : decode cX7_digest 489 = .ok (.aload_n 0, 1) := by decide +kernel
theorem dX7_digest_490 : decode cX7_digest 490 = .ok (.getfield 17, 3) := by decide +kernel
theorem dX7_digest_493 : decode cX7_digest 493 = .ok (.iload_n 3, 1) := by decide +kernel
theorem dX7_digest_494 : decode cX7_digest 494 = .ok (.caload, 1) := by decide +kernel
theorem dX7_digest_495 : decode cX7_digest 495 = .ok (.i2l, 1) := by decide +kernel
theorem dX7_digest_496 : decode cX7_digest 496 = .ok (.ladd, 1) := by decide +kernel
theorem dX7_digest_497 : decode cX7_digest 497 = .ok (.lstore_n 1, 1) := by decide +kernel
theorem dX7_digest_498 : decode cX7_digest 498 = .ok (.iinc 3 1, 3) := by decide +kernel
theorem dX7_digest_501 : decode cX7_digest 501 = .ok (.goto (-25), 3) := by decide +kernel
theorem dX7_digest_504 : decode cX7_digest 504 = .ok (.lload_n 1, 1) := by decide +kernel
theorem dX7_digest_505 : decode cX7_digest 505 = .ok (.lreturn, 1) := by decide +kernel
theorem dJxe99ae_isNaN_b9ae7_0 : decode cJxe99ae_isNaN_b9ae7 0 = .ok (.dload_n 0, 1) := by decide +kernel
theorem dJxe99ae_isNaN_b9ae7_1 : decode cJxe99ae_isNaN_b9ae7 1 = .ok (.dload_n 0, 1) := by decide +kernel
theorem dJxe99ae_isNaN_b9ae7_2 : decode cJxe99ae_isNaN_b9ae7 2 = .ok (.dcmp .l, 1) := by decide +kernel
theorem dJxe99ae_isNaN_b9ae7_3 : decode cJxe99ae_isNaN_b9ae7 3 = .ok (.ifCond .eq 7, 3) := by decide +kernel
theorem dJxe99ae_isNaN_b9ae7_6 : decode cJxe99ae_isNaN_b9ae7 6 = .ok (.iconst 1, 1) := by decide +kernel
theorem dJxe99ae_isNaN_b9ae7_7 : decode cJxe99ae_isNaN_b9ae7 7 = .ok (.goto 4, 3) := by decide +kernel
theorem dJxe99ae_isNaN_b9ae7_10 : decode cJxe99ae_isNaN_b9ae7 10 = .ok (.iconst 0, 1) := by decide +kernel
theorem dJxe99ae_isNaN_b9ae7_11 : decode cJxe99ae_isNaN_b9ae7 11 = .ok (.ireturn, 1) := by decide +kernel
theorem dJxe99ae_doubleToLongBits_ccdee_0 : decode cJxe99ae_doubleToLongBits_ccdee 0 = .ok (.dload_n 0, 1) := by decide +kernel
theorem dJxe99ae_doubleToLongBits_ccdee_1 : decode cJxe99ae_doubleToLongBits_ccdee 1 = .ok (.invokestatic 122, 3) := by decide +kernel
theorem dJxe99ae_doubleToLongBits_ccdee_4 : decode cJxe99ae_doubleToLongBits_ccdee 4 = .ok (.ifCond .ne 8, 3) := by decide +kernel
theorem dJxe99ae_doubleToLongBits_ccdee_7 : decode cJxe99ae_doubleToLongBits_ccdee 7 = .ok (.dload_n 0, 1) := by decide +kernel
theorem dJxe99ae_doubleToLongBits_ccdee_8 : decode cJxe99ae_doubleToLongBits_ccdee 8 = .ok (.invokestatic 134, 3) := by decide +kernel
theorem dJxe99ae_doubleToLongBits_ccdee_11 : decode cJxe99ae_doubleToLongBits_ccdee 11 = .ok (.lreturn, 1) := by decide +kernel
theorem dJxe99ae_doubleToLongBits_ccdee_12 : decode cJxe99ae_doubleToLongBits_ccdee 12 = .ok (.ldc2_w 137, 3) := by decide +kernel
theorem dJxe99ae_doubleToLongBits_ccdee_15 : decode cJxe99ae_doubleToLongBits_ccdee 15 = .ok (.lreturn, 1) := by decide +kernel
theorem dJ6_bitCount_0f7a4_0 : decode cJ6_bitCount_0f7a4 0 = .ok (.iload_n 0, 1) := by decide +kernel
theorem dJ6_bitCount_0f7a4_1 : decode cJ6_bitCount_0f7a4 1 = .ok (.iload_n 0, 1) := by decide +kernel
theorem dJ6_bitCount_0f7a4_2 : decode cJ6_bitCount_0f7a4 2 = .ok (.iconst 1, 1) := by decide +kernel
theorem dJ6_bitCount_0f7a4_3 : decode cJ6_bitCount_0f7a4 3 = .ok (.iushr, 1) := by decide +kernel
theorem dJ6_bitCount_0f7a4_4 : decode cJ6_bitCount_0f7a4 4 = .ok (.ldc_w 265, 3) := by decide +kernel
theorem dJ6_bitCount_0f7a4_7 : decode cJ6_bitCount_0f7a4 7 = .ok (.iand, 1) := by decide +kernel
theorem dJ6_bitCount_0f7a4_8 : decode cJ6_bitCount_0f7a4 8 = .ok (.isub, 1) := by decide +kernel
theorem dJ6_bitCount_0f7a4_9 : decode cJ6_bitCount_0f7a4 9 = .ok (.istore_n 0, 1) := by decide +kernel
theorem dJ6_bitCount_0f7a4_10 : decode cJ6_bitCount_0f7a4 10 = .ok (.iload_n 0, 1) := by decide +kernel
theorem dJ6_bitCount_0f7a4_11 : decode cJ6_bitCount_0f7a4 11 = .ok (.ldc_w 266, 3) := by decide +kernel
theorem dJ6_bitCount_0f7a4_14 : decode cJ6_bitCount_0f7a4 14 = .ok (.iand, 1) := by decide +kernel
theorem dJ6_bitCount_0f7a4_15 : decode cJ6_bitCount_0f7a4 15 = .ok (.iload_n 0, 1) := by decide +kernel
theorem dJ6_bitCount_0f7a4_16 : decode cJ6_bitCount_0f7a4 16 = .ok (.iconst 2, 1) := by decide +kernel
theorem dJ6_bitCount_0f7a4_17 : decode cJ6_bitCount_0f7a4 17 = .ok (.iushr, 1) := by decide +kernel
theorem dJ6_bitCount_0f7a4_18 : decode cJ6_bitCount_0f7a4 18 = .ok (.ldc_w 266, 3) := by decide +kernel
theorem dJ6_bitCount_0f7a4_21 : decode cJ6_bitCount_0f7a4 21 = .ok (.iand, 1) := by decide +kernel
theorem dJ6_bitCount_0f7a4_22 : decode cJ6_bitCount_0f7a4 22 = .ok (.iadd, 1) := by decide +kernel
theorem dJ6_bitCount_0f7a4_23 : decode cJ6_bitCount_0f7a4 23 = .ok (.istore_n 0, 1) := by decide +kernel
theorem dJ6_bitCount_0f7a4_24 : decode cJ6_bitCount_0f7a4 24 = .ok (.iload_n 0, 1) := by decide +kernel
theorem dJ6_bitCount_0f7a4_25 : decode cJ6_bitCount_0f7a4 25 = .ok (.iload_n 0, 1) := by decide +kernel
theorem dJ6_bitCount_0f7a4_26 : decode cJ6_bitCount_0f7a4 26 = .ok (.iconst 4, 1) := by decide +kernel
theorem dJ6_bitCount_0f7a4_27 : decode cJ6_bitCount_0f7a4 27 = .ok (.iushr, 1) := by decide +kernel
theorem dJ6_bitCount_0f7a4_28 : decode cJ6_bitCount_0f7a4 28 = .ok (.iadd, 1) := by decide +kernel
theorem dJ6_bitCount_0f7a4_29 : decode cJ6_bitCount_0f7a4 29 = .ok (.ldc_w 267, 3) := by decide +kernel
theorem dJ6_bitCount_0f7a4_32 : decode cJ6_bitCount_0f7a4 32 = .ok (.iand, 1) := by decide +kernel
theorem dJ6_bitCount_0f7a4_33 : decode cJ6_bitCount_0f7a4 33 = .ok (.istore_n 0, 1) := by decide +kernel
theorem dJ6_bitCount_0f7a4_34 : decode cJ6_bitCount_0f7a4 34 = .ok (.iload_n 0, 1) := by decide +kernel
theorem dJ6_bitCount_0f7a4_35 : decode cJ6_bitCount_0f7a4 35 = .ok (.iload_n 0, 1) := by decide +kernel
theorem dJ6_bitCount_0f7a4_36 : decode cJ6_bitCount_0f7a4 36 = .ok (.bipush 8, 2) := by decide +kernel
theorem dJ6_bitCount_0f7a4_38 : decode cJ6_bitCount_0f7a4 38 = .ok (.iushr, 1) := by decide +kernel
theorem dJ6_bitCount_0f7a4_39 : decode cJ6_bitCount_0f7a4 39 = .ok (.iadd, 1) := by decide +kernel
theorem dJ6_bitCount_0f7a4_40 : decode cJ6_bitCount_0f7a4 40 = .ok (.istore_n 0, 1) := by decide +kernel
theorem dJ6_bitCount_0f7a4_41 : decode cJ6_bitCount_0f7a4 41 = .ok (.iload_n 0, 1) := by decide +kernel
theorem dJ6_bitCount_0f7a4_42 : decode cJ6_bitCount_0f7a4 42 = .ok (.iload_n 0, 1) := by decide +kernel
theorem dJ6_bitCount_0f7a4_43 : decode cJ6_bitCount_0f7a4 43 = .ok (.bipush 16, 2) := by decide +kernel
theorem dJ6_bitCount_0f7a4_45 : decode cJ6_bitCount_0f7a4 45 = .ok (.iushr, 1) := by decide +kernel
theorem dJ6_bitCount_0f7a4_46 : decode cJ6_bitCount_0f7a4 46 = .ok (.iadd, 1) := by decide +kernel
theorem dJ6_bitCount_0f7a4_47 : decode cJ6_bitCount_0f7a4 47 = .ok (.istore_n 0, 1) := by decide +kernel
theorem dJ6_bitCount_0f7a4_48 : decode cJ6_bitCount_0f7a4 48 = .ok (.iload_n 0, 1) := by decide +kernel
theorem dJ6_bitCount_0f7a4_49 : decode cJ6_bitCount_0f7a4 49 = .ok (.bipush 63, 2) := by decide +kernel
theorem dJ6_bitCount_0f7a4_51 : decode cJ6_bitCount_0f7a4 51 = .ok (.iand, 1) := by decide +kernel
theorem dJ6_bitCount_0f7a4_52 : decode cJ6_bitCount_0f7a4 52 = .ok (.ireturn, 1) := by decide +kernel
theorem dJ9_max_7cf53_0 : decode cJ9_max_7cf53 0 = .ok (.iload_n 0, 1) := by decide +kernel
theorem dJ9_max_7cf53_1 : decode cJ9_max_7cf53 1 = .ok (.iload_n 1, 1) := by decide +kernel
theorem dJ9_max_7cf53_2 : decode cJ9_max_7cf53 2 = .ok (.if_icmp .lt 7, 3) := by decide +kernel
theorem dJ9_max_7cf53_5 : decode cJ9_max_7cf53 5 = .ok (.iload_n 0, 1) := by decide +kernel
theorem dJ9_max_7cf53_6 : decode cJ9_max_7cf53 6 = .ok (.goto 4, 3) := by decide +kernel
theorem dJ9_max_7cf53_9 : decode cJ9_max_7cf53 9 = .ok (.iload_n 1, 1) := by decide +kernel
theorem dJ9_max_7cf53_10 : decode cJ9_max_7cf53 10 = .ok (.ireturn, 1) := by decide +kernel
theorem dJ9_min_7cf53_0 : decode cJ9_min_7cf53 0 = .ok (.iload_n 0, 1) := by decide +kernel
theorem dJ9_min_7cf53_1 : decode cJ9_min_7cf53 1 = .ok (.iload_n 1, 1) := by decide +kernel
theorem dJ9_min_7cf53_2 : decode cJ9_min_7cf53 2 = .ok (.if_icmp .gt 7, 3) := by decide +kernel
theorem dJ9_min_7cf53_5 : decode cJ9_min_7cf53 5 = .ok (.iload_n 0, 1) := by decide +kernel
theorem dJ9_min_7cf53_6 : decode cJ9_min_7cf53 6 = .ok (.goto 4, 3) := by decide +kernel
theorem dJ9_min_7cf53_9 : decode cJ9_min_7cf53 9 = .ok (.iload_n 1, 1) := by decide +kernel
theorem dJ9_min_7cf53_10 : decode cJ9_min_7cf53 10 = .ok (.ireturn, 1) := by decide +kernel
theorem dJ7_fill_53178_0 : decode cJ7_fill_53178 0 = .ok (.iconst 0, 1) := by decide +kernel
theorem dJ7_fill_53178_1 : decode cJ7_fill_53178 1 = .ok (.istore_n 2, 1) := by decide +kernel
theorem dJ7_fill_53178_2 : decode cJ7_fill_53178 2 = .ok (.aload_n 0, 1) := by decide +kernel
theorem dJ7_fill_53178_3 : decode cJ7_fill_53178 3 = .ok (.arraylength, 1) := by decide +kernel
theorem dJ7_fill_53178_4 : decode cJ7_fill_53178 4 = .ok (.istore_n 3, 1) := by decide +kernel
theorem dJ7_fill_53178_5 : decode cJ7_fill_53178 5 = .ok (.iload_n 2, 1) := by decide +kernel
theorem dJ7_fill_53178_6 : decode cJ7_fill_53178 6 = .ok (.iload_n 3, 1) := by decide +kernel
theorem dJ7_fill_53178_7 : decode cJ7_fill_53178 7 = .ok (.if_icmp .ge 13, 3) := by decide +kernel
theorem dJ7_fill_53178_10 : decode cJ7_fill_53178 10 = .ok (.aload_n 0, 1) := by decide +kernel
theorem dJ7_fill_53178_11 : decode cJ7_fill_53178 11 = .ok (.iload_n 2, 1) := by decide +kernel
theorem dJ7_fill_53178_12 : decode cJ7_fill_53178 12 = .ok (.iload_n 1, 1) := by decide +kernel
theorem dJ7_fill_53178_13 : decode cJ7_fill_53178 13 = .ok (.iastore, 1) := by decide +kernel
theorem dJ7_fill_53178_14 : decode cJ7_fill_53178 14 = .ok (.iinc 2 1, 3) := by decide +kernel
theorem dJ7_fill_53178_17 : decode cJ7_fill_53178 17 = .ok (.goto (-12), 3) := by decide +kernel
theorem dJ7_fill_53178_20 : decode cJ7_fill_53178 20 = .ok (.return_, 1) := by decide +kernel
theorem dL_put_0 : decode cL_put 0 = .ok (.aload 4, 2) := by decide +kernel
theorem dL_put_2 : decode cL_put 2 = .ok (.iconst 0, 1) := by decide +kernel
theorem dL_put_3 : decode cL_put 3 = .ok (.aload_n 0, 1) := by decide +kernel
theorem dL_put_4 : decode cL_put 4 = .ok (.iload_n 1, 1) := by decide +kernel
theorem dL_put_5 : decode cL_put 5 = .ok (.iload_n 2, 1) := by decide +kernel
theorem dL_put_6 : decode cL_put 6 = .ok (.iload_n 3, 1) := by decide +kernel
theorem dL_put_7 : decode cL_put 7 = .ok (.invokevirtual 7, 3) := by decide +kernel
theorem dL_put_10 : decode cL_put 10 = .ok (.i2l, 1) := by decide +kernel
theorem dL_put_11 : decode cL_put 11 = .ok (.lastore, 1) := by decide +kernel
theorem dL_put_12 : decode cL_put 12 = .ok (.goto 11, 3) := by decide +kernel
theorem dL_put_15 : decode cL_put 15 = .ok (.astore 5, 2) := by decide +kernel
theorem dL_put_17 : decode cL_put 17 = .ok (.iconst 1, 1) := by decide +kernel
theorem dL_put_18 : decode cL_put 18 = .ok (.ireturn, 1) := by decide +kernel
theorem dL_put_19 : decode cL_put 19 = .ok (.astore 5, 2) := by decide +kernel
theorem dL_put_21 : decode cL_put 21 = .ok (.iconst 2, 1) := by decide +kernel
theorem dL_put_22 : decode cL_put 22 = .ok (.ireturn, 1) := by decide +kernel
theorem dL_put_23 : decode cL_put 23 = .ok (.iconst 0, 1) := by decide +kernel
theorem dL_put_24 : decode cL_put 24 = .ok (.ireturn, 1) := by decide +kernel
theorem dL_take_0 : decode cL_take 0 = .ok (.aload_n 2, 1) := by decide +kernel
theorem dL_take_1 : decode cL_take 1 = .ok (.iconst 0, 1) := by decide +kernel
theorem dL_take_2 : decode cL_take 2 = .ok (.aload_n 0, 1) := by decide +kernel
theorem dL_take_3 : decode cL_take 3 = .ok (.iload_n 1, 1) := by decide +kernel
theorem dL_take_4 : decode cL_take 4 = .ok (.invokevirtual 17, 3) := by decide +kernel
theorem dL_take_7 : decode cL_take 7 = .ok (.i2l, 1) := by decide +kernel
theorem dL_take_8 : decode cL_take 8 = .ok (.lastore, 1) := by decide +kernel
theorem dL_take_9 : decode cL_take 9 = .ok (.goto 9, 3) := by decide +kernel
theorem dL_take_12 : decode cL_take 12 = .ok (.astore_n 3, 1) := by decide +kernel
theorem dL_take_13 : decode cL_take 13 = .ok (.iconst 1, 1) := by decide +kernel
theorem dL_take_14 : decode cL_take 14 = .ok (.ireturn, 1) := by decide +kernel
theorem dL_take_15 : decode cL_take 15 = .ok (.astore_n 3, 1) := by decide +kernel
theorem dL_take_16 : decode cL_take 16 = .ok (.iconst 2, 1) := by decide +kernel
theorem dL_take_17 : decode cL_take 17 = .ok (.ireturn, 1) := by decide +kernel
theorem dL_take_18 : decode cL_take 18 = .ok (.iconst 0, 1) := by decide +kernel
theorem dL_take_19 : decode cL_take 19 = .ok (.ireturn, 1) := by decide +kernel
theorem dL_fill_0 : decode cL_fill 0 = .ok (.aload_n 3, 1) := by decide +kernel
theorem dL_fill_1 : decode cL_fill 1 = .ok (.iconst 0, 1) := by decide +kernel
theorem dL_fill_2 : decode cL_fill 2 = .ok (.aload_n 0, 1) := by decide +kernel
theorem dL_fill_3 : decode cL_fill 3 = .ok (.iload_n 1, 1) := by decide +kernel
theorem dL_fill_4 : decode cL_fill 4 = .ok (.iload_n 2, 1) := by decide +kernel
theorem dL_fill_5 : decode cL_fill 5 = .ok (.invokevirtual 23, 3) := by decide +kernel
theorem dL_fill_8 : decode cL_fill 8 = .ok (.i2l, 1) := by decide +kernel
theorem dL_fill_9 : decode cL_fill 9 = .ok (.lastore, 1) := by decide +kernel
theorem dL_fill_10 : decode cL_fill 10 = .ok (.goto 15, 3) := by decide +kernel
theorem dL_fill_13 : decode cL_fill 13 = .ok (.astore 4, 2) := by decide +kernel
theorem dL_fill_15 : decode cL_fill 15 = .ok (.iconst 1, 1) := by decide +kernel
theorem dL_fill_16 : decode cL_fill 16 = .ok (.ireturn, 1) := by decide +kernel
theorem dL_fill_17 : decode cL_fill 17 = .ok (.astore 4, 2) := by decide +kernel
theorem dL_fill_19 : decode cL_fill 19 = .ok (.iconst 2, 1) := by decide +kernel
theorem dL_fill_20 : decode cL_fill 20 = .ok (.ireturn, 1) := by decide +kernel
theorem dL_fill_21 : decode cL_fill 21 = .ok (.astore 4, 2) := by decide +kernel
theorem dL_fill_23 : decode cL_fill 23 = .ok (.iconst 3, 1) := by decide +kernel
theorem dL_fill_24 : decode cL_fill 24 = .ok (.ireturn, 1) := by decide +kernel
theorem dL_fill_25 : decode cL_fill 25 = .ok (.iconst 0, 1) := by decide +kernel
theorem dL_fill_26 : decode cL_fill 26 = .ok (.ireturn, 1) := by decide +kernel
theorem dL_buy_0 : decode cL_buy 0 = .ok (.aload_n 2, 1) := by decide +kernel
theorem dL_buy_1 : decode cL_buy 1 = .ok (.iconst 0, 1) := by decide +kernel
theorem dL_buy_2 : decode cL_buy 2 = .ok (.aload_n 0, 1) := by decide +kernel
theorem dL_buy_3 : decode cL_buy 3 = .ok (.iload_n 1, 1) := by decide +kernel
theorem dL_buy_4 : decode cL_buy 4 = .ok (.invokevirtual 27, 3) := by decide +kernel
theorem dL_buy_7 : decode cL_buy 7 = .ok (.i2l, 1) := by decide +kernel
theorem dL_buy_8 : decode cL_buy 8 = .ok (.lastore, 1) := by decide +kernel
theorem dL_buy_9 : decode cL_buy 9 = .ok (.goto 9, 3) := by decide +kernel
theorem dL_buy_12 : decode cL_buy 12 = .ok (.astore_n 3, 1) := by decide +kernel
theorem dL_buy_13 : decode cL_buy 13 = .ok (.iconst 1, 1) := by decide +kernel
theorem dL_buy_14 : decode cL_buy 14 = .ok (.ireturn, 1) := by decide +kernel
theorem dL_buy_15 : decode cL_buy 15 = .ok (.astore_n 3, 1) := by decide +kernel
theorem dL_buy_16 : decode cL_buy 16 = .ok (.iconst 2, 1) := by decide +kernel
theorem dL_buy_17 : decode cL_buy 17 = .ok (.ireturn, 1) := by decide +kernel
theorem dL_buy_18 : decode cL_buy 18 = .ok (.iconst 0, 1) := by decide +kernel
theorem dL_buy_19 : decode cL_buy 19 = .ok (.ireturn, 1) := by decide +kernel
theorem dL_seed_0 : decode cL_seed 0 = .ok (.aload_n 2, 1) := by decide +kernel
theorem dL_seed_1 : decode cL_seed 1 = .ok (.iconst 0, 1) := by decide +kernel
theorem dL_seed_2 : decode cL_seed 2 = .ok (.aload_n 0, 1) := by decide +kernel
theorem dL_seed_3 : decode cL_seed 3 = .ok (.iload_n 1, 1) := by decide +kernel
theorem dL_seed_4 : decode cL_seed 4 = .ok (.invokevirtual 30, 3) := by decide +kernel
theorem dL_seed_7 : decode cL_seed 7 = .ok (.i2l, 1) := by decide +kernel
theorem dL_seed_8 : decode cL_seed 8 = .ok (.lastore, 1) := by decide +kernel
theorem dL_seed_9 : decode cL_seed 9 = .ok (.goto 6, 3) := by decide +kernel
theorem dL_seed_12 : decode cL_seed 12 = .ok (.astore_n 3, 1) := by decide +kernel
theorem dL_seed_13 : decode cL_seed 13 = .ok (.iconst 1, 1) := by decide +kernel
theorem dL_seed_14 : decode cL_seed 14 = .ok (.ireturn, 1) := by decide +kernel
theorem dL_seed_15 : decode cL_seed 15 = .ok (.iconst 0, 1) := by decide +kernel
theorem dL_seed_16 : decode cL_seed 16 = .ok (.ireturn, 1) := by decide +kernel
theorem dL_set_0 : decode cL_set 0 = .ok (.aload_n 3, 1) := by decide +kernel
theorem dL_set_1 : decode cL_set 1 = .ok (.iconst 0, 1) := by decide +kernel
theorem dL_set_2 : decode cL_set 2 = .ok (.aload_n 0, 1) := by decide +kernel
theorem dL_set_3 : decode cL_set 3 = .ok (.iload_n 1, 1) := by decide +kernel
theorem dL_set_4 : decode cL_set 4 = .ok (.iload_n 2, 1) := by decide +kernel
theorem dL_set_5 : decode cL_set 5 = .ok (.invokevirtual 33, 3) := by decide +kernel
theorem dL_set_8 : decode cL_set 8 = .ok (.i2l, 1) := by decide +kernel
theorem dL_set_9 : decode cL_set 9 = .ok (.lastore, 1) := by decide +kernel
theorem dL_set_10 : decode cL_set 10 = .ok (.goto 11, 3) := by decide +kernel
theorem dL_set_13 : decode cL_set 13 = .ok (.astore 4, 2) := by decide +kernel
theorem dL_set_15 : decode cL_set 15 = .ok (.iconst 1, 1) := by decide +kernel
theorem dL_set_16 : decode cL_set 16 = .ok (.ireturn, 1) := by decide +kernel
theorem dL_set_17 : decode cL_set 17 = .ok (.astore 4, 2) := by decide +kernel
theorem dL_set_19 : decode cL_set 19 = .ok (.iconst 2, 1) := by decide +kernel
theorem dL_set_20 : decode cL_set 20 = .ok (.ireturn, 1) := by decide +kernel
theorem dL_set_21 : decode cL_set 21 = .ok (.iconst 0, 1) := by decide +kernel
theorem dL_set_22 : decode cL_set 22 = .ok (.ireturn, 1) := by decide +kernel
theorem dL_draw_0 : decode cL_draw 0 = .ok (.aload_n 2, 1) := by decide +kernel
theorem dL_draw_1 : decode cL_draw 1 = .ok (.iconst 0, 1) := by decide +kernel
theorem dL_draw_2 : decode cL_draw 2 = .ok (.aload_n 0, 1) := by decide +kernel
theorem dL_draw_3 : decode cL_draw 3 = .ok (.iload_n 1, 1) := by decide +kernel
theorem dL_draw_4 : decode cL_draw 4 = .ok (.invokevirtual 36, 3) := by decide +kernel
theorem dL_draw_7 : decode cL_draw 7 = .ok (.i2l, 1) := by decide +kernel
theorem dL_draw_8 : decode cL_draw 8 = .ok (.lastore, 1) := by decide +kernel
theorem dL_draw_9 : decode cL_draw 9 = .ok (.goto 9, 3) := by decide +kernel
theorem dL_draw_12 : decode cL_draw 12 = .ok (.astore_n 3, 1) := by decide +kernel
theorem dL_draw_13 : decode cL_draw 13 = .ok (.iconst 1, 1) := by decide +kernel
theorem dL_draw_14 : decode cL_draw 14 = .ok (.ireturn, 1) := by decide +kernel
theorem dL_draw_15 : decode cL_draw 15 = .ok (.astore_n 3, 1) := by decide +kernel
theorem dL_draw_16 : decode cL_draw 16 = .ok (.iconst 2, 1) := by decide +kernel
theorem dL_draw_17 : decode cL_draw 17 = .ok (.ireturn, 1) := by decide +kernel
theorem dL_draw_18 : decode cL_draw 18 = .ok (.iconst 0, 1) := by decide +kernel
theorem dL_draw_19 : decode cL_draw 19 = .ok (.ireturn, 1) := by decide +kernel
theorem dL_claim_0 : decode cL_claim 0 = .ok (.aload_n 3, 1) := by decide +kernel
theorem dL_claim_1 : decode cL_claim 1 = .ok (.iconst 0, 1) := by decide +kernel
theorem dL_claim_2 : decode cL_claim 2 = .ok (.aload_n 0, 1) := by decide +kernel
theorem dL_claim_3 : decode cL_claim 3 = .ok (.iload_n 1, 1) := by decide +kernel
theorem dL_claim_4 : decode cL_claim 4 = .ok (.iload_n 2, 1) := by decide +kernel
theorem dL_claim_5 : decode cL_claim 5 = .ok (.invokevirtual 39, 3) := by decide +kernel
theorem dL_claim_8 : decode cL_claim 8 = .ok (.i2l, 1) := by decide +kernel
theorem dL_claim_9 : decode cL_claim 9 = .ok (.lastore, 1) := by decide +kernel
theorem dL_claim_10 : decode cL_claim 10 = .ok (.goto 11, 3) := by decide +kernel
theorem dL_claim_13 : decode cL_claim 13 = .ok (.astore 4, 2) := by decide +kernel
theorem dL_claim_15 : decode cL_claim 15 = .ok (.iconst 1, 1) := by decide +kernel
theorem dL_claim_16 : decode cL_claim 16 = .ok (.ireturn, 1) := by decide +kernel
theorem dL_claim_17 : decode cL_claim 17 = .ok (.astore 4, 2) := by decide +kernel
theorem dL_claim_19 : decode cL_claim 19 = .ok (.iconst 2, 1) := by decide +kernel
theorem dL_claim_20 : decode cL_claim 20 = .ok (.ireturn, 1) := by decide +kernel
theorem dL_claim_21 : decode cL_claim 21 = .ok (.iconst 0, 1) := by decide +kernel
theorem dL_claim_22 : decode cL_claim 22 = .ok (.ireturn, 1) := by decide +kernel
theorem dL_append_0 : decode cL_append 0 = .ok (.aload_n 2, 1) := by decide +kernel
theorem dL_append_1 : decode cL_append 1 = .ok (.iconst 0, 1) := by decide +kernel
theorem dL_append_2 : decode cL_append 2 = .ok (.aload_n 0, 1) := by decide +kernel
theorem dL_append_3 : decode cL_append 3 = .ok (.iload_n 1, 1) := by decide +kernel
theorem dL_append_4 : decode cL_append 4 = .ok (.invokevirtual 42, 3) := by decide +kernel
theorem dL_append_7 : decode cL_append 7 = .ok (.i2l, 1) := by decide +kernel
theorem dL_append_8 : decode cL_append 8 = .ok (.lastore, 1) := by decide +kernel
theorem dL_append_9 : decode cL_append 9 = .ok (.goto 9, 3) := by decide +kernel
theorem dL_append_12 : decode cL_append 12 = .ok (.astore_n 3, 1) := by decide +kernel
theorem dL_append_13 : decode cL_append 13 = .ok (.iconst 1, 1) := by decide +kernel
theorem dL_append_14 : decode cL_append 14 = .ok (.ireturn, 1) := by decide +kernel
theorem dL_append_15 : decode cL_append 15 = .ok (.astore_n 3, 1) := by decide +kernel
theorem dL_append_16 : decode cL_append 16 = .ok (.iconst 2, 1) := by decide +kernel
theorem dL_append_17 : decode cL_append 17 = .ok (.ireturn, 1) := by decide +kernel
theorem dL_append_18 : decode cL_append 18 = .ok (.iconst 0, 1) := by decide +kernel
theorem dL_append_19 : decode cL_append 19 = .ok (.ireturn, 1) := by decide +kernel
theorem dL_run_0 : decode cL_run 0 = .ok (.aload_n 1, 1) := by decide +kernel
theorem dL_run_1 : decode cL_run 1 = .ok (.iconst 0, 1) := by decide +kernel
theorem dL_run_2 : decode cL_run 2 = .ok (.aload_n 0, 1) := by decide +kernel
theorem dL_run_3 : decode cL_run 3 = .ok (.invokevirtual 45, 3) := by decide +kernel
theorem dL_run_6 : decode cL_run 6 = .ok (.i2l, 1) := by decide +kernel
theorem dL_run_7 : decode cL_run 7 = .ok (.lastore, 1) := by decide +kernel
theorem dL_run_8 : decode cL_run 8 = .ok (.goto 6, 3) := by decide +kernel
theorem dL_run_11 : decode cL_run 11 = .ok (.astore_n 2, 1) := by decide +kernel
theorem dL_run_12 : decode cL_run 12 = .ok (.iconst 1, 1) := by decide +kernel
theorem dL_run_13 : decode cL_run 13 = .ok (.ireturn, 1) := by decide +kernel
theorem dL_run_14 : decode cL_run 14 = .ok (.iconst 0, 1) := by decide +kernel
theorem dL_run_15 : decode cL_run 15 = .ok (.ireturn, 1) := by decide +kernel
theorem dL_keep_0 : decode cL_keep 0 = .ok (.aload_n 2, 1) := by decide +kernel
theorem dL_keep_1 : decode cL_keep 1 = .ok (.iconst 0, 1) := by decide +kernel
theorem dL_keep_2 : decode cL_keep 2 = .ok (.aload_n 0, 1) := by decide +kernel
theorem dL_keep_3 : decode cL_keep 3 = .ok (.iload_n 1, 1) := by decide +kernel
theorem dL_keep_4 : decode cL_keep 4 = .ok (.invokevirtual 49, 3) := by decide +kernel
theorem dL_keep_7 : decode cL_keep 7 = .ok (.i2l, 1) := by decide +kernel
theorem dL_keep_8 : decode cL_keep 8 = .ok (.lastore, 1) := by decide +kernel
theorem dL_keep_9 : decode cL_keep 9 = .ok (.goto 6, 3) := by decide +kernel
theorem dL_keep_12 : decode cL_keep 12 = .ok (.astore_n 3, 1) := by decide +kernel
theorem dL_keep_13 : decode cL_keep 13 = .ok (.iconst 1, 1) := by decide +kernel
theorem dL_keep_14 : decode cL_keep 14 = .ok (.ireturn, 1) := by decide +kernel
theorem dL_keep_15 : decode cL_keep 15 = .ok (.iconst 0, 1) := by decide +kernel
theorem dL_keep_16 : decode cL_keep 16 = .ok (.ireturn, 1) := by decide +kernel
theorem dL_goBack_0 : decode cL_goBack 0 = .ok (.aload_n 2, 1) := by decide +kernel
theorem dL_goBack_1 : decode cL_goBack 1 = .ok (.iconst 0, 1) := by decide +kernel
theorem dL_goBack_2 : decode cL_goBack 2 = .ok (.aload_n 0, 1) := by decide +kernel
theorem dL_goBack_3 : decode cL_goBack 3 = .ok (.iload_n 1, 1) := by decide +kernel
theorem dL_goBack_4 : decode cL_goBack 4 = .ok (.invokevirtual 52, 3) := by decide +kernel
theorem dL_goBack_7 : decode cL_goBack 7 = .ok (.i2l, 1) := by decide +kernel
theorem dL_goBack_8 : decode cL_goBack 8 = .ok (.lastore, 1) := by decide +kernel
theorem dL_goBack_9 : decode cL_goBack 9 = .ok (.goto 9, 3) := by decide +kernel
theorem dL_goBack_12 : decode cL_goBack 12 = .ok (.astore_n 3, 1) := by decide +kernel
theorem dL_goBack_13 : decode cL_goBack 13 = .ok (.iconst 1, 1) := by decide +kernel
theorem dL_goBack_14 : decode cL_goBack 14 = .ok (.ireturn, 1) := by decide +kernel
theorem dL_goBack_15 : decode cL_goBack 15 = .ok (.astore_n 3, 1) := by decide +kernel
theorem dL_goBack_16 : decode cL_goBack 16 = .ok (.iconst 2, 1) := by decide +kernel
theorem dL_goBack_17 : decode cL_goBack 17 = .ok (.ireturn, 1) := by decide +kernel
theorem dL_goBack_18 : decode cL_goBack 18 = .ok (.iconst 0, 1) := by decide +kernel
theorem dL_goBack_19 : decode cL_goBack 19 = .ok (.ireturn, 1) := by decide +kernel
theorem dL_undo_0 : decode cL_undo 0 = .ok (.aload_n 1, 1) := by decide +kernel
theorem dL_undo_1 : decode cL_undo 1 = .ok (.iconst 0, 1) := by decide +kernel
theorem dL_undo_2 : decode cL_undo 2 = .ok (.aload_n 0, 1) := by decide +kernel
theorem dL_undo_3 : decode cL_undo 3 = .ok (.invokevirtual 55, 3) := by decide +kernel
theorem dL_undo_6 : decode cL_undo 6 = .ok (.i2l, 1) := by decide +kernel
theorem dL_undo_7 : decode cL_undo 7 = .ok (.lastore, 1) := by decide +kernel
theorem dL_undo_8 : decode cL_undo 8 = .ok (.goto 6, 3) := by decide +kernel
theorem dL_undo_11 : decode cL_undo 11 = .ok (.astore_n 2, 1) := by decide +kernel
theorem dL_undo_12 : decode cL_undo 12 = .ok (.iconst 1, 1) := by decide +kernel
theorem dL_undo_13 : decode cL_undo 13 = .ok (.ireturn, 1) := by decide +kernel
theorem dL_undo_14 : decode cL_undo 14 = .ok (.iconst 0, 1) := by decide +kernel
theorem dL_undo_15 : decode cL_undo 15 = .ok (.ireturn, 1) := by decide +kernel
