theorem dX0_init_0 : decode cX0_init 0 = .ok (.aload_n 0, 1) := by decide +kernel
theorem dX0_init_1 : decode cX0_init 1 = .ok (.invokespecial 3, 3) := by decide +kernel
theorem dX0_init_4 : decode cX0_init 4 = .ok (.aload_n 0, 1) := by decide +kernel
theorem dX0_init_5 : decode cX0_init 5 = .ok (.new 9, 3) := by decide +kernel
theorem dX0_init_8 : decode cX0_init 8 = .ok (.dup, 1) := by decide +kernel
theorem dX0_init_9 : decode cX0_init 9 = .ok (.invokespecial 11, 3) := by decide +kernel
theorem dX0_init_12 : decode cX0_init 12 = .ok (.putfield 12, 3) := by decide +kernel
theorem dX0_init_15 : decode cX0_init 15 = .ok (.aload_n 0, 1) := by decide +kernel
theorem dX0_init_16 : decode cX0_init 16 = .ok (.new 18, 3) := by decide +kernel
theorem dX0_init_19 : decode cX0_init 19 = .ok (.dup, 1) := by decide +kernel
theorem dX0_init_20 : decode cX0_init 20 = .ok (.invokespecial 20, 3) := by decide +kernel
theorem dX0_init_23 : decode cX0_init 23 = .ok (.putfield 21, 3) := by decide +kernel
theorem dX0_init_26 : decode cX0_init 26 = .ok (.aload_n 0, 1) := by decide +kernel
theorem dX0_init_27 : decode cX0_init 27 = .ok (.new 25, 3) := by decide +kernel
theorem dX0_init_30 : decode cX0_init 30 = .ok (.dup, 1) := by decide +kernel
theorem dX0_init_31 : decode cX0_init 31 = .ok (.invokespecial 27, 3) := by decide +kernel
theorem dX0_init_34 : decode cX0_init 34 = .ok (.putfield 28, 3) := by decide +kernel
theorem dX0_init_37 : decode cX0_init 37 = .ok (.aload_n 0, 1) := by decide +kernel
theorem dX0_init_38 : decode cX0_init 38 = .ok (.iconst 3, 1) := by decide +kernel
theorem dX0_init_39 : decode cX0_init 39 = .ok (.newarray .int, 2) := by decide +kernel
theorem dX0_init_41 : decode cX0_init 41 = .ok (.putfield 32, 3) := by decide +kernel
theorem dX0_init_44 : decode cX0_init 44 = .ok (.aload_n 0, 1) := by decide +kernel
theorem dX0_init_45 : decode cX0_init 45 = .ok (.iconst 1, 1) := by decide +kernel
theorem dX0_init_46 : decode cX0_init 46 = .ok (.putfield 36, 3) := by decide +kernel
theorem dX0_init_49 : decode cX0_init 49 = .ok (.getstatic 40, 3) := by decide +kernel
theorem dX0_init_52 : decode cX0_init 52 = .ok (.iconst 0, 1) := by decide +kernel
theorem dX0_init_53 : decode cX0_init 53 = .ok (.aload_n 0, 1) := by decide +kernel
theorem dX0_init_54 : decode cX0_init 54 = .ok (.getfield 32, 3) := by decide +kernel
theorem dX0_init_57 : decode cX0_init 57 = .ok (.iconst 0, 1) := by decide +kernel
theorem dX0_init_58 : decode cX0_init 58 = .ok (.iconst 3, 1) := by decide +kernel
theorem dX0_init_59 : decode cX0_init 59 = .ok (.invokestatic 43, 3) := by decide +kernel
theorem dX0_init_62 : decode cX0_init 62 = .ok (.return_, 1) := by decide +kernel
theorem dX0_copyFrom_0 : decode cX0_copyFrom 0 = .ok (.aload_n 0, 1) := by decide +kernel
theorem dX0_copyFrom_1 : decode cX0_copyFrom 1 = .ok (.getfield 12, 3) := by decide +kernel
theorem dX0_copyFrom_4 : decode cX0_copyFrom 4 = .ok (.aload_n 1, 1) := by decide +kernel
theorem dX0_copyFrom_5 : decode cX0_copyFrom 5 = .ok (.getfield 12, 3) := by decide +kernel
theorem dX0_copyFrom_8 : decode cX0_copyFrom 8 = .ok (.invokevirtual 49, 3) := by decide +kernel
theorem dX0_copyFrom_11 : decode cX0_copyFrom 11 = .ok (.aload_n 0, 1) := by decide +kernel
theorem dX0_copyFrom_12 : decode cX0_copyFrom 12 = .ok (.getfield 21, 3) := by decide +kernel
theorem dX0_copyFrom_15 : decode cX0_copyFrom 15 = .ok (.aload_n 1, 1) := by decide +kernel
theorem dX0_copyFrom_16 : decode cX0_copyFrom 16 = .ok (.getfield 21, 3) := by decide +kernel
theorem dX0_copyFrom_19 : decode cX0_copyFrom 19 = .ok (.invokevirtual 53, 3) := by decide +kernel
theorem dX0_copyFrom_22 : decode cX0_copyFrom 22 = .ok (.aload_n 0, 1) := by decide +kernel
theorem dX0_copyFrom_23 : decode cX0_copyFrom 23 = .ok (.getfield 28, 3) := by decide +kernel
theorem dX0_copyFrom_26 : decode cX0_copyFrom 26 = .ok (.aload_n 1, 1) := by decide +kernel
theorem dX0_copyFrom_27 : decode cX0_copyFrom 27 = .ok (.getfield 28, 3) := by decide +kernel
theorem dX0_copyFrom_30 : decode cX0_copyFrom 30 = .ok (.invokevirtual 56, 3) := by decide +kernel
theorem dX0_copyFrom_33 : decode cX0_copyFrom 33 = .ok (.aload_n 1, 1) := by decide +kernel
theorem dX0_copyFrom_34 : decode cX0_copyFrom 34 = .ok (.getfield 32, 3) := by decide +kernel
theorem dX0_copyFrom_37 : decode cX0_copyFrom 37 = .ok (.iconst 0, 1) := by decide +kernel
theorem dX0_copyFrom_38 : decode cX0_copyFrom 38 = .ok (.aload_n 0, 1) := by decide +kernel
theorem dX0_copyFrom_39 : decode cX0_copyFrom 39 = .ok (.getfield 32, 3) := by decide +kernel
theorem dX0_copyFrom_42 : decode cX0_copyFrom 42 = .ok (.iconst 0, 1) := by decide +kernel
theorem dX0_copyFrom_43 : decode cX0_copyFrom 43 = .ok (.iconst 3, 1) := by decide +kernel
theorem dX0_copyFrom_44 : decode cX0_copyFrom 44 = .ok (.invokestatic 43, 3) := by decide +kernel
theorem dX0_copyFrom_47 : decode cX0_copyFrom 47 = .ok (.aload_n 0, 1) := by decide +kernel
theorem dX0_copyFrom_48 : decode cX0_copyFrom 48 = .ok (.aload_n 1, 1) := by decide +kernel
theorem dX0_copyFrom_49 : decode cX0_copyFrom 49 = .ok (.getfield 36, 3) := by decide +kernel
theorem dX0_copyFrom_52 : decode cX0_copyFrom 52 = .ok (.putfield 36, 3) := by decide +kernel
theorem dX0_copyFrom_55 : decode cX0_copyFrom 55 = .ok (.return_, 1) := by decide +kernel
theorem dX0_reasonAgainstPlace_0 : decode cX0_reasonAgainstPlace 0 = .ok (.aload_n 0, 1) := by decide +kernel
theorem dX0_reasonAgainstPlace_1 : decode cX0_reasonAgainstPlace 1 = .ok (.getfield 12, 3) := by decide +kernel
theorem dX0_reasonAgainstPlace_4 : decode cX0_reasonAgainstPlace 4 = .ok (.iload_n 1, 1) := by decide +kernel
theorem dX0_reasonAgainstPlace_5 : decode cX0_reasonAgainstPlace 5 = .ok (.iload_n 2, 1) := by decide +kernel
theorem dX0_reasonAgainstPlace_6 : decode cX0_reasonAgainstPlace 6 = .ok (.invokevirtual 59, 3) := by decide +kernel
theorem dX0_reasonAgainstPlace_9 : decode cX0_reasonAgainstPlace 9 = .ok (.istore_n 3, 1) := by decide +kernel
theorem dX0_reasonAgainstPlace_10 : decode cX0_reasonAgainstPlace 10 = .ok (.iload_n 3, 1) := by decide +kernel
theorem dX0_reasonAgainstPlace_11 : decode cX0_reasonAgainstPlace 11 = .ok (.ifCond .ne 20, 3) := by decide +kernel
theorem dX0_reasonAgainstPlace_14 : decode cX0_reasonAgainstPlace 14 = .ok (.aload_n 0, 1) := by decide +kernel
theorem dX0_reasonAgainstPlace_15 : decode cX0_reasonAgainstPlace 15 = .ok (.getfield 21, 3) := by decide +kernel
theorem dX0_reasonAgainstPlace_18 : decode cX0_reasonAgainstPlace 18 = .ok (.iload_n 1, 1) := by decide +kernel
theorem dX0_reasonAgainstPlace_19 : decode cX0_reasonAgainstPlace 19 = .ok (.iconst 3, 1) := by decide +kernel
theorem dX0_reasonAgainstPlace_20 : decode cX0_reasonAgainstPlace 20 = .ok (.idiv, 1) := by decide +kernel
theorem dX0_reasonAgainstPlace_21 : decode cX0_reasonAgainstPlace 21 = .ok (.invokevirtual 63, 3) := by decide +kernel
theorem dX0_reasonAgainstPlace_24 : decode cX0_reasonAgainstPlace 24 = .ok (.ifCond .eq 7, 3) := by decide +kernel
theorem dX0_reasonAgainstPlace_27 : decode cX0_reasonAgainstPlace 27 = .ok (.iconst 5, 1) := by decide +kernel
theorem dX0_reasonAgainstPlace_28 : decode cX0_reasonAgainstPlace 28 = .ok (.goto 4, 3) := by decide +kernel
theorem dX0_reasonAgainstPlace_31 : decode cX0_reasonAgainstPlace 31 = .ok (.iload_n 3, 1) := by decide +kernel
theorem dX0_reasonAgainstPlace_32 : decode cX0_reasonAgainstPlace 32 = .ok (.ireturn, 1) := by decide +kernel
theorem dX0_place_0 : decode cX0_place 0 = .ok (.aload_n 0, 1) := by decide +kernel
theorem dX0_place_1 : decode cX0_place 1 = .ok (.iload_n 1, 1) := by decide +kernel
theorem dX0_place_2 : decode cX0_place 2 = .ok (.iload_n 2, 1) := by decide +kernel
theorem dX0_place_3 : decode cX0_place 3 = .ok (.invokevirtual 67, 3) := by decide +kernel
theorem dX0_place_6 : decode cX0_place 6 = .ok (.istore_n 3, 1) := by decide +kernel
theorem dX0_place_7 : decode cX0_place 7 = .ok (.iload_n 3, 1) := by decide +kernel
theorem dX0_place_8 : decode cX0_place 8 = .ok (.ifCond .ne 12, 3) := by decide +kernel
theorem dX0_place_11 : decode cX0_place 11 = .ok (.aload_n 0, 1) := by decide +kernel
theorem dX0_place_12 : decode cX0_place 12 = .ok (.getfield 12, 3) := by decide +kernel
theorem dX0_place_15 : decode cX0_place 15 = .ok (.iload_n 1, 1) := by decide +kernel
theorem dX0_place_16 : decode cX0_place 16 = .ok (.iload_n 2, 1) := by decide +kernel
theorem dX0_place_17 : decode cX0_place 17 = .ok (.invokevirtual 70, 3) := by decide +kernel
theorem dX0_place_20 : decode cX0_place 20 = .ok (.iload_n 3, 1) := by decide +kernel
theorem dX0_place_21 : decode cX0_place 21 = .ok (.ireturn, 1) := by decide +kernel
theorem dX0_placeByLot_0 : decode cX0_placeByLot 0 = .ok (.aload_n 3, 1) := by decide +kernel
theorem dX0_placeByLot_1 : decode cX0_placeByLot 1 = .ok (.aload_n 0, 1) := by decide +kernel
theorem dX0_placeByLot_2 : decode cX0_placeByLot 2 = .ok (.getfield 12, 3) := by decide +kernel
theorem dX0_placeByLot_5 : decode cX0_placeByLot 5 = .ok (.invokevirtual 74, 3) := by decide +kernel
theorem dX0_placeByLot_8 : decode cX0_placeByLot 8 = .ok (.iconst 0, 1) := by decide +kernel
theorem dX0_placeByLot_9 : decode cX0_placeByLot 9 = .ok (.istore 4, 2) := by decide +kernel
theorem dX0_placeByLot_11 : decode cX0_placeByLot 11 = .ok (.iconst 0, 1) := by decide +kernel
theorem dX0_placeByLot_12 : decode cX0_placeByLot 12 = .ok (.istore 5, 2) := by decide +kernel
theorem dX0_placeByLot_14 : decode cX0_placeByLot 14 = .ok (.iload 5, 2) := by decide +kernel
theorem dX0_placeByLot_16 : decode cX0_placeByLot 16 = .ok (.iload_n 2, 1) := by decide +kernel
theorem dX0_placeByLot_17 : decode cX0_placeByLot 17 = .ok (.if_icmp .ge 75, 3) := by decide +kernel
theorem dX0_placeByLot_20 : decode cX0_placeByLot 20 = .ok (.aload_n 3, 1) := by decide +kernel
theorem dX0_placeByLot_21 : decode cX0_placeByLot 21 = .ok (.getfield 79, 3) := by decide +kernel
theorem dX0_placeByLot_24 : decode cX0_placeByLot 24 = .ok (.ifCond .le 68, 3) := by decide +kernel
theorem dX0_placeByLot_27 : decode cX0_placeByLot 27 = .ok (.aload_n 0, 1) := by decide +kernel
theorem dX0_placeByLot_28 : decode cX0_placeByLot 28 = .ok (.aload_n 0, 1) := by decide +kernel
theorem dX0_placeByLot_29 : decode cX0_placeByLot 29 = .ok (.getfield 36, 3) := by decide +kernel
theorem dX0_placeByLot_32 : decode cX0_placeByLot 32 = .ok (.invokestatic 82, 3) := by decide +kernel
theorem dX0_placeByLot_35 : decode cX0_placeByLot 35 = .ok (.putfield 36, 3) := by decide +kernel
theorem dX0_placeByLot_38 : decode cX0_placeByLot 38 = .ok (.aload_n 3, 1) := by decide +kernel
theorem dX0_placeByLot_39 : decode cX0_placeByLot 39 = .ok (.aload_n 0, 1) := by decide +kernel
theorem dX0_placeByLot_40 : decode cX0_placeByLot 40 = .ok (.getfield 36, 3) := by decide +kernel
theorem dX0_placeByLot_43 : decode cX0_placeByLot 43 = .ok (.invokevirtual 86, 3) := by decide +kernel
theorem dX0_placeByLot_46 : decode cX0_placeByLot 46 = .ok (.istore 6, 2) := by decide +kernel
theorem dX0_placeByLot_48 : decode cX0_placeByLot 48 = .ok (.aload_n 0, 1) := by decide +kernel
theorem dX0_placeByLot_49 : decode cX0_placeByLot 49 = .ok (.iload_n 1, 1) := by decide +kernel
theorem dX0_placeByLot_50 : decode cX0_placeByLot 50 = .ok (.iload 6, 2) := by decide +kernel
theorem dX0_placeByLot_52 : decode cX0_placeByLot 52 = .ok (.invokevirtual 89, 3) := by decide +kernel
theorem dX0_placeByLot_55 : decode cX0_placeByLot 55 = .ok (.istore 7, 2) := by decide +kernel
theorem dX0_placeByLot_57 : decode cX0_placeByLot 57 = .ok (.iload 7, 2) := by decide +kernel
theorem dX0_placeByLot_59 : decode cX0_placeByLot 59 = .ok (.iconst (-1), 1) := by decide +kernel
theorem dX0_placeByLot_60 : decode cX0_placeByLot 60 = .ok (.if_icmp .eq 26, 3) := by decide +kernel
theorem dX0_placeByLot_63 : decode cX0_placeByLot 63 = .ok (.aload_n 3, 1) := by decide +kernel
theorem dX0_placeByLot_64 : decode cX0_placeByLot 64 = .ok (.aload_n 0, 1) := by decide +kernel
theorem dX0_placeByLot_65 : decode cX0_placeByLot 65 = .ok (.getfield 36, 3) := by decide +kernel
theorem dX0_placeByLot_68 : decode cX0_placeByLot 68 = .ok (.invokevirtual 92, 3) := by decide +kernel
theorem dX0_placeByLot_71 : decode cX0_placeByLot 71 = .ok (.pop, 1) := by decide +kernel
theorem dX0_placeByLot_72 : decode cX0_placeByLot 72 = .ok (.aload_n 0, 1) := by decide +kernel
theorem dX0_placeByLot_73 : decode cX0_placeByLot 73 = .ok (.getfield 12, 3) := by decide +kernel
theorem dX0_placeByLot_76 : decode cX0_placeByLot 76 = .ok (.iload 7, 2) := by decide +kernel
theorem dX0_placeByLot_78 : decode cX0_placeByLot 78 = .ok (.iload 6, 2) := by decide +kernel
theorem dX0_placeByLot_80 : decode cX0_placeByLot 80 = .ok (.invokevirtual 70, 3) := by decide +kernel
theorem dX0_placeByLot_83 : decode cX0_placeByLot 83 = .ok (.iinc 4 1, 3) := by decide +kernel
theorem dX0_placeByLot_86 : decode cX0_placeByLot 86 = .ok (.iinc 5 1, 3) := by decide +kernel
theorem dX0_placeByLot_89 : decode cX0_placeByLot 89 = .ok (.goto (-75), 3) := by decide +kernel
theorem dX0_placeByLot_92 : decode cX0_placeByLot 92 = .ok (.iload 4, 2) := by decide +kernel
theorem dX0_placeByLot_94 : decode cX0_placeByLot 94 = .ok (.ireturn, 1) := by decide +kernel
theorem dX0_firstRowFor_0 : decode cX0_firstRowFor 0 = .ok (.iload_n 1, 1) := by decide +kernel
theorem dX0_firstRowFor_1 : decode cX0_firstRowFor 1 = .ok (.iconst 3, 1) := by decide +kernel
theorem dX0_firstRowFor_2 : decode cX0_firstRowFor 2 = .ok (.imul, 1) := by decide +kernel
theorem dX0_firstRowFor_3 : decode cX0_firstRowFor 3 = .ok (.istore_n 3, 1) := by decide +kernel
theorem dX0_firstRowFor_4 : decode cX0_firstRowFor 4 = .ok (.iload_n 3, 1) := by decide +kernel
theorem dX0_firstRowFor_5 : decode cX0_firstRowFor 5 = .ok (.iload_n 1, 1) := by decide +kernel
theorem dX0_firstRowFor_6 : decode cX0_firstRowFor 6 = .ok (.iconst 3, 1) := by decide +kernel
theorem dX0_firstRowFor_7 : decode cX0_firstRowFor 7 = .ok (.imul, 1) := by decide +kernel
theorem dX0_firstRowFor_8 : decode cX0_firstRowFor 8 = .ok (.iconst 3, 1) := by decide +kernel
theorem dX0_firstRowFor_9 : decode cX0_firstRowFor 9 = .ok (.iadd, 1) := by decide +kernel
theorem dX0_firstRowFor_10 : decode cX0_firstRowFor 10 = .ok (.if_icmp .ge 20, 3) := by decide +kernel
theorem dX0_firstRowFor_13 : decode cX0_firstRowFor 13 = .ok (.aload_n 0, 1) := by decide +kernel
theorem dX0_firstRowFor_14 : decode cX0_firstRowFor 14 = .ok (.iload_n 3, 1) := by decide +kernel
theorem dX0_firstRowFor_15 : decode cX0_firstRowFor 15 = .ok (.iload_n 2, 1) := by decide +kernel
theorem dX0_firstRowFor_16 : decode cX0_firstRowFor 16 = .ok (.invokevirtual 67, 3) := by decide +kernel
theorem dX0_firstRowFor_19 : decode cX0_firstRowFor 19 = .ok (.ifCond .ne 5, 3) := by decide +kernel
theorem dX0_firstRowFor_22 : decode cX0_firstRowFor 22 = .ok (.iload_n 3, 1) := by decide +kernel
theorem dX0_firstRowFor_23 : decode cX0_firstRowFor 23 = .ok (.ireturn, 1) := by decide +kernel
theorem dX0_firstRowFor_24 : decode cX0_firstRowFor 24 = .ok (.iinc 3 1, 3) := by decide +kernel
theorem dX0_firstRowFor_27 : decode cX0_firstRowFor 27 = .ok (.goto (-23), 3) := by decide +kernel
theorem dX0_firstRowFor_30 : decode cX0_firstRowFor 30 = .ok (.iconst (-1), 1) := by decide +kernel
theorem dX0_firstRowFor_31 : decode cX0_firstRowFor 31 = .ok (.ireturn, 1) := by decide +kernel
theorem dX0_isForSale_0 : decode cX0_isForSale 0 = .ok (.aload_n 0, 1) := by decide +kernel
theorem dX0_isForSale_1 : decode cX0_isForSale 1 = .ok (.getfield 21, 3) := by decide +kernel
theorem dX0_isForSale_4 : decode cX0_isForSale 4 = .ok (.iload_n 1, 1) := by decide +kernel
theorem dX0_isForSale_5 : decode cX0_isForSale 5 = .ok (.invokevirtual 63, 3) := by decide +kernel
theorem dX0_isForSale_8 : decode cX0_isForSale 8 = .ok (.ifCond .ne 28, 3) := by decide +kernel
theorem dX0_isForSale_11 : decode cX0_isForSale 11 = .ok (.aload_n 0, 1) := by decide +kernel
theorem dX0_isForSale_12 : decode cX0_isForSale 12 = .ok (.getfield 12, 3) := by decide +kernel
theorem dX0_isForSale_15 : decode cX0_isForSale 15 = .ok (.iload_n 1, 1) := by decide +kernel
theorem dX0_isForSale_16 : decode cX0_isForSale 16 = .ok (.invokevirtual 95, 3) := by decide +kernel
theorem dX0_isForSale_19 : decode cX0_isForSale 19 = .ok (.ifCond .eq 17, 3) := by decide +kernel
theorem dX0_isForSale_22 : decode cX0_isForSale 22 = .ok (.aload_n 0, 1) := by decide +kernel
theorem dX0_isForSale_23 : decode cX0_isForSale 23 = .ok (.getfield 21, 3) := by decide +kernel
theorem dX0_isForSale_26 : decode cX0_isForSale 26 = .ok (.getfield 98, 3) := by decide +kernel
theorem dX0_isForSale_29 : decode cX0_isForSale 29 = .ok (.ifCond .ne 7, 3) := by decide +kernel
theorem dX0_isForSale_32 : decode cX0_isForSale 32 = .ok (.iconst 1, 1) := by decide +kernel
theorem dX0_isForSale_33 : decode cX0_isForSale 33 = .ok (.goto 4, 3) := by decide +kernel
theorem dX0_isForSale_36 : decode cX0_isForSale 36 = .ok (.iconst 0, 1) := by decide +kernel
theorem dX0_isForSale_37 : decode cX0_isForSale 37 = .ok (.ireturn, 1) := by decide +kernel
theorem dX0_sell_0 : decode cX0_sell 0 = .ok (.aload_n 0, 1) := by decide +kernel
theorem dX0_sell_1 : decode cX0_sell 1 = .ok (.getfield 21, 3) := by decide +kernel
theorem dX0_sell_4 : decode cX0_sell 4 = .ok (.dup, 1) := by decide +kernel
theorem dX0_sell_5 : decode cX0_sell 5 = .ok (.getfield 101, 3) := by decide +kernel
theorem dX0_sell_8 : decode cX0_sell 8 = .ok (.iconst 1, 1) := by decide +kernel
theorem dX0_sell_9 : decode cX0_sell 9 = .ok (.iload_n 1, 1) := by decide +kernel
theorem dX0_sell_10 : decode cX0_sell 10 = .ok (.ishl, 1) := by decide +kernel
theorem dX0_sell_11 : decode cX0_sell 11 = .ok (.ior, 1) := by decide +kernel
theorem dX0_sell_12 : decode cX0_sell 12 = .ok (.putfield 101, 3) := by decide +kernel
theorem dX0_sell_15 : decode cX0_sell 15 = .ok (.aload_n 0, 1) := by decide +kernel
theorem dX0_sell_16 : decode cX0_sell 16 = .ok (.getfield 28, 3) := by decide +kernel
theorem dX0_sell_19 : decode cX0_sell 19 = .ok (.aload_n 0, 1) := by decide +kernel
theorem dX0_sell_20 : decode cX0_sell 20 = .ok (.getfield 32, 3) := by decide +kernel
theorem dX0_sell_23 : decode cX0_sell 23 = .ok (.iconst 0, 1) := by decide +kernel
theorem dX0_sell_24 : decode cX0_sell 24 = .ok (.iaload, 1) := by decide +kernel
theorem dX0_sell_25 : decode cX0_sell 25 = .ok (.invokevirtual 104, 3) := by decide +kernel
theorem dX0_sell_28 : decode cX0_sell 28 = .ok (.ireturn, 1) := by decide +kernel
theorem dX0_drawBalls_0 : decode cX0_drawBalls 0 = .ok (.iconst (-1), 1) := by decide +kernel
theorem dX0_drawBalls_1 : decode cX0_drawBalls 1 = .ok (.istore_n 2, 1) := by decide +kernel
theorem dX0_drawBalls_2 : decode cX0_drawBalls 2 = .ok (.iconst 0, 1) := by decide +kernel
theorem dX0_drawBalls_3 : decode cX0_drawBalls 3 = .ok (.istore_n 3, 1) := by decide +kernel
theorem dX0_drawBalls_4 : decode cX0_drawBalls 4 = .ok (.iload_n 3, 1) := by decide +kernel
theorem dX0_drawBalls_5 : decode cX0_drawBalls 5 = .ok (.iload_n 1, 1) := by decide +kernel
theorem dX0_drawBalls_6 : decode cX0_drawBalls 6 = .ok (.if_icmp .ge 62, 3) := by decide +kernel
theorem dX0_drawBalls_9 : decode cX0_drawBalls 9 = .ok (.aload_n 0, 1) := by decide +kernel
theorem dX0_drawBalls_10 : decode cX0_drawBalls 10 = .ok (.getfield 21, 3) := by decide +kernel
theorem dX0_drawBalls_13 : decode cX0_drawBalls 13 = .ok (.getfield 107, 3) := by decide +kernel
theorem dX0_drawBalls_16 : decode cX0_drawBalls 16 = .ok (.getfield 79, 3) := by decide +kernel
theorem dX0_drawBalls_19 : decode cX0_drawBalls 19 = .ok (.ifCond .le 49, 3) := by decide +kernel
theorem dX0_drawBalls_22 : decode cX0_drawBalls 22 = .ok (.aload_n 0, 1) := by decide +kernel
theorem dX0_drawBalls_23 : decode cX0_drawBalls 23 = .ok (.aload_n 0, 1) := by decide +kernel
theorem dX0_drawBalls_24 : decode cX0_drawBalls 24 = .ok (.getfield 36, 3) := by decide +kernel
theorem dX0_drawBalls_27 : decode cX0_drawBalls 27 = .ok (.invokestatic 82, 3) := by decide +kernel
theorem dX0_drawBalls_30 : decode cX0_drawBalls 30 = .ok (.putfield 36, 3) := by decide +kernel
theorem dX0_drawBalls_33 : decode cX0_drawBalls 33 = .ok (.aload_n 0, 1) := by decide +kernel
theorem dX0_drawBalls_34 : decode cX0_drawBalls 34 = .ok (.getfield 21, 3) := by decide +kernel
theorem dX0_drawBalls_37 : decode cX0_drawBalls 37 = .ok (.getfield 107, 3) := by decide +kernel
theorem dX0_drawBalls_40 : decode cX0_drawBalls 40 = .ok (.aload_n 0, 1) := by decide +kernel
theorem dX0_drawBalls_41 : decode cX0_drawBalls 41 = .ok (.getfield 36, 3) := by decide +kernel
theorem dX0_drawBalls_44 : decode cX0_drawBalls 44 = .ok (.invokevirtual 92, 3) := by decide +kernel
theorem dX0_drawBalls_47 : decode cX0_drawBalls 47 = .ok (.istore_n 2, 1) := by decide +kernel
theorem dX0_drawBalls_48 : decode cX0_drawBalls 48 = .ok (.aload_n 0, 1) := by decide +kernel
theorem dX0_drawBalls_49 : decode cX0_drawBalls 49 = .ok (.getfield 21, 3) := by decide +kernel
theorem dX0_drawBalls_52 : decode cX0_drawBalls 52 = .ok (.iload_n 2, 1) := by decide +kernel
theorem dX0_drawBalls_53 : decode cX0_drawBalls 53 = .ok (.aload_n 0, 1) := by decide +kernel
theorem dX0_drawBalls_54 : decode cX0_drawBalls 54 = .ok (.getfield 32, 3) := by decide +kernel
theorem dX0_drawBalls_57 : decode cX0_drawBalls 57 = .ok (.iconst 1, 1) := by decide +kernel
theorem dX0_drawBalls_58 : decode cX0_drawBalls 58 = .ok (.iaload, 1) := by decide +kernel
theorem dX0_drawBalls_59 : decode cX0_drawBalls 59 = .ok (.invokevirtual 111, 3) := by decide +kernel
theorem dX0_drawBalls_62 : decode cX0_drawBalls 62 = .ok (.iinc 3 1, 3) := by decide +kernel
theorem dX0_drawBalls_65 : decode cX0_drawBalls 65 = .ok (.goto (-61), 3) := by decide +kernel
theorem dX0_drawBalls_68 : decode cX0_drawBalls 68 = .ok (.iload_n 2, 1) := by decide +kernel
theorem dX0_drawBalls_69 : decode cX0_drawBalls 69 = .ok (.ireturn, 1) := by decide +kernel
theorem dX0_reasonAgainstClaim_0 : decode cX0_reasonAgainstClaim 0 = .ok (.aload_n 0, 1) := by decide +kernel
theorem dX0_reasonAgainstClaim_1 : decode cX0_reasonAgainstClaim 1 = .ok (.getfield 21, 3) := by decide +kernel
theorem dX0_reasonAgainstClaim_4 : decode cX0_reasonAgainstClaim 4 = .ok (.getfield 114, 3) := by decide +kernel
theorem dX0_reasonAgainstClaim_7 : decode cX0_reasonAgainstClaim 7 = .ok (.iload_n 2, 1) := by decide +kernel
theorem dX0_reasonAgainstClaim_8 : decode cX0_reasonAgainstClaim 8 = .ok (.iaload, 1) := by decide +kernel
theorem dX0_reasonAgainstClaim_9 : decode cX0_reasonAgainstClaim 9 = .ok (.ifCond .eq 24, 3) := by decide +kernel
theorem dX0_reasonAgainstClaim_12 : decode cX0_reasonAgainstClaim 12 = .ok (.aload_n 0, 1) := by decide +kernel
theorem dX0_reasonAgainstClaim_13 : decode cX0_reasonAgainstClaim 13 = .ok (.getfield 21, 3) := by decide +kernel
theorem dX0_reasonAgainstClaim_16 : decode cX0_reasonAgainstClaim 16 = .ok (.getfield 117, 3) := by decide +kernel
theorem dX0_reasonAgainstClaim_19 : decode cX0_reasonAgainstClaim 19 = .ok (.iload_n 2, 1) := by decide +kernel
theorem dX0_reasonAgainstClaim_20 : decode cX0_reasonAgainstClaim 20 = .ok (.iaload, 1) := by decide +kernel
theorem dX0_reasonAgainstClaim_21 : decode cX0_reasonAgainstClaim 21 = .ok (.aload_n 0, 1) := by decide +kernel
theorem dX0_reasonAgainstClaim_22 : decode cX0_reasonAgainstClaim 22 = .ok (.getfield 21, 3) := by decide +kernel
theorem dX0_reasonAgainstClaim_25 : decode cX0_reasonAgainstClaim 25 = .ok (.getfield 98, 3) := by decide +kernel
theorem dX0_reasonAgainstClaim_28 : decode cX0_reasonAgainstClaim 28 = .ok (.if_icmp .ge 5, 3) := by decide +kernel
theorem dX0_reasonAgainstClaim_31 : decode cX0_reasonAgainstClaim 31 = .ok (.iconst 1, 1) := by decide +kernel
theorem dX0_reasonAgainstClaim_32 : decode cX0_reasonAgainstClaim 32 = .ok (.ireturn, 1) := by decide +kernel
theorem dX0_reasonAgainstClaim_33 : decode cX0_reasonAgainstClaim 33 = .ok (.aload_n 0, 1) := by decide +kernel
theorem dX0_reasonAgainstClaim_34 : decode cX0_reasonAgainstClaim 34 = .ok (.getfield 21, 3) := by decide +kernel
theorem dX0_reasonAgainstClaim_37 : decode cX0_reasonAgainstClaim 37 = .ok (.getfield 114, 3) := by decide +kernel
theorem dX0_reasonAgainstClaim_40 : decode cX0_reasonAgainstClaim 40 = .ok (.iload_n 2, 1) := by decide +kernel
theorem dX0_reasonAgainstClaim_41 : decode cX0_reasonAgainstClaim 41 = .ok (.iaload, 1) := by decide +kernel
theorem dX0_reasonAgainstClaim_42 : decode cX0_reasonAgainstClaim 42 = .ok (.iconst 1, 1) := by decide +kernel
theorem dX0_reasonAgainstClaim_43 : decode cX0_reasonAgainstClaim 43 = .ok (.iload_n 1, 1) := by decide +kernel
theorem dX0_reasonAgainstClaim_44 : decode cX0_reasonAgainstClaim 44 = .ok (.ishl, 1) := by decide +kernel
theorem dX0_reasonAgainstClaim_45 : decode cX0_reasonAgainstClaim 45 = .ok (.iand, 1) := by decide +kernel
theorem dX0_reasonAgainstClaim_46 : decode cX0_reasonAgainstClaim 46 = .ok (.ifCond .eq 5, 3) := by decide +kernel
theorem dX0_reasonAgainstClaim_49 : decode cX0_reasonAgainstClaim 49 = .ok (.iconst 2, 1) := by decide +kernel
theorem dX0_reasonAgainstClaim_50 : decode cX0_reasonAgainstClaim 50 = .ok (.ireturn, 1) := by decide +kernel
theorem dX0_reasonAgainstClaim_51 : decode cX0_reasonAgainstClaim 51 = .ok (.aload_n 0, 1) := by decide +kernel
theorem dX0_reasonAgainstClaim_52 : decode cX0_reasonAgainstClaim 52 = .ok (.getfield 12, 3) := by decide +kernel
theorem dX0_reasonAgainstClaim_55 : decode cX0_reasonAgainstClaim 55 = .ok (.iload_n 1, 1) := by decide +kernel
theorem dX0_reasonAgainstClaim_56 : decode cX0_reasonAgainstClaim 56 = .ok (.iload_n 2, 1) := by decide +kernel
theorem dX0_reasonAgainstClaim_57 : decode cX0_reasonAgainstClaim 57 = .ok (.aload_n 0, 1) := by decide +kernel
theorem dX0_reasonAgainstClaim_58 : decode cX0_reasonAgainstClaim 58 = .ok (.getfield 21, 3) := by decide +kernel
theorem dX0_reasonAgainstClaim_61 : decode cX0_reasonAgainstClaim 61 = .ok (.getfield 120, 3) := by decide +kernel
theorem dX0_reasonAgainstClaim_64 : decode cX0_reasonAgainstClaim 64 = .ok (.invokevirtual 123, 3) := by decide +kernel
theorem dX0_reasonAgainstClaim_67 : decode cX0_reasonAgainstClaim 67 = .ok (.ifCond .le 28, 3) := by decide +kernel
theorem dX0_reasonAgainstClaim_70 : decode cX0_reasonAgainstClaim 70 = .ok (.aload_n 0, 1) := by decide +kernel
theorem dX0_reasonAgainstClaim_71 : decode cX0_reasonAgainstClaim 71 = .ok (.getfield 12, 3) := by decide +kernel
theorem dX0_reasonAgainstClaim_74 : decode cX0_reasonAgainstClaim 74 = .ok (.iload_n 1, 1) := by decide +kernel
theorem dX0_reasonAgainstClaim_75 : decode cX0_reasonAgainstClaim 75 = .ok (.iload_n 2, 1) := by decide +kernel
theorem dX0_reasonAgainstClaim_76 : decode cX0_reasonAgainstClaim 76 = .ok (.aload_n 0, 1) := by decide +kernel
theorem dX0_reasonAgainstClaim_77 : decode cX0_reasonAgainstClaim 77 = .ok (.getfield 21, 3) := by decide +kernel
theorem dX0_reasonAgainstClaim_80 : decode cX0_reasonAgainstClaim 80 = .ok (.getfield 127, 3) := by decide +kernel
theorem dX0_reasonAgainstClaim_83 : decode cX0_reasonAgainstClaim 83 = .ok (.invokevirtual 123, 3) := by decide +kernel
theorem dX0_reasonAgainstClaim_86 : decode cX0_reasonAgainstClaim 86 = .ok (.ifCond .ne 7, 3) := by decide +kernel
theorem dX0_reasonAgainstClaim_89 : decode cX0_reasonAgainstClaim 89 = .ok (.iconst 3, 1) := by decide +kernel
theorem dX0_reasonAgainstClaim_90 : decode cX0_reasonAgainstClaim 90 = .ok (.goto 4, 3) := by decide +kernel
theorem dX0_reasonAgainstClaim_93 : decode cX0_reasonAgainstClaim 93 = .ok (.iconst 4, 1) := by decide +kernel
theorem dX0_reasonAgainstClaim_94 : decode cX0_reasonAgainstClaim 94 = .ok (.ireturn, 1) := by decide +kernel
theorem dX0_reasonAgainstClaim_95 : decode cX0_reasonAgainstClaim 95 = .ok (.aload_n 0, 1) := by decide +kernel
theorem dX0_reasonAgainstClaim_96 : decode cX0_reasonAgainstClaim 96 = .ok (.getfield 32, 3) := by decide +kernel
theorem dX0_reasonAgainstClaim_99 : decode cX0_reasonAgainstClaim 99 = .ok (.iconst 2, 1) := by decide +kernel
theorem dX0_reasonAgainstClaim_100 : decode cX0_reasonAgainstClaim 100 = .ok (.iaload, 1) := by decide +kernel
theorem dX0_reasonAgainstClaim_101 : decode cX0_reasonAgainstClaim 101 = .ok (.iconst 1, 1) := by decide +kernel
theorem dX0_reasonAgainstClaim_102 : decode cX0_reasonAgainstClaim 102 = .ok (.if_icmp .ne 16, 3) := by decide +kernel
theorem dX0_reasonAgainstClaim_105 : decode cX0_reasonAgainstClaim 105 = .ok (.aload_n 0, 1) := by decide +kernel
theorem dX0_reasonAgainstClaim_106 : decode cX0_reasonAgainstClaim 106 = .ok (.iload_n 1, 1) := by decide +kernel
theorem dX0_reasonAgainstClaim_107 : decode cX0_reasonAgainstClaim 107 = .ok (.iload_n 2, 1) := by decide +kernel
theorem dX0_reasonAgainstClaim_108 : decode cX0_reasonAgainstClaim 108 = .ok (.invokevirtual 130, 3) := by decide +kernel
theorem dX0_reasonAgainstClaim_111 : decode cX0_reasonAgainstClaim 111 = .ok (.ifCond .ne 7, 3) := by decide +kernel
theorem dX0_reasonAgainstClaim_114 : decode cX0_reasonAgainstClaim 114 = .ok (.iconst 5, 1) := by decide +kernel
theorem dX0_reasonAgainstClaim_115 : decode cX0_reasonAgainstClaim 115 = .ok (.goto 4, 3) := by decide +kernel
theorem dX0_reasonAgainstClaim_118 : decode cX0_reasonAgainstClaim 118 = .ok (.iconst 0, 1) := by decide +kernel
theorem dX0_reasonAgainstClaim_119 : decode cX0_reasonAgainstClaim 119 = .ok (.ireturn, 1) := by decide +kernel
theorem dX0_isHeldByLastBall_0 : decode cX0_isHeldByLastBall 0 = .ok (.aload_n 0, 1) := by decide +kernel
theorem dX0_isHeldByLastBall_1 : decode cX0_isHeldByLastBall 1 = .ok (.getfield 21, 3) := by decide +kernel
theorem dX0_isHeldByLastBall_4 : decode cX0_isHeldByLastBall 4 = .ok (.invokevirtual 134, 3) := by decide +kernel
theorem dX0_isHeldByLastBall_7 : decode cX0_isHeldByLastBall 7 = .ok (.istore_n 3, 1) := by decide +kernel
theorem dX0_isHeldByLastBall_8 : decode cX0_isHeldByLastBall 8 = .ok (.aload_n 0, 1) := by decide +kernel
theorem dX0_isHeldByLastBall_9 : decode cX0_isHeldByLastBall 9 = .ok (.getfield 12, 3) := by decide +kernel
theorem dX0_isHeldByLastBall_12 : decode cX0_isHeldByLastBall 12 = .ok (.iload_n 1, 1) := by decide +kernel
theorem dX0_isHeldByLastBall_13 : decode cX0_isHeldByLastBall 13 = .ok (.iload_n 3, 1) := by decide +kernel
theorem dX0_isHeldByLastBall_14 : decode cX0_isHeldByLastBall 14 = .ok (.invokevirtual 138, 3) := by decide +kernel
theorem dX0_isHeldByLastBall_17 : decode cX0_isHeldByLastBall 17 = .ok (.ifCond .ne 5, 3) := by decide +kernel
theorem dX0_isHeldByLastBall_20 : decode cX0_isHeldByLastBall 20 = .ok (.iconst 0, 1) := by decide +kernel
theorem dX0_isHeldByLastBall_21 : decode cX0_isHeldByLastBall 21 = .ok (.ireturn, 1) := by decide +kernel
theorem dX0_isHeldByLastBall_22 : decode cX0_isHeldByLastBall 22 = .ok (.iload_n 2, 1) := by decide +kernel
theorem dX0_isHeldByLastBall_23 : decode cX0_isHeldByLastBall 23 = .ok (.iconst 1, 1) := by decide +kernel
theorem dX0_isHeldByLastBall_24 : decode cX0_isHeldByLastBall 24 = .ok (.if_icmp .ne 12, 3) := by decide +kernel
theorem dX0_isHeldByLastBall_27 : decode cX0_isHeldByLastBall 27 = .ok (.aload_n 0, 1) := by decide +kernel
theorem dX0_isHeldByLastBall_28 : decode cX0_isHeldByLastBall 28 = .ok (.getfield 12, 3) := by decide +kernel
theorem dX0_isHeldByLastBall_31 : decode cX0_isHeldByLastBall 31 = .ok (.iload_n 3, 1) := by decide +kernel
theorem dX0_isHeldByLastBall_32 : decode cX0_isHeldByLastBall 32 = .ok (.invokevirtual 141, 3) := by decide +kernel
theorem dX0_isHeldByLastBall_35 : decode cX0_isHeldByLastBall 35 = .ok (.ireturn, 1) := by decide +kernel
theorem dX0_isHeldByLastBall_36 : decode cX0_isHeldByLastBall 36 = .ok (.aload_n 0, 1) := by decide +kernel
theorem dX0_isHeldByLastBall_37 : decode cX0_isHeldByLastBall 37 = .ok (.getfield 12, 3) := by decide +kernel
theorem dX0_isHeldByLastBall_40 : decode cX0_isHeldByLastBall 40 = .ok (.aload_n 0, 1) := by decide +kernel
theorem dX0_isHeldByLastBall_41 : decode cX0_isHeldByLastBall 41 = .ok (.getfield 12, 3) := by decide +kernel
theorem dX0_isHeldByLastBall_44 : decode cX0_isHeldByLastBall 44 = .ok (.getfield 144, 3) := by decide +kernel
theorem dX0_isHeldByLastBall_47 : decode cX0_isHeldByLastBall 47 = .ok (.iload_n 3, 1) := by decide +kernel
theorem dX0_isHeldByLastBall_48 : decode cX0_isHeldByLastBall 48 = .ok (.iaload, 1) := by decide +kernel
theorem dX0_isHeldByLastBall_49 : decode cX0_isHeldByLastBall 49 = .ok (.aload_n 0, 1) := by decide +kernel
theorem dX0_isHeldByLastBall_50 : decode cX0_isHeldByLastBall 50 = .ok (.getfield 21, 3) := by decide +kernel
theorem dX0_isHeldByLastBall_53 : decode cX0_isHeldByLastBall 53 = .ok (.getfield 120, 3) := by decide +kernel
theorem dX0_isHeldByLastBall_56 : decode cX0_isHeldByLastBall 56 = .ok (.invokevirtual 147, 3) := by decide +kernel
theorem dX0_isHeldByLastBall_59 : decode cX0_isHeldByLastBall 59 = .ok (.ifCond .ne 7, 3) := by decide +kernel
theorem dX0_isHeldByLastBall_62 : decode cX0_isHeldByLastBall 62 = .ok (.iconst 1, 1) := by decide +kernel
theorem dX0_isHeldByLastBall_63 : decode cX0_isHeldByLastBall 63 = .ok (.goto 4, 3) := by decide +kernel
theorem dX0_isHeldByLastBall_66 : decode cX0_isHeldByLastBall 66 = .ok (.iconst 0, 1) := by decide +kernel
theorem dX0_isHeldByLastBall_67 : decode cX0_isHeldByLastBall 67 = .ok (.ireturn, 1) := by decide +kernel
theorem dX0_settleClaim_0 : decode cX0_settleClaim 0 = .ok (.aload_n 0, 1) := by decide +kernel
theorem dX0_settleClaim_1 : decode cX0_settleClaim 1 = .ok (.iload_n 1, 1) := by decide +kernel
theorem dX0_settleClaim_2 : decode cX0_settleClaim 2 = .ok (.iload_n 2, 1) := by decide +kernel
theorem dX0_settleClaim_3 : decode cX0_settleClaim 3 = .ok (.invokevirtual 151, 3) := by decide +kernel
theorem dX0_settleClaim_6 : decode cX0_settleClaim 6 = .ok (.istore_n 3, 1) := by decide +kernel
theorem dX0_settleClaim_7 : decode cX0_settleClaim 7 = .ok (.iload_n 3, 1) := by decide +kernel
theorem dX0_settleClaim_8 : decode cX0_settleClaim 8 = .ok (.ifCond .ne 50, 3) := by decide +kernel
theorem dX0_settleClaim_11 : decode cX0_settleClaim 11 = .ok (.aload_n 0, 1) := by decide +kernel
theorem dX0_settleClaim_12 : decode cX0_settleClaim 12 = .ok (.getfield 21, 3) := by decide +kernel
theorem dX0_settleClaim_15 : decode cX0_settleClaim 15 = .ok (.getfield 114, 3) := by decide +kernel
theorem dX0_settleClaim_18 : decode cX0_settleClaim 18 = .ok (.iload_n 2, 1) := by decide +kernel
theorem dX0_settleClaim_19 : decode cX0_settleClaim 19 = .ok (.dup2, 1) := by decide +kernel
theorem dX0_settleClaim_20 : decode cX0_settleClaim 20 = .ok (.iaload, 1) := by decide +kernel
theorem dX0_settleClaim_21 : decode cX0_settleClaim 21 = .ok (.iconst 1, 1) := by decide +kernel
theorem dX0_settleClaim_22 : decode cX0_settleClaim 22 = .ok (.iload_n 1, 1) := by decide +kernel
theorem dX0_settleClaim_23 : decode cX0_settleClaim 23 = .ok (.ishl, 1) := by decide +kernel
theorem dX0_settleClaim_24 : decode cX0_settleClaim 24 = .ok (.ior, 1) := by decide +kernel
theorem dX0_settleClaim_25 : decode cX0_settleClaim 25 = .ok (.iastore, 1) := by decide +kernel
theorem dX0_settleClaim_26 : decode cX0_settleClaim 26 = .ok (.aload_n 0, 1) := by decide +kernel
theorem dX0_settleClaim_27 : decode cX0_settleClaim 27 = .ok (.getfield 21, 3) := by decide +kernel
theorem dX0_settleClaim_30 : decode cX0_settleClaim 30 = .ok (.getfield 117, 3) := by decide +kernel
theorem dX0_settleClaim_33 : decode cX0_settleClaim 33 = .ok (.iload_n 2, 1) := by decide +kernel
theorem dX0_settleClaim_34 : decode cX0_settleClaim 34 = .ok (.aload_n 0, 1) := by decide +kernel
theorem dX0_settleClaim_35 : decode cX0_settleClaim 35 = .ok (.getfield 21, 3) := by decide +kernel
theorem dX0_settleClaim_38 : decode cX0_settleClaim 38 = .ok (.getfield 98, 3) := by decide +kernel
theorem dX0_settleClaim_41 : decode cX0_settleClaim 41 = .ok (.iastore, 1) := by decide +kernel
theorem dX0_settleClaim_42 : decode cX0_settleClaim 42 = .ok (.aload_n 0, 1) := by decide +kernel
theorem dX0_settleClaim_43 : decode cX0_settleClaim 43 = .ok (.getfield 28, 3) := by decide +kernel
theorem dX0_settleClaim_46 : decode cX0_settleClaim 46 = .ok (.dup, 1) := by decide +kernel
theorem dX0_settleClaim_47 : decode cX0_settleClaim 47 = .ok (.getfield 154, 3) := by decide +kernel
theorem dX0_settleClaim_50 : decode cX0_settleClaim 50 = .ok (.iconst 1, 1) := by decide +kernel
theorem dX0_settleClaim_51 : decode cX0_settleClaim 51 = .ok (.iadd, 1) := by decide +kernel
theorem dX0_settleClaim_52 : decode cX0_settleClaim 52 = .ok (.putfield 154, 3) := by decide +kernel
theorem dX0_settleClaim_55 : decode cX0_settleClaim 55 = .ok (.goto 29, 3) := by decide +kernel
theorem dX0_settleClaim_58 : decode cX0_settleClaim 58 = .ok (.aload_n 0, 1) := by decide +kernel
theorem dX0_settleClaim_59 : decode cX0_settleClaim 59 = .ok (.getfield 28, 3) := by decide +kernel
theorem dX0_settleClaim_62 : decode cX0_settleClaim 62 = .ok (.dup, 1) := by decide +kernel
theorem dX0_settleClaim_63 : decode cX0_settleClaim 63 = .ok (.getfield 157, 3) := by decide +kernel
theorem dX0_settleClaim_66 : decode cX0_settleClaim 66 = .ok (.iconst 1, 1) := by decide +kernel
theorem dX0_settleClaim_67 : decode cX0_settleClaim 67 = .ok (.iadd, 1) := by decide +kernel
theorem dX0_settleClaim_68 : decode cX0_settleClaim 68 = .ok (.putfield 157, 3) := by decide +kernel
theorem dX0_settleClaim_71 : decode cX0_settleClaim 71 = .ok (.aload_n 0, 1) := by decide +kernel
theorem dX0_settleClaim_72 : decode cX0_settleClaim 72 = .ok (.getfield 28, 3) := by decide +kernel
theorem dX0_settleClaim_75 : decode cX0_settleClaim 75 = .ok (.getfield 160, 3) := by decide +kernel
theorem dX0_settleClaim_78 : decode cX0_settleClaim 78 = .ok (.iload_n 1, 1) := by decide +kernel
theorem dX0_settleClaim_79 : decode cX0_settleClaim 79 = .ok (.dup2, 1) := by decide +kernel
theorem dX0_settleClaim_80 : decode cX0_settleClaim 80 = .ok (.iaload, 1) := by decide +kernel
theorem dX0_settleClaim_81 : decode cX0_settleClaim 81 = .ok (.iconst 1, 1) := by decide +kernel
theorem dX0_settleClaim_82 : decode cX0_settleClaim 82 = .ok (.iadd, 1) := by decide +kernel
theorem dX0_settleClaim_83 : decode cX0_settleClaim 83 = .ok (.iastore, 1) := by decide +kernel
theorem dX0_settleClaim_84 : decode cX0_settleClaim 84 = .ok (.iload_n 3, 1) := by decide +kernel
theorem dX0_settleClaim_85 : decode cX0_settleClaim 85 = .ok (.ireturn, 1) := by decide +kernel
theorem dX0_prizeForEach_0 : decode cX0_prizeForEach 0 = .ok (.aload_n 0, 1) := by decide +kernel
theorem dX0_prizeForEach_1 : decode cX0_prizeForEach 1 = .ok (.getfield 21, 3) := by decide +kernel
theorem dX0_prizeForEach_4 : decode cX0_prizeForEach 4 = .ok (.getfield 114, 3) := by decide +kernel
theorem dX0_prizeForEach_7 : decode cX0_prizeForEach 7 = .ok (.iload_n 1, 1) := by decide +kernel
theorem dX0_prizeForEach_8 : decode cX0_prizeForEach 8 = .ok (.iaload, 1) := by decide +kernel
theorem dX0_prizeForEach_9 : decode cX0_prizeForEach 9 = .ok (.invokestatic 163, 3) := by decide +kernel
theorem dX0_prizeForEach_12 : decode cX0_prizeForEach 12 = .ok (.istore_n 2, 1) := by decide +kernel
theorem dX0_prizeForEach_13 : decode cX0_prizeForEach 13 = .ok (.iload_n 2, 1) := by decide +kernel
theorem dX0_prizeForEach_14 : decode cX0_prizeForEach 14 = .ok (.ifCond .ne 7, 3) := by decide +kernel
theorem dX0_prizeForEach_17 : decode cX0_prizeForEach 17 = .ok (.iconst 0, 1) := by decide +kernel
theorem dX0_prizeForEach_18 : decode cX0_prizeForEach 18 = .ok (.goto 21, 3) := by decide +kernel
theorem dX0_prizeForEach_21 : decode cX0_prizeForEach 21 = .ok (.aload_n 0, 1) := by decide +kernel
theorem dX0_prizeForEach_22 : decode cX0_prizeForEach 22 = .ok (.getfield 28, 3) := by decide +kernel
theorem dX0_prizeForEach_25 : decode cX0_prizeForEach 25 = .ok (.getfield 168, 3) := by decide +kernel
theorem dX0_prizeForEach_28 : decode cX0_prizeForEach 28 = .ok (.getstatic 171, 3) := by decide +kernel
theorem dX0_prizeForEach_31 : decode cX0_prizeForEach 31 = .ok (.iload_n 1, 1) := by decide +kernel
theorem dX0_prizeForEach_32 : decode cX0_prizeForEach 32 = .ok (.iaload, 1) := by decide +kernel
theorem dX0_prizeForEach_33 : decode cX0_prizeForEach 33 = .ok (.imul, 1) := by decide +kernel
theorem dX0_prizeForEach_34 : decode cX0_prizeForEach 34 = .ok (.bipush 100, 2) := by decide +kernel
theorem dX0_prizeForEach_36 : decode cX0_prizeForEach 36 = .ok (.idiv, 1) := by decide +kernel
theorem dX0_prizeForEach_37 : decode cX0_prizeForEach 37 = .ok (.iload_n 2, 1) := by decide +kernel
theorem dX0_prizeForEach_38 : decode cX0_prizeForEach 38 = .ok (.idiv, 1) := by decide +kernel
theorem dX0_prizeForEach_39 : decode cX0_prizeForEach 39 = .ok (.ireturn, 1) := by decide +kernel
theorem dX0_payAndBeginAnew_0 : decode cX0_payAndBeginAnew 0 = .ok (.aload_n 0, 1) := by decide +kernel
theorem dX0_payAndBeginAnew_1 : decode cX0_payAndBeginAnew 1 = .ok (.getfield 28, 3) := by decide +kernel
theorem dX0_payAndBeginAnew_4 : decode cX0_payAndBeginAnew 4 = .ok (.getfield 168, 3) := by decide +kernel
theorem dX0_payAndBeginAnew_7 : decode cX0_payAndBeginAnew 7 = .ok (.istore_n 1, 1) := by decide +kernel
theorem dX0_payAndBeginAnew_8 : decode cX0_payAndBeginAnew 8 = .ok (.iconst 0, 1) := by decide +kernel
theorem dX0_payAndBeginAnew_9 : decode cX0_payAndBeginAnew 9 = .ok (.istore_n 2, 1) := by decide +kernel
theorem dX0_payAndBeginAnew_10 : decode cX0_payAndBeginAnew 10 = .ok (.iload_n 2, 1) := by decide +kernel
theorem dX0_payAndBeginAnew_11 : decode cX0_payAndBeginAnew 11 = .ok (.iconst 4, 1) := by decide +kernel
theorem dX0_payAndBeginAnew_12 : decode cX0_payAndBeginAnew 12 = .ok (.if_icmp .ge 79, 3) := by decide +kernel
theorem dX0_payAndBeginAnew_15 : decode cX0_payAndBeginAnew 15 = .ok (.aload_n 0, 1) := by decide +kernel
theorem dX0_payAndBeginAnew_16 : decode cX0_payAndBeginAnew 16 = .ok (.iload_n 2, 1) := by decide +kernel
theorem dX0_payAndBeginAnew_17 : decode cX0_payAndBeginAnew 17 = .ok (.invokevirtual 174, 3) := by decide +kernel
theorem dX0_payAndBeginAnew_20 : decode cX0_payAndBeginAnew 20 = .ok (.istore_n 3, 1) := by decide +kernel
theorem dX0_payAndBeginAnew_21 : decode cX0_payAndBeginAnew 21 = .ok (.iconst 0, 1) := by decide +kernel
theorem dX0_payAndBeginAnew_22 : decode cX0_payAndBeginAnew 22 = .ok (.istore 4, 2) := by decide +kernel
theorem dX0_payAndBeginAnew_24 : decode cX0_payAndBeginAnew 24 = .ok (.iload 4, 2) := by decide +kernel
theorem dX0_payAndBeginAnew_26 : decode cX0_payAndBeginAnew 26 = .ok (.bipush 6, 2) := by decide +kernel
theorem dX0_payAndBeginAnew_28 : decode cX0_payAndBeginAnew 28 = .ok (.if_icmp .ge 57, 3) := by decide +kernel
theorem dX0_payAndBeginAnew_31 : decode cX0_payAndBeginAnew 31 = .ok (.aload_n 0, 1) := by decide +kernel
theorem dX0_payAndBeginAnew_32 : decode cX0_payAndBeginAnew 32 = .ok (.getfield 21, 3) := by decide +kernel
theorem dX0_payAndBeginAnew_35 : decode cX0_payAndBeginAnew 35 = .ok (.getfield 114, 3) := by decide +kernel
theorem dX0_payAndBeginAnew_38 : decode cX0_payAndBeginAnew 38 = .ok (.iload_n 2, 1) := by decide +kernel
theorem dX0_payAndBeginAnew_39 : decode cX0_payAndBeginAnew 39 = .ok (.iaload, 1) := by decide +kernel
theorem dX0_payAndBeginAnew_40 : decode cX0_payAndBeginAnew 40 = .ok (.iconst 1, 1) := by decide +kernel
theorem dX0_payAndBeginAnew_41 : decode cX0_payAndBeginAnew 41 = .ok (.iload 4, 2) := by decide +kernel
theorem dX0_payAndBeginAnew_43 : decode cX0_payAndBeginAnew 43 = .ok (.ishl, 1) := by decide +kernel
theorem dX0_payAndBeginAnew_44 : decode cX0_payAndBeginAnew 44 = .ok (.iand, 1) := by decide +kernel
theorem dX0_payAndBeginAnew_45 : decode cX0_payAndBeginAnew 45 = .ok (.ifCond .eq 34, 3) := by decide +kernel
theorem dX0_payAndBeginAnew_48 : decode cX0_payAndBeginAnew 48 = .ok (.aload_n 0, 1) := by decide +kernel
theorem dX0_payAndBeginAnew_49 : decode cX0_payAndBeginAnew 49 = .ok (.getfield 28, 3) := by decide +kernel
theorem dX0_payAndBeginAnew_52 : decode cX0_payAndBeginAnew 52 = .ok (.getfield 177, 3) := by decide +kernel
theorem dX0_payAndBeginAnew_55 : decode cX0_payAndBeginAnew 55 = .ok (.iload 4, 2) := by decide +kernel
theorem dX0_payAndBeginAnew_57 : decode cX0_payAndBeginAnew 57 = .ok (.dup2, 1) := by decide +kernel
theorem dX0_payAndBeginAnew_58 : decode cX0_payAndBeginAnew 58 = .ok (.iaload, 1) := by decide +kernel
theorem dX0_payAndBeginAnew_59 : decode cX0_payAndBeginAnew 59 = .ok (.iload_n 3, 1) := by decide +kernel
theorem dX0_payAndBeginAnew_60 : decode cX0_payAndBeginAnew 60 = .ok (.iadd, 1) := by decide +kernel
theorem dX0_payAndBeginAnew_61 : decode cX0_payAndBeginAnew 61 = .ok (.iastore, 1) := by decide +kernel
theorem dX0_payAndBeginAnew_62 : decode cX0_payAndBeginAnew 62 = .ok (.aload_n 0, 1) := by decide +kernel
theorem dX0_payAndBeginAnew_63 : decode cX0_payAndBeginAnew 63 = .ok (.getfield 28, 3) := by decide +kernel
theorem dX0_payAndBeginAnew_66 : decode cX0_payAndBeginAnew 66 = .ok (.dup, 1) := by decide +kernel
theorem dX0_payAndBeginAnew_67 : decode cX0_payAndBeginAnew 67 = .ok (.getfield 180, 3) := by decide +kernel
theorem dX0_payAndBeginAnew_70 : decode cX0_payAndBeginAnew 70 = .ok (.iload_n 3, 1) := by decide +kernel
theorem dX0_payAndBeginAnew_71 : decode cX0_payAndBeginAnew 71 = .ok (.iadd, 1) := by decide +kernel
theorem dX0_payAndBeginAnew_72 : decode cX0_payAndBeginAnew 72 = .ok (.putfield 180, 3) := by decide +kernel
theorem dX0_payAndBeginAnew_75 : decode cX0_payAndBeginAnew 75 = .ok (.iload_n 1, 1) := by decide +kernel
theorem dX0_payAndBeginAnew_76 : decode cX0_payAndBeginAnew 76 = .ok (.iload_n 3, 1) := by decide +kernel
theorem dX0_payAndBeginAnew_77 : decode cX0_payAndBeginAnew 77 = .ok (.isub, 1) := by decide +kernel
theorem dX0_payAndBeginAnew_78 : decode cX0_payAndBeginAnew 78 = .ok (.istore_n 1, 1) := by decide +kernel
theorem dX0_payAndBeginAnew_79 : decode cX0_payAndBeginAnew 79 = .ok (.iinc 4 1, 3) := by decide +kernel
theorem dX0_payAndBeginAnew_82 : decode cX0_payAndBeginAnew 82 = .ok (.goto (-58), 3) := by decide +kernel
theorem dX0_payAndBeginAnew_85 : decode cX0_payAndBeginAnew 85 = .ok (.iinc 2 1, 3) := by decide +kernel
theorem dX0_payAndBeginAnew_88 : decode cX0_payAndBeginAnew 88 = .ok (.goto (-78), 3) := by decide +kernel
theorem dX0_payAndBeginAnew_91 : decode cX0_payAndBeginAnew 91 = .ok (.aload_n 0, 1) := by decide +kernel
theorem dX0_payAndBeginAnew_92 : decode cX0_payAndBeginAnew 92 = .ok (.getfield 28, 3) := by decide +kernel
theorem dX0_payAndBeginAnew_95 : decode cX0_payAndBeginAnew 95 = .ok (.iload_n 1, 1) := by decide +kernel
theorem dX0_payAndBeginAnew_96 : decode cX0_payAndBeginAnew 96 = .ok (.invokevirtual 183, 3) := by decide +kernel
theorem dX0_payAndBeginAnew_99 : decode cX0_payAndBeginAnew 99 = .ok (.aload_n 0, 1) := by decide +kernel
theorem dX0_payAndBeginAnew_100 : decode cX0_payAndBeginAnew 100 = .ok (.getfield 21, 3) := by decide +kernel
theorem dX0_payAndBeginAnew_103 : decode cX0_payAndBeginAnew 103 = .ok (.invokevirtual 187, 3) := by decide +kernel
theorem dX0_payAndBeginAnew_106 : decode cX0_payAndBeginAnew 106 = .ok (.iload_n 1, 1) := by decide +kernel
theorem dX0_payAndBeginAnew_107 : decode cX0_payAndBeginAnew 107 = .ok (.ireturn, 1) := by decide +kernel
theorem dX1_init_0 : decode cX1_init 0 = .ok (.aload_n 0, 1) := by decide +kernel
theorem dX1_init_1 : decode cX1_init 1 = .ok (.invokespecial 3, 3) := by decide +kernel
theorem dX1_init_4 : decode cX1_init 4 = .ok (.aload_n 0, 1) := by decide +kernel
theorem dX1_init_5 : decode cX1_init 5 = .ok (.sipush 162, 3) := by decide +kernel
theorem dX1_init_8 : decode cX1_init 8 = .ok (.newarray .int, 2) := by decide +kernel
theorem dX1_init_10 : decode cX1_init 10 = .ok (.putfield 9, 3) := by decide +kernel
theorem dX1_init_13 : decode cX1_init 13 = .ok (.aload_n 0, 1) := by decide +kernel
theorem dX1_init_14 : decode cX1_init 14 = .ok (.bipush 91, 2) := by decide +kernel
theorem dX1_init_16 : decode cX1_init 16 = .ok (.newarray .int, 2) := by decide +kernel
theorem dX1_init_18 : decode cX1_init 18 = .ok (.putfield 15, 3) := by decide +kernel
theorem dX1_init_21 : decode cX1_init 21 = .ok (.aload_n 0, 1) := by decide +kernel
theorem dX1_init_22 : decode cX1_init 22 = .ok (.getfield 15, 3) := by decide +kernel
theorem dX1_init_25 : decode cX1_init 25 = .ok (.iconst (-1), 1) := by decide +kernel
theorem dX1_init_26 : decode cX1_init 26 = .ok (.invokestatic 18, 3) := by decide +kernel
theorem dX1_init_29 : decode cX1_init 29 = .ok (.return_, 1) := by decide +kernel
theorem dX1_copyFrom_0 : decode cX1_copyFrom 0 = .ok (.aload_n 1, 1) := by decide +kernel
theorem dX1_copyFrom_1 : decode cX1_copyFrom 1 = .ok (.getfield 9, 3) := by decide +kernel
theorem dX1_copyFrom_4 : decode cX1_copyFrom 4 = .ok (.iconst 0, 1) := by decide +kernel
theorem dX1_copyFrom_5 : decode cX1_copyFrom 5 = .ok (.aload_n 0, 1) := by decide +kernel
theorem dX1_copyFrom_6 : decode cX1_copyFrom 6 = .ok (.getfield 9, 3) := by decide +kernel
theorem dX1_copyFrom_9 : decode cX1_copyFrom 9 = .ok (.iconst 0, 1) := by decide +kernel
theorem dX1_copyFrom_10 : decode cX1_copyFrom 10 = .ok (.sipush 162, 3) := by decide +kernel
theorem dX1_copyFrom_13 : decode cX1_copyFrom 13 = .ok (.invokestatic 24, 3) := by decide +kernel
theorem dX1_copyFrom_16 : decode cX1_copyFrom 16 = .ok (.aload_n 1, 1) := by decide +kernel
theorem dX1_copyFrom_17 : decode cX1_copyFrom 17 = .ok (.getfield 15, 3) := by decide +kernel
theorem dX1_copyFrom_20 : decode cX1_copyFrom 20 = .ok (.iconst 0, 1) := by decide +kernel
theorem dX1_copyFrom_21 : decode cX1_copyFrom 21 = .ok (.aload_n 0, 1) := by decide +kernel
theorem dX1_copyFrom_22 : decode cX1_copyFrom 22 = .ok (.getfield 15, 3) := by decide +kernel
theorem dX1_copyFrom_25 : decode cX1_copyFrom 25 = .ok (.iconst 0, 1) := by decide +kernel
theorem dX1_copyFrom_26 : decode cX1_copyFrom 26 = .ok (.bipush 91, 2) := by decide +kernel
theorem dX1_copyFrom_28 : decode cX1_copyFrom 28 = .ok (.invokestatic 24, 3) := by decide +kernel
theorem dX1_copyFrom_31 : decode cX1_copyFrom 31 = .ok (.aload_n 0, 1) := by decide +kernel
theorem dX1_copyFrom_32 : decode cX1_copyFrom 32 = .ok (.aload_n 1, 1) := by decide +kernel
theorem dX1_copyFrom_33 : decode cX1_copyFrom 33 = .ok (.getfield 30, 3) := by decide +kernel
theorem dX1_copyFrom_36 : decode cX1_copyFrom 36 = .ok (.putfield 30, 3) := by decide +kernel
theorem dX1_copyFrom_39 : decode cX1_copyFrom 39 = .ok (.return_, 1) := by decide +kernel
theorem dX1_columnOf_0 : decode cX1_columnOf 0 = .ok (.iload_n 0, 1) := by decide +kernel
theorem dX1_columnOf_1 : decode cX1_columnOf 1 = .ok (.bipush 90, 2) := by decide +kernel
theorem dX1_columnOf_3 : decode cX1_columnOf 3 = .ok (.if_icmp .ne 8, 3) := by decide +kernel
theorem dX1_columnOf_6 : decode cX1_columnOf 6 = .ok (.bipush 8, 2) := by decide +kernel
theorem dX1_columnOf_8 : decode cX1_columnOf 8 = .ok (.goto 7, 3) := by decide +kernel
theorem dX1_columnOf_11 : decode cX1_columnOf 11 = .ok (.iload_n 0, 1) := by decide +kernel
theorem dX1_columnOf_12 : decode cX1_columnOf 12 = .ok (.bipush 10, 2) := by decide +kernel
theorem dX1_columnOf_14 : decode cX1_columnOf 14 = .ok (.idiv, 1) := by decide +kernel
theorem dX1_columnOf_15 : decode cX1_columnOf 15 = .ok (.ireturn, 1) := by decide +kernel
theorem dX1_numberIn_0 : decode cX1_numberIn 0 = .ok (.aload_n 0, 1) := by decide +kernel
theorem dX1_numberIn_1 : decode cX1_numberIn 1 = .ok (.getfield 9, 3) := by decide +kernel
theorem dX1_numberIn_4 : decode cX1_numberIn 4 = .ok (.iload_n 1, 1) := by decide +kernel
theorem dX1_numberIn_5 : decode cX1_numberIn 5 = .ok (.bipush 9, 2) := by decide +kernel
theorem dX1_numberIn_7 : decode cX1_numberIn 7 = .ok (.imul, 1) := by decide +kernel
theorem dX1_numberIn_8 : decode cX1_numberIn 8 = .ok (.iload_n 2, 1) := by decide +kernel
theorem dX1_numberIn_9 : decode cX1_numberIn 9 = .ok (.iadd, 1) := by decide +kernel
theorem dX1_numberIn_10 : decode cX1_numberIn 10 = .ok (.iaload, 1) := by decide +kernel
theorem dX1_numberIn_11 : decode cX1_numberIn 11 = .ok (.ireturn, 1) := by decide +kernel
theorem dX1_standsIn_0 : decode cX1_standsIn 0 = .ok (.iload_n 2, 1) := by decide +kernel
theorem dX1_standsIn_1 : decode cX1_standsIn 1 = .ok (.invokestatic 34, 3) := by decide +kernel
theorem dX1_standsIn_4 : decode cX1_standsIn 4 = .ok (.ifCond .eq 29, 3) := by decide +kernel
theorem dX1_standsIn_7 : decode cX1_standsIn 7 = .ok (.aload_n 0, 1) := by decide +kernel
theorem dX1_standsIn_8 : decode cX1_standsIn 8 = .ok (.getfield 15, 3) := by decide +kernel
theorem dX1_standsIn_11 : decode cX1_standsIn 11 = .ok (.iload_n 2, 1) := by decide +kernel
theorem dX1_standsIn_12 : decode cX1_standsIn 12 = .ok (.iaload, 1) := by decide +kernel
theorem dX1_standsIn_13 : decode cX1_standsIn 13 = .ok (.iconst (-1), 1) := by decide +kernel
theorem dX1_standsIn_14 : decode cX1_standsIn 14 = .ok (.if_icmp .eq 19, 3) := by decide +kernel
theorem dX1_standsIn_17 : decode cX1_standsIn 17 = .ok (.aload_n 0, 1) := by decide +kernel
theorem dX1_standsIn_18 : decode cX1_standsIn 18 = .ok (.getfield 15, 3) := by decide +kernel
theorem dX1_standsIn_21 : decode cX1_standsIn 21 = .ok (.iload_n 2, 1) := by decide +kernel
theorem dX1_standsIn_22 : decode cX1_standsIn 22 = .ok (.iaload, 1) := by decide +kernel
theorem dX1_standsIn_23 : decode cX1_standsIn 23 = .ok (.iconst 3, 1) := by decide +kernel
theorem dX1_standsIn_24 : decode cX1_standsIn 24 = .ok (.idiv, 1) := by decide +kernel
theorem dX1_standsIn_25 : decode cX1_standsIn 25 = .ok (.iload_n 1, 1) := by decide +kernel
theorem dX1_standsIn_26 : decode cX1_standsIn 26 = .ok (.if_icmp .ne 7, 3) := by decide +kernel
theorem dX1_standsIn_29 : decode cX1_standsIn 29 = .ok (.iconst 1, 1) := by decide +kernel
theorem dX1_standsIn_30 : decode cX1_standsIn 30 = .ok (.goto 4, 3) := by decide +kernel
theorem dX1_standsIn_33 : decode cX1_standsIn 33 = .ok (.iconst 0, 1) := by decide +kernel
theorem dX1_standsIn_34 : decode cX1_standsIn 34 = .ok (.ireturn, 1) := by decide +kernel
theorem dX1_stand_0 : decode cX1_stand 0 = .ok (.aload_n 0, 1) := by decide +kernel
theorem dX1_stand_1 : decode cX1_stand 1 = .ok (.getfield 9, 3) := by decide +kernel
theorem dX1_stand_4 : decode cX1_stand 4 = .ok (.iload_n 1, 1) := by decide +kernel
theorem dX1_stand_5 : decode cX1_stand 5 = .ok (.bipush 9, 2) := by decide +kernel
theorem dX1_stand_7 : decode cX1_stand 7 = .ok (.imul, 1) := by decide +kernel
theorem dX1_stand_8 : decode cX1_stand 8 = .ok (.iload_n 2, 1) := by decide +kernel
theorem dX1_stand_9 : decode cX1_stand 9 = .ok (.invokestatic 38, 3) := by decide +kernel
theorem dX1_stand_12 : decode cX1_stand 12 = .ok (.iadd, 1) := by decide +kernel
theorem dX1_stand_13 : decode cX1_stand 13 = .ok (.iload_n 2, 1) := by decide +kernel
theorem dX1_stand_14 : decode cX1_stand 14 = .ok (.iastore, 1) := by decide +kernel
theorem dX1_stand_15 : decode cX1_stand 15 = .ok (.aload_n 0, 1) := by decide +kernel
theorem dX1_stand_16 : decode cX1_stand 16 = .ok (.getfield 15, 3) := by decide +kernel
theorem dX1_stand_19 : decode cX1_stand 19 = .ok (.iload_n 2, 1) := by decide +kernel
theorem dX1_stand_20 : decode cX1_stand 20 = .ok (.iload_n 1, 1) := by decide +kernel
theorem dX1_stand_21 : decode cX1_stand 21 = .ok (.iastore, 1) := by decide +kernel
theorem dX1_stand_22 : decode cX1_stand 22 = .ok (.aload_n 0, 1) := by decide +kernel
theorem dX1_stand_23 : decode cX1_stand 23 = .ok (.dup, 1) := by decide +kernel
theorem dX1_stand_24 : decode cX1_stand 24 = .ok (.getfield 30, 3) := by decide +kernel
theorem dX1_stand_27 : decode cX1_stand 27 = .ok (.iconst 1, 1) := by decide +kernel
theorem dX1_stand_28 : decode cX1_stand 28 = .ok (.iadd, 1) := by decide +kernel
theorem dX1_stand_29 : decode cX1_stand 29 = .ok (.putfield 30, 3) := by decide +kernel
theorem dX1_stand_32 : decode cX1_stand 32 = .ok (.return_, 1) := by decide +kernel
theorem dX1_lift_0 : decode cX1_lift 0 = .ok (.aload_n 0, 1) := by decide +kernel
theorem dX1_lift_1 : decode cX1_lift 1 = .ok (.getfield 9, 3) := by decide +kernel
theorem dX1_lift_4 : decode cX1_lift 4 = .ok (.aload_n 0, 1) := by decide +kernel
theorem dX1_lift_5 : decode cX1_lift 5 = .ok (.getfield 15, 3) := by decide +kernel
theorem dX1_lift_8 : decode cX1_lift 8 = .ok (.iload_n 1, 1) := by decide +kernel
theorem dX1_lift_9 : decode cX1_lift 9 = .ok (.iaload, 1) := by decide +kernel
theorem dX1_lift_10 : decode cX1_lift 10 = .ok (.bipush 9, 2) := by decide +kernel
theorem dX1_lift_12 : decode cX1_lift 12 = .ok (.imul, 1) := by decide +kernel
theorem dX1_lift_13 : decode cX1_lift 13 = .ok (.iload_n 1, 1) := by decide +kernel
theorem dX1_lift_14 : decode cX1_lift 14 = .ok (.invokestatic 38, 3) := by decide +kernel
theorem dX1_lift_17 : decode cX1_lift 17 = .ok (.iadd, 1) := by decide +kernel
theorem dX1_lift_18 : decode cX1_lift 18 = .ok (.iconst 0, 1) := by decide +kernel
theorem dX1_lift_19 : decode cX1_lift 19 = .ok (.iastore, 1) := by decide +kernel
theorem dX1_lift_20 : decode cX1_lift 20 = .ok (.aload_n 0, 1) := by decide +kernel
theorem dX1_lift_21 : decode cX1_lift 21 = .ok (.getfield 15, 3) := by decide +kernel
theorem dX1_lift_24 : decode cX1_lift 24 = .ok (.iload_n 1, 1) := by decide +kernel
theorem dX1_lift_25 : decode cX1_lift 25 = .ok (.iconst (-1), 1) := by decide +kernel
theorem dX1_lift_26 : decode cX1_lift 26 = .ok (.iastore, 1) := by decide +kernel
theorem dX1_lift_27 : decode cX1_lift 27 = .ok (.aload_n 0, 1) := by decide +kernel
theorem dX1_lift_28 : decode cX1_lift 28 = .ok (.dup, 1) := by decide +kernel
theorem dX1_lift_29 : decode cX1_lift 29 = .ok (.getfield 30, 3) := by decide +kernel
theorem dX1_lift_32 : decode cX1_lift 32 = .ok (.iconst 1, 1) := by decide +kernel
theorem dX1_lift_33 : decode cX1_lift 33 = .ok (.isub, 1) := by decide +kernel
theorem dX1_lift_34 : decode cX1_lift 34 = .ok (.putfield 30, 3) := by decide +kernel
theorem dX1_lift_37 : decode cX1_lift 37 = .ok (.return_, 1) := by decide +kernel
theorem dX1_reasonAgainst_0 : decode cX1_reasonAgainst 0 = .ok (.aload_n 0, 1) := by decide +kernel
theorem dX1_reasonAgainst_1 : decode cX1_reasonAgainst 1 = .ok (.getfield 15, 3) := by decide +kernel
theorem dX1_reasonAgainst_4 : decode cX1_reasonAgainst 4 = .ok (.iload_n 2, 1) := by decide +kernel
theorem dX1_reasonAgainst_5 : decode cX1_reasonAgainst 5 = .ok (.iaload, 1) := by decide +kernel
theorem dX1_reasonAgainst_6 : decode cX1_reasonAgainst 6 = .ok (.iconst (-1), 1) := by decide +kernel
theorem dX1_reasonAgainst_7 : decode cX1_reasonAgainst 7 = .ok (.if_icmp .eq 5, 3) := by decide +kernel
theorem dX1_reasonAgainst_10 : decode cX1_reasonAgainst 10 = .ok (.iconst 1, 1) := by decide +kernel
theorem dX1_reasonAgainst_11 : decode cX1_reasonAgainst 11 = .ok (.ireturn, 1) := by decide +kernel
theorem dX1_reasonAgainst_12 : decode cX1_reasonAgainst 12 = .ok (.aload_n 0, 1) := by decide +kernel
theorem dX1_reasonAgainst_13 : decode cX1_reasonAgainst 13 = .ok (.iload_n 1, 1) := by decide +kernel
theorem dX1_reasonAgainst_14 : decode cX1_reasonAgainst 14 = .ok (.iload_n 2, 1) := by decide +kernel
theorem dX1_reasonAgainst_15 : decode cX1_reasonAgainst 15 = .ok (.invokestatic 38, 3) := by decide +kernel
theorem dX1_reasonAgainst_18 : decode cX1_reasonAgainst 18 = .ok (.invokevirtual 42, 3) := by decide +kernel
theorem dX1_reasonAgainst_21 : decode cX1_reasonAgainst 21 = .ok (.ifCond .eq 5, 3) := by decide +kernel
theorem dX1_reasonAgainst_24 : decode cX1_reasonAgainst 24 = .ok (.iconst 2, 1) := by decide +kernel
theorem dX1_reasonAgainst_25 : decode cX1_reasonAgainst 25 = .ok (.ireturn, 1) := by decide +kernel
theorem dX1_reasonAgainst_26 : decode cX1_reasonAgainst 26 = .ok (.aload_n 0, 1) := by decide +kernel
theorem dX1_reasonAgainst_27 : decode cX1_reasonAgainst 27 = .ok (.iload_n 1, 1) := by decide +kernel
theorem dX1_reasonAgainst_28 : decode cX1_reasonAgainst 28 = .ok (.invokevirtual 46, 3) := by decide +kernel
theorem dX1_reasonAgainst_31 : decode cX1_reasonAgainst 31 = .ok (.iconst 5, 1) := by decide +kernel
theorem dX1_reasonAgainst_32 : decode cX1_reasonAgainst 32 = .ok (.if_icmp .ne 5, 3) := by decide +kernel
theorem dX1_reasonAgainst_35 : decode cX1_reasonAgainst 35 = .ok (.iconst 3, 1) := by decide +kernel
theorem dX1_reasonAgainst_36 : decode cX1_reasonAgainst 36 = .ok (.ireturn, 1) := by decide +kernel
theorem dX1_reasonAgainst_37 : decode cX1_reasonAgainst 37 = .ok (.aload_n 0, 1) := by decide +kernel
theorem dX1_reasonAgainst_38 : decode cX1_reasonAgainst 38 = .ok (.iload_n 1, 1) := by decide +kernel
theorem dX1_reasonAgainst_39 : decode cX1_reasonAgainst 39 = .ok (.iload_n 2, 1) := by decide +kernel
theorem dX1_reasonAgainst_40 : decode cX1_reasonAgainst 40 = .ok (.invokevirtual 49, 3) := by decide +kernel
theorem dX1_reasonAgainst_43 : decode cX1_reasonAgainst 43 = .ok (.ifCond .eq 7, 3) := by decide +kernel
theorem dX1_reasonAgainst_46 : decode cX1_reasonAgainst 46 = .ok (.iconst 4, 1) := by decide +kernel
theorem dX1_reasonAgainst_47 : decode cX1_reasonAgainst 47 = .ok (.goto 4, 3) := by decide +kernel
theorem dX1_reasonAgainst_50 : decode cX1_reasonAgainst 50 = .ok (.iconst 0, 1) := by decide +kernel
theorem dX1_reasonAgainst_51 : decode cX1_reasonAgainst 51 = .ok (.ireturn, 1) := by decide +kernel
theorem dX1_breaksColumn_0 : decode cX1_breaksColumn 0 = .ok (.iload_n 1, 1) := by decide +kernel
theorem dX1_breaksColumn_1 : decode cX1_breaksColumn 1 = .ok (.iconst 3, 1) := by decide +kernel
theorem dX1_breaksColumn_2 : decode cX1_breaksColumn 2 = .ok (.idiv, 1) := by decide +kernel
theorem dX1_breaksColumn_3 : decode cX1_breaksColumn 3 = .ok (.iconst 3, 1) := by decide +kernel
theorem dX1_breaksColumn_4 : decode cX1_breaksColumn 4 = .ok (.imul, 1) := by decide +kernel
theorem dX1_breaksColumn_5 : decode cX1_breaksColumn 5 = .ok (.istore_n 3, 1) := by decide +kernel
theorem dX1_breaksColumn_6 : decode cX1_breaksColumn 6 = .ok (.iload_n 2, 1) := by decide +kernel
theorem dX1_breaksColumn_7 : decode cX1_breaksColumn 7 = .ok (.invokestatic 38, 3) := by decide +kernel
theorem dX1_breaksColumn_10 : decode cX1_breaksColumn 10 = .ok (.istore 4, 2) := by decide +kernel
theorem dX1_breaksColumn_12 : decode cX1_breaksColumn 12 = .ok (.iload_n 3, 1) := by decide +kernel
theorem dX1_breaksColumn_13 : decode cX1_breaksColumn 13 = .ok (.istore 5, 2) := by decide +kernel
theorem dX1_breaksColumn_15 : decode cX1_breaksColumn 15 = .ok (.iload 5, 2) := by decide +kernel
theorem dX1_breaksColumn_17 : decode cX1_breaksColumn 17 = .ok (.iload_n 3, 1) := by decide +kernel
theorem dX1_breaksColumn_18 : decode cX1_breaksColumn 18 = .ok (.iconst 3, 1) := by decide +kernel
theorem dX1_breaksColumn_19 : decode cX1_breaksColumn 19 = .ok (.iadd, 1) := by decide +kernel
theorem dX1_breaksColumn_20 : decode cX1_breaksColumn 20 = .ok (.if_icmp .ge 55, 3) := by decide +kernel
theorem dX1_breaksColumn_23 : decode cX1_breaksColumn 23 = .ok (.aload_n 0, 1) := by decide +kernel
theorem dX1_breaksColumn_24 : decode cX1_breaksColumn 24 = .ok (.getfield 9, 3) := by decide +kernel
theorem dX1_breaksColumn_27 : decode cX1_breaksColumn 27 = .ok (.iload 5, 2) := by decide +kernel
theorem dX1_breaksColumn_29 : decode cX1_breaksColumn 29 = .ok (.bipush 9, 2) := by decide +kernel
theorem dX1_breaksColumn_31 : decode cX1_breaksColumn 31 = .ok (.imul, 1) := by decide +kernel
theorem dX1_breaksColumn_32 : decode cX1_breaksColumn 32 = .ok (.iload 4, 2) := by decide +kernel
theorem dX1_breaksColumn_34 : decode cX1_breaksColumn 34 = .ok (.iadd, 1) := by decide +kernel
theorem dX1_breaksColumn_35 : decode cX1_breaksColumn 35 = .ok (.iaload, 1) := by decide +kernel
theorem dX1_breaksColumn_36 : decode cX1_breaksColumn 36 = .ok (.istore 6, 2) := by decide +kernel
theorem dX1_breaksColumn_38 : decode cX1_breaksColumn 38 = .ok (.iload 6, 2) := by decide +kernel
theorem dX1_breaksColumn_40 : decode cX1_breaksColumn 40 = .ok (.ifCond .eq 29, 3) := by decide +kernel
theorem dX1_breaksColumn_43 : decode cX1_breaksColumn 43 = .ok (.iload 5, 2) := by decide +kernel
theorem dX1_breaksColumn_45 : decode cX1_breaksColumn 45 = .ok (.iload_n 1, 1) := by decide +kernel
theorem dX1_breaksColumn_46 : decode cX1_breaksColumn 46 = .ok (.if_icmp .ge 9, 3) := by decide +kernel
theorem dX1_breaksColumn_49 : decode cX1_breaksColumn 49 = .ok (.iload 6, 2) := by decide +kernel
theorem dX1_breaksColumn_51 : decode cX1_breaksColumn 51 = .ok (.iload_n 2, 1) := by decide +kernel
theorem dX1_breaksColumn_52 : decode cX1_breaksColumn 52 = .ok (.if_icmp .gt 15, 3) := by decide +kernel
theorem dX1_breaksColumn_55 : decode cX1_breaksColumn 55 = .ok (.iload 5, 2) := by decide +kernel
theorem dX1_breaksColumn_57 : decode cX1_breaksColumn 57 = .ok (.iload_n 1, 1) := by decide +kernel
theorem dX1_breaksColumn_58 : decode cX1_breaksColumn 58 = .ok (.if_icmp .le 11, 3) := by decide +kernel
theorem dX1_breaksColumn_61 : decode cX1_breaksColumn 61 = .ok (.iload 6, 2) := by decide +kernel
theorem dX1_breaksColumn_63 : decode cX1_breaksColumn 63 = .ok (.iload_n 2, 1) := by decide +kernel
theorem dX1_breaksColumn_64 : decode cX1_breaksColumn 64 = .ok (.if_icmp .ge 5, 3) := by decide +kernel
theorem dX1_breaksColumn_67 : decode cX1_breaksColumn 67 = .ok (.iconst 1, 1) := by decide +kernel
theorem dX1_breaksColumn_68 : decode cX1_breaksColumn 68 = .ok (.ireturn, 1) := by decide +kernel
theorem dX1_breaksColumn_69 : decode cX1_breaksColumn 69 = .ok (.iinc 5 1, 3) := by decide +kernel
theorem dX1_breaksColumn_72 : decode cX1_breaksColumn 72 = .ok (.goto (-57), 3) := by decide +kernel
theorem dX1_breaksColumn_75 : decode cX1_breaksColumn 75 = .ok (.iconst 0, 1) := by decide +kernel
theorem dX1_breaksColumn_76 : decode cX1_breaksColumn 76 = .ok (.ireturn, 1) := by decide +kernel
theorem dX1_rowSize_0 : decode cX1_rowSize 0 = .ok (.iconst 0, 1) := by decide +kernel
theorem dX1_rowSize_1 : decode cX1_rowSize 1 = .ok (.istore_n 2, 1) := by decide +kernel
theorem dX1_rowSize_2 : decode cX1_rowSize 2 = .ok (.iconst 0, 1) := by decide +kernel
theorem dX1_rowSize_3 : decode cX1_rowSize 3 = .ok (.istore_n 3, 1) := by decide +kernel
theorem dX1_rowSize_4 : decode cX1_rowSize 4 = .ok (.iload_n 3, 1) := by decide +kernel
theorem dX1_rowSize_5 : decode cX1_rowSize 5 = .ok (.bipush 9, 2) := by decide +kernel
theorem dX1_rowSize_7 : decode cX1_rowSize 7 = .ok (.if_icmp .ge 31, 3) := by decide +kernel
theorem dX1_rowSize_10 : decode cX1_rowSize 10 = .ok (.iload_n 2, 1) := by decide +kernel
theorem dX1_rowSize_11 : decode cX1_rowSize 11 = .ok (.aload_n 0, 1) := by decide +kernel
theorem dX1_rowSize_12 : decode cX1_rowSize 12 = .ok (.getfield 9, 3) := by decide +kernel
theorem dX1_rowSize_15 : decode cX1_rowSize 15 = .ok (.iload_n 1, 1) := by decide +kernel
theorem dX1_rowSize_16 : decode cX1_rowSize 16 = .ok (.bipush 9, 2) := by decide +kernel
theorem dX1_rowSize_18 : decode cX1_rowSize 18 = .ok (.imul, 1) := by decide +kernel
theorem dX1_rowSize_19 : decode cX1_rowSize 19 = .ok (.iload_n 3, 1) := by decide +kernel
theorem dX1_rowSize_20 : decode cX1_rowSize 20 = .ok (.iadd, 1) := by decide +kernel
theorem dX1_rowSize_21 : decode cX1_rowSize 21 = .ok (.iaload, 1) := by decide +kernel
theorem dX1_rowSize_22 : decode cX1_rowSize 22 = .ok (.ifCond .ne 7, 3) := by decide +kernel
theorem dX1_rowSize_25 : decode cX1_rowSize 25 = .ok (.iconst 0, 1) := by decide +kernel
theorem dX1_rowSize_26 : decode cX1_rowSize 26 = .ok (.goto 4, 3) := by decide +kernel
theorem dX1_rowSize_29 : decode cX1_rowSize 29 = .ok (.iconst 1, 1) := by decide +kernel
theorem dX1_rowSize_30 : decode cX1_rowSize 30 = .ok (.iadd, 1) := by decide +kernel
theorem dX1_rowSize_31 : decode cX1_rowSize 31 = .ok (.istore_n 2, 1) := by decide +kernel
theorem dX1_rowSize_32 : decode cX1_rowSize 32 = .ok (.iinc 3 1, 3) := by decide +kernel
theorem dX1_rowSize_35 : decode cX1_rowSize 35 = .ok (.goto (-31), 3) := by decide +kernel
theorem dX1_rowSize_38 : decode cX1_rowSize 38 = .ok (.iload_n 2, 1) := by decide +kernel
theorem dX1_rowSize_39 : decode cX1_rowSize 39 = .ok (.ireturn, 1) := by decide +kernel
theorem dX1_cardSize_0 : decode cX1_cardSize 0 = .ok (.iconst 0, 1) := by decide +kernel
theorem dX1_cardSize_1 : decode cX1_cardSize 1 = .ok (.istore_n 2, 1) := by decide +kernel
theorem dX1_cardSize_2 : decode cX1_cardSize 2 = .ok (.iload_n 1, 1) := by decide +kernel
theorem dX1_cardSize_3 : decode cX1_cardSize 3 = .ok (.iconst 3, 1) := by decide +kernel
theorem dX1_cardSize_4 : decode cX1_cardSize 4 = .ok (.imul, 1) := by decide +kernel
theorem dX1_cardSize_5 : decode cX1_cardSize 5 = .ok (.istore_n 3, 1) := by decide +kernel
theorem dX1_cardSize_6 : decode cX1_cardSize 6 = .ok (.iload_n 3, 1) := by decide +kernel
theorem dX1_cardSize_7 : decode cX1_cardSize 7 = .ok (.iload_n 1, 1) := by decide +kernel
theorem dX1_cardSize_8 : decode cX1_cardSize 8 = .ok (.iconst 3, 1) := by decide +kernel
theorem dX1_cardSize_9 : decode cX1_cardSize 9 = .ok (.imul, 1) := by decide +kernel
theorem dX1_cardSize_10 : decode cX1_cardSize 10 = .ok (.iconst 3, 1) := by decide +kernel
theorem dX1_cardSize_11 : decode cX1_cardSize 11 = .ok (.iadd, 1) := by decide +kernel
theorem dX1_cardSize_12 : decode cX1_cardSize 12 = .ok (.if_icmp .ge 17, 3) := by decide +kernel
theorem dX1_cardSize_15 : decode cX1_cardSize 15 = .ok (.iload_n 2, 1) := by decide +kernel
theorem dX1_cardSize_16 : decode cX1_cardSize 16 = .ok (.aload_n 0, 1) := by decide +kernel
theorem dX1_cardSize_17 : decode cX1_cardSize 17 = .ok (.iload_n 3, 1) := by decide +kernel
theorem dX1_cardSize_18 : decode cX1_cardSize 18 = .ok (.invokevirtual 46, 3) := by decide +kernel
theorem dX1_cardSize_21 : decode cX1_cardSize 21 = .ok (.iadd, 1) := by decide +kernel
theorem dX1_cardSize_22 : decode cX1_cardSize 22 = .ok (.istore_n 2, 1) := by decide +kernel
theorem dX1_cardSize_23 : decode cX1_cardSize 23 = .ok (.iinc 3 1, 3) := by decide +kernel
theorem dX1_cardSize_26 : decode cX1_cardSize 26 = .ok (.goto (-20), 3) := by decide +kernel
theorem dX1_cardSize_29 : decode cX1_cardSize 29 = .ok (.iload_n 2, 1) := by decide +kernel
theorem dX1_cardSize_30 : decode cX1_cardSize 30 = .ok (.ireturn, 1) := by decide +kernel
theorem dX1_isWhole_0 : decode cX1_isWhole 0 = .ok (.aload_n 0, 1) := by decide +kernel
theorem dX1_isWhole_1 : decode cX1_isWhole 1 = .ok (.iload_n 1, 1) := by decide +kernel
theorem dX1_isWhole_2 : decode cX1_isWhole 2 = .ok (.invokevirtual 53, 3) := by decide +kernel
theorem dX1_isWhole_5 : decode cX1_isWhole 5 = .ok (.bipush 15, 2) := by decide +kernel
theorem dX1_isWhole_7 : decode cX1_isWhole 7 = .ok (.if_icmp .ne 7, 3) := by decide +kernel
theorem dX1_isWhole_10 : decode cX1_isWhole 10 = .ok (.iconst 1, 1) := by decide +kernel
theorem dX1_isWhole_11 : decode cX1_isWhole 11 = .ok (.goto 4, 3) := by decide +kernel
theorem dX1_isWhole_14 : decode cX1_isWhole 14 = .ok (.iconst 0, 1) := by decide +kernel
theorem dX1_isWhole_15 : decode cX1_isWhole 15 = .ok (.ireturn, 1) := by decide +kernel
theorem dX1_wholeCards_0 : decode cX1_wholeCards 0 = .ok (.iconst 0, 1) := by decide +kernel
theorem dX1_wholeCards_1 : decode cX1_wholeCards 1 = .ok (.istore_n 1, 1) := by decide +kernel
theorem dX1_wholeCards_2 : decode cX1_wholeCards 2 = .ok (.iconst 0, 1) := by decide +kernel
theorem dX1_wholeCards_3 : decode cX1_wholeCards 3 = .ok (.istore_n 2, 1) := by decide +kernel
theorem dX1_wholeCards_4 : decode cX1_wholeCards 4 = .ok (.iload_n 2, 1) := by decide +kernel
theorem dX1_wholeCards_5 : decode cX1_wholeCards 5 = .ok (.bipush 6, 2) := by decide +kernel
theorem dX1_wholeCards_7 : decode cX1_wholeCards 7 = .ok (.if_icmp .ge 25, 3) := by decide +kernel
theorem dX1_wholeCards_10 : decode cX1_wholeCards 10 = .ok (.iload_n 1, 1) := by decide +kernel
theorem dX1_wholeCards_11 : decode cX1_wholeCards 11 = .ok (.aload_n 0, 1) := by decide +kernel
theorem dX1_wholeCards_12 : decode cX1_wholeCards 12 = .ok (.iload_n 2, 1) := by decide +kernel
theorem dX1_wholeCards_13 : decode cX1_wholeCards 13 = .ok (.invokevirtual 56, 3) := by decide +kernel
theorem dX1_wholeCards_16 : decode cX1_wholeCards 16 = .ok (.ifCond .eq 7, 3) := by decide +kernel
theorem dX1_wholeCards_19 : decode cX1_wholeCards 19 = .ok (.iconst 1, 1) := by decide +kernel
theorem dX1_wholeCards_20 : decode cX1_wholeCards 20 = .ok (.goto 4, 3) := by decide +kernel
theorem dX1_wholeCards_23 : decode cX1_wholeCards 23 = .ok (.iconst 0, 1) := by decide +kernel
theorem dX1_wholeCards_24 : decode cX1_wholeCards 24 = .ok (.iadd, 1) := by decide +kernel
theorem dX1_wholeCards_25 : decode cX1_wholeCards 25 = .ok (.istore_n 1, 1) := by decide +kernel
theorem dX1_wholeCards_26 : decode cX1_wholeCards 26 = .ok (.iinc 2 1, 3) := by decide +kernel
theorem dX1_wholeCards_29 : decode cX1_wholeCards 29 = .ok (.goto (-25), 3) := by decide +kernel
theorem dX1_wholeCards_32 : decode cX1_wholeCards 32 = .ok (.iload_n 1, 1) := by decide +kernel
theorem dX1_wholeCards_33 : decode cX1_wholeCards 33 = .ok (.ireturn, 1) := by decide +kernel
theorem dX1_unmarkedInRow_0 : decode cX1_unmarkedInRow 0 = .ok (.iconst 0, 1) := by decide +kernel
theorem dX1_unmarkedInRow_1 : decode cX1_unmarkedInRow 1 = .ok (.istore_n 3, 1) := by decide +kernel
theorem dX1_unmarkedInRow_2 : decode cX1_unmarkedInRow 2 = .ok (.iconst 0, 1) := by decide +kernel
theorem dX1_unmarkedInRow_3 : decode cX1_unmarkedInRow 3 = .ok (.istore 4, 2) := by decide +kernel
theorem dX1_unmarkedInRow_5 : decode cX1_unmarkedInRow 5 = .ok (.iload 4, 2) := by decide +kernel
theorem dX1_unmarkedInRow_7 : decode cX1_unmarkedInRow 7 = .ok (.bipush 9, 2) := by decide +kernel
theorem dX1_unmarkedInRow_9 : decode cX1_unmarkedInRow 9 = .ok (.if_icmp .ge 36, 3) := by decide +kernel
theorem dX1_unmarkedInRow_12 : decode cX1_unmarkedInRow 12 = .ok (.iload_n 3, 1) := by decide +kernel
theorem dX1_unmarkedInRow_13 : decode cX1_unmarkedInRow 13 = .ok (.aload_n 0, 1) := by decide +kernel
theorem dX1_unmarkedInRow_14 : decode cX1_unmarkedInRow 14 = .ok (.getfield 9, 3) := by decide +kernel
theorem dX1_unmarkedInRow_17 : decode cX1_unmarkedInRow 17 = .ok (.iload_n 1, 1) := by decide +kernel
theorem dX1_unmarkedInRow_18 : decode cX1_unmarkedInRow 18 = .ok (.bipush 9, 2) := by decide +kernel
theorem dX1_unmarkedInRow_20 : decode cX1_unmarkedInRow 20 = .ok (.imul, 1) := by decide +kernel
theorem dX1_unmarkedInRow_21 : decode cX1_unmarkedInRow 21 = .ok (.iload 4, 2) := by decide +kernel
theorem dX1_unmarkedInRow_23 : decode cX1_unmarkedInRow 23 = .ok (.iadd, 1) := by decide +kernel
theorem dX1_unmarkedInRow_24 : decode cX1_unmarkedInRow 24 = .ok (.iaload, 1) := by decide +kernel
theorem dX1_unmarkedInRow_25 : decode cX1_unmarkedInRow 25 = .ok (.aload_n 2, 1) := by decide +kernel
theorem dX1_unmarkedInRow_26 : decode cX1_unmarkedInRow 26 = .ok (.invokestatic 59, 3) := by decide +kernel
theorem dX1_unmarkedInRow_29 : decode cX1_unmarkedInRow 29 = .ok (.ifCond .eq 7, 3) := by decide +kernel
theorem dX1_unmarkedInRow_32 : decode cX1_unmarkedInRow 32 = .ok (.iconst 1, 1) := by decide +kernel
theorem dX1_unmarkedInRow_33 : decode cX1_unmarkedInRow 33 = .ok (.goto 4, 3) := by decide +kernel
theorem dX1_unmarkedInRow_36 : decode cX1_unmarkedInRow 36 = .ok (.iconst 0, 1) := by decide +kernel
theorem dX1_unmarkedInRow_37 : decode cX1_unmarkedInRow 37 = .ok (.iadd, 1) := by decide +kernel
theorem dX1_unmarkedInRow_38 : decode cX1_unmarkedInRow 38 = .ok (.istore_n 3, 1) := by decide +kernel
theorem dX1_unmarkedInRow_39 : decode cX1_unmarkedInRow 39 = .ok (.iinc 4 1, 3) := by decide +kernel
theorem dX1_unmarkedInRow_42 : decode cX1_unmarkedInRow 42 = .ok (.goto (-37), 3) := by decide +kernel
theorem dX1_unmarkedInRow_45 : decode cX1_unmarkedInRow 45 = .ok (.iload_n 3, 1) := by decide +kernel
theorem dX1_unmarkedInRow_46 : decode cX1_unmarkedInRow 46 = .ok (.ireturn, 1) := by decide +kernel
theorem dX1_isUnmarked_0 : decode cX1_isUnmarked 0 = .ok (.iload_n 0, 1) := by decide +kernel
theorem dX1_isUnmarked_1 : decode cX1_isUnmarked 1 = .ok (.ifCond .le 13, 3) := by decide +kernel
theorem dX1_isUnmarked_4 : decode cX1_isUnmarked 4 = .ok (.aload_n 1, 1) := by decide +kernel
theorem dX1_isUnmarked_5 : decode cX1_isUnmarked 5 = .ok (.iload_n 0, 1) := by decide +kernel
theorem dX1_isUnmarked_6 : decode cX1_isUnmarked 6 = .ok (.iaload, 1) := by decide +kernel
theorem dX1_isUnmarked_7 : decode cX1_isUnmarked 7 = .ok (.ifCond .ne 7, 3) := by decide +kernel
theorem dX1_isUnmarked_10 : decode cX1_isUnmarked 10 = .ok (.iconst 1, 1) := by decide +kernel
theorem dX1_isUnmarked_11 : decode cX1_isUnmarked 11 = .ok (.goto 4, 3) := by decide +kernel
theorem dX1_isUnmarked_14 : decode cX1_isUnmarked 14 = .ok (.iconst 0, 1) := by decide +kernel
theorem dX1_isUnmarked_15 : decode cX1_isUnmarked 15 = .ok (.ireturn, 1) := by decide +kernel
theorem dX1_markedInCard_0 : decode cX1_markedInCard 0 = .ok (.iconst 0, 1) := by decide +kernel
theorem dX1_markedInCard_1 : decode cX1_markedInCard 1 = .ok (.istore_n 3, 1) := by decide +kernel
theorem dX1_markedInCard_2 : decode cX1_markedInCard 2 = .ok (.iload_n 1, 1) := by decide +kernel
theorem dX1_markedInCard_3 : decode cX1_markedInCard 3 = .ok (.iconst 3, 1) := by decide +kernel
theorem dX1_markedInCard_4 : decode cX1_markedInCard 4 = .ok (.imul, 1) := by decide +kernel
theorem dX1_markedInCard_5 : decode cX1_markedInCard 5 = .ok (.istore 4, 2) := by decide +kernel
theorem dX1_markedInCard_7 : decode cX1_markedInCard 7 = .ok (.iload 4, 2) := by decide +kernel
theorem dX1_markedInCard_9 : decode cX1_markedInCard 9 = .ok (.iload_n 1, 1) := by decide +kernel
theorem dX1_markedInCard_10 : decode cX1_markedInCard 10 = .ok (.iconst 3, 1) := by decide +kernel
theorem dX1_markedInCard_11 : decode cX1_markedInCard 11 = .ok (.imul, 1) := by decide +kernel
theorem dX1_markedInCard_12 : decode cX1_markedInCard 12 = .ok (.iconst 3, 1) := by decide +kernel
theorem dX1_markedInCard_13 : decode cX1_markedInCard 13 = .ok (.iadd, 1) := by decide +kernel
theorem dX1_markedInCard_14 : decode cX1_markedInCard 14 = .ok (.if_icmp .ge 26, 3) := by decide +kernel
theorem dX1_markedInCard_17 : decode cX1_markedInCard 17 = .ok (.iload_n 3, 1) := by decide +kernel
theorem dX1_markedInCard_18 : decode cX1_markedInCard 18 = .ok (.aload_n 0, 1) := by decide +kernel
theorem dX1_markedInCard_19 : decode cX1_markedInCard 19 = .ok (.iload 4, 2) := by decide +kernel
theorem dX1_markedInCard_21 : decode cX1_markedInCard 21 = .ok (.invokevirtual 46, 3) := by decide +kernel
theorem dX1_markedInCard_24 : decode cX1_markedInCard 24 = .ok (.aload_n 0, 1) := by decide +kernel
theorem dX1_markedInCard_25 : decode cX1_markedInCard 25 = .ok (.iload 4, 2) := by decide +kernel
theorem dX1_markedInCard_27 : decode cX1_markedInCard 27 = .ok (.aload_n 2, 1) := by decide +kernel
theorem dX1_markedInCard_28 : decode cX1_markedInCard 28 = .ok (.invokevirtual 63, 3) := by decide +kernel
theorem dX1_markedInCard_31 : decode cX1_markedInCard 31 = .ok (.isub, 1) := by decide +kernel
theorem dX1_markedInCard_32 : decode cX1_markedInCard 32 = .ok (.iadd, 1) := by decide +kernel
theorem dX1_markedInCard_33 : decode cX1_markedInCard 33 = .ok (.istore_n 3, 1) := by decide +kernel
theorem dX1_markedInCard_34 : decode cX1_markedInCard 34 = .ok (.iinc 4 1, 3) := by decide +kernel
theorem dX1_markedInCard_37 : decode cX1_markedInCard 37 = .ok (.goto (-30), 3) := by decide +kernel
theorem dX1_markedInCard_40 : decode cX1_markedInCard 40 = .ok (.iload_n 3, 1) := by decide +kernel
theorem dX1_markedInCard_41 : decode cX1_markedInCard 41 = .ok (.ireturn, 1) := by decide +kernel
theorem dX1_isLine_0 : decode cX1_isLine 0 = .ok (.aload_n 0, 1) := by decide +kernel
theorem dX1_isLine_1 : decode cX1_isLine 1 = .ok (.iload_n 1, 1) := by decide +kernel
theorem dX1_isLine_2 : decode cX1_isLine 2 = .ok (.invokevirtual 46, 3) := by decide +kernel
theorem dX1_isLine_5 : decode cX1_isLine 5 = .ok (.iconst 5, 1) := by decide +kernel
theorem dX1_isLine_6 : decode cX1_isLine 6 = .ok (.if_icmp .ne 16, 3) := by decide +kernel
theorem dX1_isLine_9 : decode cX1_isLine 9 = .ok (.aload_n 0, 1) := by decide +kernel
theorem dX1_isLine_10 : decode cX1_isLine 10 = .ok (.iload_n 1, 1) := by decide +kernel
theorem dX1_isLine_11 : decode cX1_isLine 11 = .ok (.aload_n 2, 1) := by decide +kernel
theorem dX1_isLine_12 : decode cX1_isLine 12 = .ok (.invokevirtual 63, 3) := by decide +kernel
theorem dX1_isLine_15 : decode cX1_isLine 15 = .ok (.ifCond .ne 7, 3) := by decide +kernel
theorem dX1_isLine_18 : decode cX1_isLine 18 = .ok (.iconst 1, 1) := by decide +kernel
theorem dX1_isLine_19 : decode cX1_isLine 19 = .ok (.goto 4, 3) := by decide +kernel
theorem dX1_isLine_22 : decode cX1_isLine 22 = .ok (.iconst 0, 1) := by decide +kernel
theorem dX1_isLine_23 : decode cX1_isLine 23 = .ok (.ireturn, 1) := by decide +kernel
theorem dX1_linesOf_0 : decode cX1_linesOf 0 = .ok (.iconst 0, 1) := by decide +kernel
theorem dX1_linesOf_1 : decode cX1_linesOf 1 = .ok (.istore_n 3, 1) := by decide +kernel
theorem dX1_linesOf_2 : decode cX1_linesOf 2 = .ok (.iload_n 1, 1) := by decide +kernel
theorem dX1_linesOf_3 : decode cX1_linesOf 3 = .ok (.iconst 3, 1) := by decide +kernel
theorem dX1_linesOf_4 : decode cX1_linesOf 4 = .ok (.imul, 1) := by decide +kernel
theorem dX1_linesOf_5 : decode cX1_linesOf 5 = .ok (.istore 4, 2) := by decide +kernel
theorem dX1_linesOf_7 : decode cX1_linesOf 7 = .ok (.iload 4, 2) := by decide +kernel
theorem dX1_linesOf_9 : decode cX1_linesOf 9 = .ok (.iload_n 1, 1) := by decide +kernel
theorem dX1_linesOf_10 : decode cX1_linesOf 10 = .ok (.iconst 3, 1) := by decide +kernel
theorem dX1_linesOf_11 : decode cX1_linesOf 11 = .ok (.imul, 1) := by decide +kernel
theorem dX1_linesOf_12 : decode cX1_linesOf 12 = .ok (.iconst 3, 1) := by decide +kernel
theorem dX1_linesOf_13 : decode cX1_linesOf 13 = .ok (.iadd, 1) := by decide +kernel
theorem dX1_linesOf_14 : decode cX1_linesOf 14 = .ok (.if_icmp .ge 27, 3) := by decide +kernel
theorem dX1_linesOf_17 : decode cX1_linesOf 17 = .ok (.iload_n 3, 1) := by decide +kernel
theorem dX1_linesOf_18 : decode cX1_linesOf 18 = .ok (.aload_n 0, 1) := by decide +kernel
theorem dX1_linesOf_19 : decode cX1_linesOf 19 = .ok (.iload 4, 2) := by decide +kernel
theorem dX1_linesOf_21 : decode cX1_linesOf 21 = .ok (.aload_n 2, 1) := by decide +kernel
theorem dX1_linesOf_22 : decode cX1_linesOf 22 = .ok (.invokevirtual 67, 3) := by decide +kernel
theorem dX1_linesOf_25 : decode cX1_linesOf 25 = .ok (.ifCond .eq 7, 3) := by decide +kernel
theorem dX1_linesOf_28 : decode cX1_linesOf 28 = .ok (.iconst 1, 1) := by decide +kernel
theorem dX1_linesOf_29 : decode cX1_linesOf 29 = .ok (.goto 4, 3) := by decide +kernel
theorem dX1_linesOf_32 : decode cX1_linesOf 32 = .ok (.iconst 0, 1) := by decide +kernel
theorem dX1_linesOf_33 : decode cX1_linesOf 33 = .ok (.iadd, 1) := by decide +kernel
theorem dX1_linesOf_34 : decode cX1_linesOf 34 = .ok (.istore_n 3, 1) := by decide +kernel
theorem dX1_linesOf_35 : decode cX1_linesOf 35 = .ok (.iinc 4 1, 3) := by decide +kernel
theorem dX1_linesOf_38 : decode cX1_linesOf 38 = .ok (.goto (-31), 3) := by decide +kernel
theorem dX1_linesOf_41 : decode cX1_linesOf 41 = .ok (.iload_n 3, 1) := by decide +kernel
theorem dX1_linesOf_42 : decode cX1_linesOf 42 = .ok (.ireturn, 1) := by decide +kernel
theorem dX1_corner_0 : decode cX1_corner 0 = .ok (.iload_n 1, 1) := by decide +kernel
theorem dX1_corner_1 : decode cX1_corner 1 = .ok (.iconst 3, 1) := by decide +kernel
theorem dX1_corner_2 : decode cX1_corner 2 = .ok (.imul, 1) := by decide +kernel
theorem dX1_corner_3 : decode cX1_corner 3 = .ok (.iload_n 2, 1) := by decide +kernel
theorem dX1_corner_4 : decode cX1_corner 4 = .ok (.iconst 2, 1) := by decide +kernel
theorem dX1_corner_5 : decode cX1_corner 5 = .ok (.if_icmp .ge 7, 3) := by decide +kernel
theorem dX1_corner_8 : decode cX1_corner 8 = .ok (.iconst 0, 1) := by decide +kernel
theorem dX1_corner_9 : decode cX1_corner 9 = .ok (.goto 4, 3) := by decide +kernel
theorem dX1_corner_12 : decode cX1_corner 12 = .ok (.iconst 2, 1) := by decide +kernel
theorem dX1_corner_13 : decode cX1_corner 13 = .ok (.iadd, 1) := by decide +kernel
theorem dX1_corner_14 : decode cX1_corner 14 = .ok (.istore_n 3, 1) := by decide +kernel
theorem dX1_corner_15 : decode cX1_corner 15 = .ok (.iconst 0, 1) := by decide +kernel
theorem dX1_corner_16 : decode cX1_corner 16 = .ok (.istore 4, 2) := by decide +kernel
theorem dX1_corner_18 : decode cX1_corner 18 = .ok (.iload 4, 2) := by decide +kernel
theorem dX1_corner_20 : decode cX1_corner 20 = .ok (.bipush 9, 2) := by decide +kernel
theorem dX1_corner_22 : decode cX1_corner 22 = .ok (.if_icmp .ge 49, 3) := by decide +kernel
theorem dX1_corner_25 : decode cX1_corner 25 = .ok (.iload_n 2, 1) := by decide +kernel
theorem dX1_corner_26 : decode cX1_corner 26 = .ok (.iconst 2, 1) := by decide +kernel
theorem dX1_corner_27 : decode cX1_corner 27 = .ok (.irem, 1) := by decide +kernel
theorem dX1_corner_28 : decode cX1_corner 28 = .ok (.ifCond .ne 8, 3) := by decide +kernel
theorem dX1_corner_31 : decode cX1_corner 31 = .ok (.iload 4, 2) := by decide +kernel
theorem dX1_corner_33 : decode cX1_corner 33 = .ok (.goto 8, 3) := by decide +kernel
theorem dX1_corner_36 : decode cX1_corner 36 = .ok (.bipush 8, 2) := by decide +kernel
theorem dX1_corner_38 : decode cX1_corner 38 = .ok (.iload 4, 2) := by decide +kernel
theorem dX1_corner_40 : decode cX1_corner 40 = .ok (.isub, 1) := by decide +kernel
theorem dX1_corner_41 : decode cX1_corner 41 = .ok (.istore 5, 2) := by decide +kernel
theorem dX1_corner_43 : decode cX1_corner 43 = .ok (.aload_n 0, 1) := by decide +kernel
theorem dX1_corner_44 : decode cX1_corner 44 = .ok (.getfield 9, 3) := by decide +kernel
theorem dX1_corner_47 : decode cX1_corner 47 = .ok (.iload_n 3, 1) := by decide +kernel
theorem dX1_corner_48 : decode cX1_corner 48 = .ok (.bipush 9, 2) := by decide +kernel
theorem dX1_corner_50 : decode cX1_corner 50 = .ok (.imul, 1) := by decide +kernel
theorem dX1_corner_51 : decode cX1_corner 51 = .ok (.iload 5, 2) := by decide +kernel
theorem dX1_corner_53 : decode cX1_corner 53 = .ok (.iadd, 1) := by decide +kernel
theorem dX1_corner_54 : decode cX1_corner 54 = .ok (.iaload, 1) := by decide +kernel
theorem dX1_corner_55 : decode cX1_corner 55 = .ok (.istore 6, 2) := by decide +kernel
theorem dX1_corner_57 : decode cX1_corner 57 = .ok (.iload 6, 2) := by decide +kernel
theorem dX1_corner_59 : decode cX1_corner 59 = .ok (.ifCond .eq 6, 3) := by decide +kernel
theorem dX1_corner_62 : decode cX1_corner 62 = .ok (.iload 6, 2) := by decide +kernel
theorem dX1_corner_64 : decode cX1_corner 64 = .ok (.ireturn, 1) := by decide +kernel
theorem dX1_corner_65 : decode cX1_corner 65 = .ok (.iinc 4 1, 3) := by decide +kernel
theorem dX1_corner_68 : decode cX1_corner 68 = .ok (.goto (-50), 3) := by decide +kernel
theorem dX1_corner_71 : decode cX1_corner 71 = .ok (.iconst 0, 1) := by decide +kernel
theorem dX1_corner_72 : decode cX1_corner 72 = .ok (.ireturn, 1) := by decide +kernel
theorem dX1_isCorner_0 : decode cX1_isCorner 0 = .ok (.iconst 0, 1) := by decide +kernel
theorem dX1_isCorner_1 : decode cX1_isCorner 1 = .ok (.istore_n 2, 1) := by decide +kernel
theorem dX1_isCorner_2 : decode cX1_isCorner 2 = .ok (.iload_n 2, 1) := by decide +kernel
theorem dX1_isCorner_3 : decode cX1_isCorner 3 = .ok (.iconst 4, 1) := by decide +kernel
theorem dX1_isCorner_4 : decode cX1_isCorner 4 = .ok (.if_icmp .ge 28, 3) := by decide +kernel
theorem dX1_isCorner_7 : decode cX1_isCorner 7 = .ok (.aload_n 0, 1) := by decide +kernel
theorem dX1_isCorner_8 : decode cX1_isCorner 8 = .ok (.aload_n 0, 1) := by decide +kernel
theorem dX1_isCorner_9 : decode cX1_isCorner 9 = .ok (.getfield 15, 3) := by decide +kernel
theorem dX1_isCorner_12 : decode cX1_isCorner 12 = .ok (.iload_n 1, 1) := by decide +kernel
theorem dX1_isCorner_13 : decode cX1_isCorner 13 = .ok (.iaload, 1) := by decide +kernel
theorem dX1_isCorner_14 : decode cX1_isCorner 14 = .ok (.iconst 3, 1) := by decide +kernel
theorem dX1_isCorner_15 : decode cX1_isCorner 15 = .ok (.idiv, 1) := by decide +kernel
theorem dX1_isCorner_16 : decode cX1_isCorner 16 = .ok (.iload_n 2, 1) := by decide +kernel
theorem dX1_isCorner_17 : decode cX1_isCorner 17 = .ok (.invokevirtual 70, 3) := by decide +kernel
theorem dX1_isCorner_20 : decode cX1_isCorner 20 = .ok (.iload_n 1, 1) := by decide +kernel
theorem dX1_isCorner_21 : decode cX1_isCorner 21 = .ok (.if_icmp .ne 5, 3) := by decide +kernel
theorem dX1_isCorner_24 : decode cX1_isCorner 24 = .ok (.iconst 1, 1) := by decide +kernel
theorem dX1_isCorner_25 : decode cX1_isCorner 25 = .ok (.ireturn, 1) := by decide +kernel
theorem dX1_isCorner_26 : decode cX1_isCorner 26 = .ok (.iinc 2 1, 3) := by decide +kernel
theorem dX1_isCorner_29 : decode cX1_isCorner 29 = .ok (.goto (-27), 3) := by decide +kernel
theorem dX1_isCorner_32 : decode cX1_isCorner 32 = .ok (.iconst 0, 1) := by decide +kernel
theorem dX1_isCorner_33 : decode cX1_isCorner 33 = .ok (.ireturn, 1) := by decide +kernel
theorem dX1_unmarkedOfGame_0 : decode cX1_unmarkedOfGame 0 = .ok (.iload_n 2, 1) := by decide +kernel
theorem dX1_unmarkedOfGame_1 : decode cX1_unmarkedOfGame 1 = .ok (.iconst 1, 1) := by decide +kernel
theorem dX1_unmarkedOfGame_2 : decode cX1_unmarkedOfGame 2 = .ok (.if_icmp .ne 10, 3) := by decide +kernel
theorem dX1_unmarkedOfGame_5 : decode cX1_unmarkedOfGame 5 = .ok (.aload_n 0, 1) := by decide +kernel
theorem dX1_unmarkedOfGame_6 : decode cX1_unmarkedOfGame 6 = .ok (.iload_n 1, 1) := by decide +kernel
theorem dX1_unmarkedOfGame_7 : decode cX1_unmarkedOfGame 7 = .ok (.aload_n 3, 1) := by decide +kernel
theorem dX1_unmarkedOfGame_8 : decode cX1_unmarkedOfGame 8 = .ok (.invokevirtual 73, 3) := by decide +kernel
theorem dX1_unmarkedOfGame_11 : decode cX1_unmarkedOfGame 11 = .ok (.ireturn, 1) := by decide +kernel
theorem dX1_unmarkedOfGame_12 : decode cX1_unmarkedOfGame 12 = .ok (.iconst 0, 1) := by decide +kernel
theorem dX1_unmarkedOfGame_13 : decode cX1_unmarkedOfGame 13 = .ok (.istore 4, 2) := by decide +kernel
theorem dX1_unmarkedOfGame_15 : decode cX1_unmarkedOfGame 15 = .ok (.iconst 5, 1) := by decide +kernel
theorem dX1_unmarkedOfGame_16 : decode cX1_unmarkedOfGame 16 = .ok (.istore 5, 2) := by decide +kernel
theorem dX1_unmarkedOfGame_18 : decode cX1_unmarkedOfGame 18 = .ok (.iconst 0, 1) := by decide +kernel
theorem dX1_unmarkedOfGame_19 : decode cX1_unmarkedOfGame 19 = .ok (.istore 6, 2) := by decide +kernel
theorem dX1_unmarkedOfGame_21 : decode cX1_unmarkedOfGame 21 = .ok (.iload_n 1, 1) := by decide +kernel
theorem dX1_unmarkedOfGame_22 : decode cX1_unmarkedOfGame 22 = .ok (.iconst 3, 1) := by decide +kernel
theorem dX1_unmarkedOfGame_23 : decode cX1_unmarkedOfGame 23 = .ok (.imul, 1) := by decide +kernel
theorem dX1_unmarkedOfGame_24 : decode cX1_unmarkedOfGame 24 = .ok (.istore 7, 2) := by decide +kernel
theorem dX1_unmarkedOfGame_26 : decode cX1_unmarkedOfGame 26 = .ok (.iload 7, 2) := by decide +kernel
theorem dX1_unmarkedOfGame_28 : decode cX1_unmarkedOfGame 28 = .ok (.iload_n 1, 1) := by decide +kernel
theorem dX1_unmarkedOfGame_29 : decode cX1_unmarkedOfGame 29 = .ok (.iconst 3, 1) := by decide +kernel
theorem dX1_unmarkedOfGame_30 : decode cX1_unmarkedOfGame 30 = .ok (.imul, 1) := by decide +kernel
theorem dX1_unmarkedOfGame_31 : decode cX1_unmarkedOfGame 31 = .ok (.iconst 3, 1) := by decide +kernel
theorem dX1_unmarkedOfGame_32 : decode cX1_unmarkedOfGame 32 = .ok (.iadd, 1) := by decide +kernel
theorem dX1_unmarkedOfGame_33 : decode cX1_unmarkedOfGame 33 = .ok (.if_icmp .ge 43, 3) := by decide +kernel
theorem dX1_unmarkedOfGame_36 : decode cX1_unmarkedOfGame 36 = .ok (.aload_n 0, 1) := by decide +kernel
theorem dX1_unmarkedOfGame_37 : decode cX1_unmarkedOfGame 37 = .ok (.iload 7, 2) := by decide +kernel
theorem dX1_unmarkedOfGame_39 : decode cX1_unmarkedOfGame 39 = .ok (.aload_n 3, 1) := by decide +kernel
theorem dX1_unmarkedOfGame_40 : decode cX1_unmarkedOfGame 40 = .ok (.invokevirtual 63, 3) := by decide +kernel
theorem dX1_unmarkedOfGame_43 : decode cX1_unmarkedOfGame 43 = .ok (.istore 8, 2) := by decide +kernel
theorem dX1_unmarkedOfGame_45 : decode cX1_unmarkedOfGame 45 = .ok (.iload 4, 2) := by decide +kernel
theorem dX1_unmarkedOfGame_47 : decode cX1_unmarkedOfGame 47 = .ok (.iload 8, 2) := by decide +kernel
theorem dX1_unmarkedOfGame_49 : decode cX1_unmarkedOfGame 49 = .ok (.iadd, 1) := by decide +kernel
theorem dX1_unmarkedOfGame_50 : decode cX1_unmarkedOfGame 50 = .ok (.istore 4, 2) := by decide +kernel
theorem dX1_unmarkedOfGame_52 : decode cX1_unmarkedOfGame 52 = .ok (.iload 5, 2) := by decide +kernel
theorem dX1_unmarkedOfGame_54 : decode cX1_unmarkedOfGame 54 = .ok (.iload 8, 2) := by decide +kernel
theorem dX1_unmarkedOfGame_56 : decode cX1_unmarkedOfGame 56 = .ok (.invokestatic 76, 3) := by decide +kernel
theorem dX1_unmarkedOfGame_59 : decode cX1_unmarkedOfGame 59 = .ok (.istore 5, 2) := by decide +kernel
theorem dX1_unmarkedOfGame_61 : decode cX1_unmarkedOfGame 61 = .ok (.iload 6, 2) := by decide +kernel
theorem dX1_unmarkedOfGame_63 : decode cX1_unmarkedOfGame 63 = .ok (.iload 8, 2) := by decide +kernel
theorem dX1_unmarkedOfGame_65 : decode cX1_unmarkedOfGame 65 = .ok (.invokestatic 81, 3) := by decide +kernel
theorem dX1_unmarkedOfGame_68 : decode cX1_unmarkedOfGame 68 = .ok (.istore 6, 2) := by decide +kernel
theorem dX1_unmarkedOfGame_70 : decode cX1_unmarkedOfGame 70 = .ok (.iinc 7 1, 3) := by decide +kernel
theorem dX1_unmarkedOfGame_73 : decode cX1_unmarkedOfGame 73 = .ok (.goto (-47), 3) := by decide +kernel
theorem dX1_unmarkedOfGame_76 : decode cX1_unmarkedOfGame 76 = .ok (.iload_n 2, 1) := by decide +kernel
theorem dX1_unmarkedOfGame_77 : decode cX1_unmarkedOfGame 77 = .ok (.ifCond .ne 6, 3) := by decide +kernel
theorem dX1_unmarkedOfGame_80 : decode cX1_unmarkedOfGame 80 = .ok (.iload 5, 2) := by decide +kernel
theorem dX1_unmarkedOfGame_82 : decode cX1_unmarkedOfGame 82 = .ok (.ireturn, 1) := by decide +kernel
theorem dX1_unmarkedOfGame_83 : decode cX1_unmarkedOfGame 83 = .ok (.iload_n 2, 1) := by decide +kernel
theorem dX1_unmarkedOfGame_84 : decode cX1_unmarkedOfGame 84 = .ok (.iconst 2, 1) := by decide +kernel
theorem dX1_unmarkedOfGame_85 : decode cX1_unmarkedOfGame 85 = .ok (.if_icmp .ne 11, 3) := by decide +kernel
theorem dX1_unmarkedOfGame_88 : decode cX1_unmarkedOfGame 88 = .ok (.iload 4, 2) := by decide +kernel
theorem dX1_unmarkedOfGame_90 : decode cX1_unmarkedOfGame 90 = .ok (.iload 6, 2) := by decide +kernel
theorem dX1_unmarkedOfGame_92 : decode cX1_unmarkedOfGame 92 = .ok (.isub, 1) := by decide +kernel
theorem dX1_unmarkedOfGame_93 : decode cX1_unmarkedOfGame 93 = .ok (.goto 5, 3) := by decide +kernel
theorem dX1_unmarkedOfGame_96 : decode cX1_unmarkedOfGame 96 = .ok (.iload 4, 2) := by decide +kernel
theorem dX1_unmarkedOfGame_98 : decode cX1_unmarkedOfGame 98 = .ok (.ireturn, 1) := by decide +kernel
theorem dX1_unmarkedCorners_0 : decode cX1_unmarkedCorners 0 = .ok (.iconst 0, 1) := by decide +kernel
theorem dX1_unmarkedCorners_1 : decode cX1_unmarkedCorners 1 = .ok (.istore_n 3, 1) := by decide +kernel
theorem dX1_unmarkedCorners_2 : decode cX1_unmarkedCorners 2 = .ok (.iconst 0, 1) := by decide +kernel
theorem dX1_unmarkedCorners_3 : decode cX1_unmarkedCorners 3 = .ok (.istore 4, 2) := by decide +kernel
theorem dX1_unmarkedCorners_5 : decode cX1_unmarkedCorners 5 = .ok (.iload 4, 2) := by decide +kernel
theorem dX1_unmarkedCorners_7 : decode cX1_unmarkedCorners 7 = .ok (.iconst 4, 1) := by decide +kernel
theorem dX1_unmarkedCorners_8 : decode cX1_unmarkedCorners 8 = .ok (.if_icmp .ge 31, 3) := by decide +kernel
theorem dX1_unmarkedCorners_11 : decode cX1_unmarkedCorners 11 = .ok (.iload_n 3, 1) := by decide +kernel
theorem dX1_unmarkedCorners_12 : decode cX1_unmarkedCorners 12 = .ok (.aload_n 0, 1) := by decide +kernel
theorem dX1_unmarkedCorners_13 : decode cX1_unmarkedCorners 13 = .ok (.iload_n 1, 1) := by decide +kernel
theorem dX1_unmarkedCorners_14 : decode cX1_unmarkedCorners 14 = .ok (.iload 4, 2) := by decide +kernel
theorem dX1_unmarkedCorners_16 : decode cX1_unmarkedCorners 16 = .ok (.invokevirtual 70, 3) := by decide +kernel
theorem dX1_unmarkedCorners_19 : decode cX1_unmarkedCorners 19 = .ok (.aload_n 2, 1) := by decide +kernel
theorem dX1_unmarkedCorners_20 : decode cX1_unmarkedCorners 20 = .ok (.invokestatic 59, 3) := by decide +kernel
theorem dX1_unmarkedCorners_23 : decode cX1_unmarkedCorners 23 = .ok (.ifCond .eq 7, 3) := by decide +kernel
theorem dX1_unmarkedCorners_26 : decode cX1_unmarkedCorners 26 = .ok (.iconst 1, 1) := by decide +kernel
theorem dX1_unmarkedCorners_27 : decode cX1_unmarkedCorners 27 = .ok (.goto 4, 3) := by decide +kernel
theorem dX1_unmarkedCorners_30 : decode cX1_unmarkedCorners 30 = .ok (.iconst 0, 1) := by decide +kernel
theorem dX1_unmarkedCorners_31 : decode cX1_unmarkedCorners 31 = .ok (.iadd, 1) := by decide +kernel
theorem dX1_unmarkedCorners_32 : decode cX1_unmarkedCorners 32 = .ok (.istore_n 3, 1) := by decide +kernel
theorem dX1_unmarkedCorners_33 : decode cX1_unmarkedCorners 33 = .ok (.iinc 4 1, 3) := by decide +kernel
theorem dX1_unmarkedCorners_36 : decode cX1_unmarkedCorners 36 = .ok (.goto (-31), 3) := by decide +kernel
theorem dX1_unmarkedCorners_39 : decode cX1_unmarkedCorners 39 = .ok (.iload_n 3, 1) := by decide +kernel
theorem dX1_unmarkedCorners_40 : decode cX1_unmarkedCorners 40 = .ok (.ireturn, 1) := by decide +kernel
theorem dX1_onlyUnmarked_0 : decode cX1_onlyUnmarked 0 = .ok (.iload_n 2, 1) := by decide +kernel
theorem dX1_onlyUnmarked_1 : decode cX1_onlyUnmarked 1 = .ok (.iconst 1, 1) := by decide +kernel
theorem dX1_onlyUnmarked_2 : decode cX1_onlyUnmarked 2 = .ok (.if_icmp .ne 10, 3) := by decide +kernel
theorem dX1_onlyUnmarked_5 : decode cX1_onlyUnmarked 5 = .ok (.aload_n 0, 1) := by decide +kernel
theorem dX1_onlyUnmarked_6 : decode cX1_onlyUnmarked 6 = .ok (.iload_n 1, 1) := by decide +kernel
theorem dX1_onlyUnmarked_7 : decode cX1_onlyUnmarked 7 = .ok (.aload_n 3, 1) := by decide +kernel
theorem dX1_onlyUnmarked_8 : decode cX1_onlyUnmarked 8 = .ok (.invokevirtual 84, 3) := by decide +kernel
theorem dX1_onlyUnmarked_11 : decode cX1_onlyUnmarked 11 = .ok (.ireturn, 1) := by decide +kernel
theorem dX1_onlyUnmarked_12 : decode cX1_onlyUnmarked 12 = .ok (.iload_n 1, 1) := by decide +kernel
theorem dX1_onlyUnmarked_13 : decode cX1_onlyUnmarked 13 = .ok (.iconst 3, 1) := by decide +kernel
theorem dX1_onlyUnmarked_14 : decode cX1_onlyUnmarked 14 = .ok (.imul, 1) := by decide +kernel
theorem dX1_onlyUnmarked_15 : decode cX1_onlyUnmarked 15 = .ok (.istore 4, 2) := by decide +kernel
theorem dX1_onlyUnmarked_17 : decode cX1_onlyUnmarked 17 = .ok (.iload 4, 2) := by decide +kernel
theorem dX1_onlyUnmarked_19 : decode cX1_onlyUnmarked 19 = .ok (.iload_n 1, 1) := by decide +kernel
theorem dX1_onlyUnmarked_20 : decode cX1_onlyUnmarked 20 = .ok (.iconst 3, 1) := by decide +kernel
theorem dX1_onlyUnmarked_21 : decode cX1_onlyUnmarked 21 = .ok (.imul, 1) := by decide +kernel
theorem dX1_onlyUnmarked_22 : decode cX1_onlyUnmarked 22 = .ok (.iconst 3, 1) := by decide +kernel
theorem dX1_onlyUnmarked_23 : decode cX1_onlyUnmarked 23 = .ok (.iadd, 1) := by decide +kernel
theorem dX1_onlyUnmarked_24 : decode cX1_onlyUnmarked 24 = .ok (.if_icmp .ge 28, 3) := by decide +kernel
theorem dX1_onlyUnmarked_27 : decode cX1_onlyUnmarked 27 = .ok (.aload_n 0, 1) := by decide +kernel
theorem dX1_onlyUnmarked_28 : decode cX1_onlyUnmarked 28 = .ok (.iload 4, 2) := by decide +kernel
theorem dX1_onlyUnmarked_30 : decode cX1_onlyUnmarked 30 = .ok (.aload_n 3, 1) := by decide +kernel
theorem dX1_onlyUnmarked_31 : decode cX1_onlyUnmarked 31 = .ok (.invokevirtual 63, 3) := by decide +kernel
theorem dX1_onlyUnmarked_34 : decode cX1_onlyUnmarked 34 = .ok (.iconst 1, 1) := by decide +kernel
theorem dX1_onlyUnmarked_35 : decode cX1_onlyUnmarked 35 = .ok (.if_icmp .ne 11, 3) := by decide +kernel
theorem dX1_onlyUnmarked_38 : decode cX1_onlyUnmarked 38 = .ok (.aload_n 0, 1) := by decide +kernel
theorem dX1_onlyUnmarked_39 : decode cX1_onlyUnmarked 39 = .ok (.iload 4, 2) := by decide +kernel
theorem dX1_onlyUnmarked_41 : decode cX1_onlyUnmarked 41 = .ok (.aload_n 3, 1) := by decide +kernel
theorem dX1_onlyUnmarked_42 : decode cX1_onlyUnmarked 42 = .ok (.invokevirtual 87, 3) := by decide +kernel
theorem dX1_onlyUnmarked_45 : decode cX1_onlyUnmarked 45 = .ok (.ireturn, 1) := by decide +kernel
theorem dX1_onlyUnmarked_46 : decode cX1_onlyUnmarked 46 = .ok (.iinc 4 1, 3) := by decide +kernel
theorem dX1_onlyUnmarked_49 : decode cX1_onlyUnmarked 49 = .ok (.goto (-32), 3) := by decide +kernel
theorem dX1_onlyUnmarked_52 : decode cX1_onlyUnmarked 52 = .ok (.iconst (-1), 1) := by decide +kernel
theorem dX1_onlyUnmarked_53 : decode cX1_onlyUnmarked 53 = .ok (.ireturn, 1) := by decide +kernel
theorem dX1_firstUnmarkedCorner_0 : decode cX1_firstUnmarkedCorner 0 = .ok (.iconst 0, 1) := by decide +kernel
theorem dX1_firstUnmarkedCorner_1 : decode cX1_firstUnmarkedCorner 1 = .ok (.istore_n 3, 1) := by decide +kernel
theorem dX1_firstUnmarkedCorner_2 : decode cX1_firstUnmarkedCorner 2 = .ok (.iload_n 3, 1) := by decide +kernel
theorem dX1_firstUnmarkedCorner_3 : decode cX1_firstUnmarkedCorner 3 = .ok (.iconst 4, 1) := by decide +kernel
theorem dX1_firstUnmarkedCorner_4 : decode cX1_firstUnmarkedCorner 4 = .ok (.if_icmp .ge 29, 3) := by decide +kernel
theorem dX1_firstUnmarkedCorner_7 : decode cX1_firstUnmarkedCorner 7 = .ok (.aload_n 0, 1) := by decide +kernel
theorem dX1_firstUnmarkedCorner_8 : decode cX1_firstUnmarkedCorner 8 = .ok (.iload_n 1, 1) := by decide +kernel
theorem dX1_firstUnmarkedCorner_9 : decode cX1_firstUnmarkedCorner 9 = .ok (.iload_n 3, 1) := by decide +kernel
theorem dX1_firstUnmarkedCorner_10 : decode cX1_firstUnmarkedCorner 10 = .ok (.invokevirtual 70, 3) := by decide +kernel
theorem dX1_firstUnmarkedCorner_13 : decode cX1_firstUnmarkedCorner 13 = .ok (.aload_n 2, 1) := by decide +kernel
theorem dX1_firstUnmarkedCorner_14 : decode cX1_firstUnmarkedCorner 14 = .ok (.invokestatic 59, 3) := by decide +kernel
theorem dX1_firstUnmarkedCorner_17 : decode cX1_firstUnmarkedCorner 17 = .ok (.ifCond .eq 10, 3) := by decide +kernel
theorem dX1_firstUnmarkedCorner_20 : decode cX1_firstUnmarkedCorner 20 = .ok (.aload_n 0, 1) := by decide +kernel
theorem dX1_firstUnmarkedCorner_21 : decode cX1_firstUnmarkedCorner 21 = .ok (.iload_n 1, 1) := by decide +kernel
theorem dX1_firstUnmarkedCorner_22 : decode cX1_firstUnmarkedCorner 22 = .ok (.iload_n 3, 1) := by decide +kernel
theorem dX1_firstUnmarkedCorner_23 : decode cX1_firstUnmarkedCorner 23 = .ok (.invokevirtual 70, 3) := by decide +kernel
theorem dX1_firstUnmarkedCorner_26 : decode cX1_firstUnmarkedCorner 26 = .ok (.ireturn, 1) := by decide +kernel
theorem dX1_firstUnmarkedCorner_27 : decode cX1_firstUnmarkedCorner 27 = .ok (.iinc 3 1, 3) := by decide +kernel
theorem dX1_firstUnmarkedCorner_30 : decode cX1_firstUnmarkedCorner 30 = .ok (.goto (-28), 3) := by decide +kernel
theorem dX1_firstUnmarkedCorner_33 : decode cX1_firstUnmarkedCorner 33 = .ok (.iconst (-1), 1) := by decide +kernel
theorem dX1_firstUnmarkedCorner_34 : decode cX1_firstUnmarkedCorner 34 = .ok (.ireturn, 1) := by decide +kernel
theorem dX1_firstUnmarkedIn_0 : decode cX1_firstUnmarkedIn 0 = .ok (.iconst 0, 1) := by decide +kernel
theorem dX1_firstUnmarkedIn_1 : decode cX1_firstUnmarkedIn 1 = .ok (.istore_n 3, 1) := by decide +kernel
theorem dX1_firstUnmarkedIn_2 : decode cX1_firstUnmarkedIn 2 = .ok (.iload_n 3, 1) := by decide +kernel
theorem dX1_firstUnmarkedIn_3 : decode cX1_firstUnmarkedIn 3 = .ok (.bipush 9, 2) := by decide +kernel
theorem dX1_firstUnmarkedIn_5 : decode cX1_firstUnmarkedIn 5 = .ok (.if_icmp .ge 29, 3) := by decide +kernel
theorem dX1_firstUnmarkedIn_8 : decode cX1_firstUnmarkedIn 8 = .ok (.aload_n 0, 1) := by decide +kernel
theorem dX1_firstUnmarkedIn_9 : decode cX1_firstUnmarkedIn 9 = .ok (.iload_n 1, 1) := by decide +kernel
theorem dX1_firstUnmarkedIn_10 : decode cX1_firstUnmarkedIn 10 = .ok (.iload_n 3, 1) := by decide +kernel
theorem dX1_firstUnmarkedIn_11 : decode cX1_firstUnmarkedIn 11 = .ok (.invokevirtual 42, 3) := by decide +kernel
theorem dX1_firstUnmarkedIn_14 : decode cX1_firstUnmarkedIn 14 = .ok (.aload_n 2, 1) := by decide +kernel
theorem dX1_firstUnmarkedIn_15 : decode cX1_firstUnmarkedIn 15 = .ok (.invokestatic 59, 3) := by decide +kernel
theorem dX1_firstUnmarkedIn_18 : decode cX1_firstUnmarkedIn 18 = .ok (.ifCond .eq 10, 3) := by decide +kernel
theorem dX1_firstUnmarkedIn_21 : decode cX1_firstUnmarkedIn 21 = .ok (.aload_n 0, 1) := by decide +kernel
theorem dX1_firstUnmarkedIn_22 : decode cX1_firstUnmarkedIn 22 = .ok (.iload_n 1, 1) := by decide +kernel
theorem dX1_firstUnmarkedIn_23 : decode cX1_firstUnmarkedIn 23 = .ok (.iload_n 3, 1) := by decide +kernel
theorem dX1_firstUnmarkedIn_24 : decode cX1_firstUnmarkedIn 24 = .ok (.invokevirtual 42, 3) := by decide +kernel
theorem dX1_firstUnmarkedIn_27 : decode cX1_firstUnmarkedIn 27 = .ok (.ireturn, 1) := by decide +kernel
theorem dX1_firstUnmarkedIn_28 : decode cX1_firstUnmarkedIn 28 = .ok (.iinc 3 1, 3) := by decide +kernel
theorem dX1_firstUnmarkedIn_31 : decode cX1_firstUnmarkedIn 31 = .ok (.goto (-29), 3) := by decide +kernel
theorem dX1_firstUnmarkedIn_34 : decode cX1_firstUnmarkedIn 34 = .ok (.iconst (-1), 1) := by decide +kernel
theorem dX1_firstUnmarkedIn_35 : decode cX1_firstUnmarkedIn 35 = .ok (.ireturn, 1) := by decide +kernel
theorem dX2_init_0 : decode cX2_init 0 = .ok (.aload_n 0, 1) := by decide +kernel
theorem dX2_init_1 : decode cX2_init 1 = .ok (.invokespecial 3, 3) := by decide +kernel
theorem dX2_init_4 : decode cX2_init 4 = .ok (.aload_n 0, 1) := by decide +kernel
theorem dX2_init_5 : decode cX2_init 5 = .ok (.bipush 90, 2) := by decide +kernel
theorem dX2_init_7 : decode cX2_init 7 = .ok (.newarray .int, 2) := by decide +kernel
theorem dX2_init_9 : decode cX2_init 9 = .ok (.putfield 9, 3) := by decide +kernel
theorem dX2_init_12 : decode cX2_init 12 = .ok (.return_, 1) := by decide +kernel
theorem dX2_copyFrom_0 : decode cX2_copyFrom 0 = .ok (.aload_n 1, 1) := by decide +kernel
theorem dX2_copyFrom_1 : decode cX2_copyFrom 1 = .ok (.getfield 9, 3) := by decide +kernel
theorem dX2_copyFrom_4 : decode cX2_copyFrom 4 = .ok (.iconst 0, 1) := by decide +kernel
theorem dX2_copyFrom_5 : decode cX2_copyFrom 5 = .ok (.aload_n 0, 1) := by decide +kernel
theorem dX2_copyFrom_6 : decode cX2_copyFrom 6 = .ok (.getfield 9, 3) := by decide +kernel
theorem dX2_copyFrom_9 : decode cX2_copyFrom 9 = .ok (.iconst 0, 1) := by decide +kernel
theorem dX2_copyFrom_10 : decode cX2_copyFrom 10 = .ok (.aload_n 1, 1) := by decide +kernel
theorem dX2_copyFrom_11 : decode cX2_copyFrom 11 = .ok (.getfield 15, 3) := by decide +kernel
theorem dX2_copyFrom_14 : decode cX2_copyFrom 14 = .ok (.invokestatic 19, 3) := by decide +kernel
theorem dX2_copyFrom_17 : decode cX2_copyFrom 17 = .ok (.aload_n 0, 1) := by decide +kernel
theorem dX2_copyFrom_18 : decode cX2_copyFrom 18 = .ok (.aload_n 1, 1) := by decide +kernel
theorem dX2_copyFrom_19 : decode cX2_copyFrom 19 = .ok (.getfield 15, 3) := by decide +kernel
theorem dX2_copyFrom_22 : decode cX2_copyFrom 22 = .ok (.putfield 15, 3) := by decide +kernel
theorem dX2_copyFrom_25 : decode cX2_copyFrom 25 = .ok (.return_, 1) := by decide +kernel
theorem dX2_holdAll_0 : decode cX2_holdAll 0 = .ok (.iconst 0, 1) := by decide +kernel
theorem dX2_holdAll_1 : decode cX2_holdAll 1 = .ok (.istore_n 1, 1) := by decide +kernel
theorem dX2_holdAll_2 : decode cX2_holdAll 2 = .ok (.iload_n 1, 1) := by decide +kernel
theorem dX2_holdAll_3 : decode cX2_holdAll 3 = .ok (.bipush 90, 2) := by decide +kernel
theorem dX2_holdAll_5 : decode cX2_holdAll 5 = .ok (.if_icmp .ge 18, 3) := by decide +kernel
theorem dX2_holdAll_8 : decode cX2_holdAll 8 = .ok (.aload_n 0, 1) := by decide +kernel
theorem dX2_holdAll_9 : decode cX2_holdAll 9 = .ok (.getfield 9, 3) := by decide +kernel
theorem dX2_holdAll_12 : decode cX2_holdAll 12 = .ok (.iload_n 1, 1) := by decide +kernel
theorem dX2_holdAll_13 : decode cX2_holdAll 13 = .ok (.iload_n 1, 1) := by decide +kernel
theorem dX2_holdAll_14 : decode cX2_holdAll 14 = .ok (.iconst 1, 1) := by decide +kernel
theorem dX2_holdAll_15 : decode cX2_holdAll 15 = .ok (.iadd, 1) := by decide +kernel
theorem dX2_holdAll_16 : decode cX2_holdAll 16 = .ok (.iastore, 1) := by decide +kernel
theorem dX2_holdAll_17 : decode cX2_holdAll 17 = .ok (.iinc 1 1, 3) := by decide +kernel
theorem dX2_holdAll_20 : decode cX2_holdAll 20 = .ok (.goto (-18), 3) := by decide +kernel
theorem dX2_holdAll_23 : decode cX2_holdAll 23 = .ok (.aload_n 0, 1) := by decide +kernel
theorem dX2_holdAll_24 : decode cX2_holdAll 24 = .ok (.bipush 90, 2) := by decide +kernel
theorem dX2_holdAll_26 : decode cX2_holdAll 26 = .ok (.putfield 15, 3) := by decide +kernel
theorem dX2_holdAll_29 : decode cX2_holdAll 29 = .ok (.return_, 1) := by decide +kernel
theorem dX2_holdNumbersOutOf_0 : decode cX2_holdNumbersOutOf 0 = .ok (.aload_n 0, 1) := by decide +kernel
theorem dX2_holdNumbersOutOf_1 : decode cX2_holdNumbersOutOf 1 = .ok (.iconst 0, 1) := by decide +kernel
theorem dX2_holdNumbersOutOf_2 : decode cX2_holdNumbersOutOf 2 = .ok (.putfield 15, 3) := by decide +kernel
theorem dX2_holdNumbersOutOf_5 : decode cX2_holdNumbersOutOf 5 = .ok (.iconst 1, 1) := by decide +kernel
theorem dX2_holdNumbersOutOf_6 : decode cX2_holdNumbersOutOf 6 = .ok (.istore_n 2, 1) := by decide +kernel
theorem dX2_holdNumbersOutOf_7 : decode cX2_holdNumbersOutOf 7 = .ok (.iload_n 2, 1) := by decide +kernel
theorem dX2_holdNumbersOutOf_8 : decode cX2_holdNumbersOutOf 8 = .ok (.bipush 90, 2) := by decide +kernel
theorem dX2_holdNumbersOutOf_10 : decode cX2_holdNumbersOutOf 10 = .ok (.if_icmp .gt 39, 3) := by decide +kernel
theorem dX2_holdNumbersOutOf_13 : decode cX2_holdNumbersOutOf 13 = .ok (.aload_n 1, 1) := by decide +kernel
theorem dX2_holdNumbersOutOf_14 : decode cX2_holdNumbersOutOf 14 = .ok (.getfield 25, 3) := by decide +kernel
theorem dX2_holdNumbersOutOf_17 : decode cX2_holdNumbersOutOf 17 = .ok (.iload_n 2, 1) := by decide +kernel
theorem dX2_holdNumbersOutOf_18 : decode cX2_holdNumbersOutOf 18 = .ok (.iaload, 1) := by decide +kernel
theorem dX2_holdNumbersOutOf_19 : decode cX2_holdNumbersOutOf 19 = .ok (.iconst (-1), 1) := by decide +kernel
theorem dX2_holdNumbersOutOf_20 : decode cX2_holdNumbersOutOf 20 = .ok (.if_icmp .ne 23, 3) := by decide +kernel
theorem dX2_holdNumbersOutOf_23 : decode cX2_holdNumbersOutOf 23 = .ok (.aload_n 0, 1) := by decide +kernel
theorem dX2_holdNumbersOutOf_24 : decode cX2_holdNumbersOutOf 24 = .ok (.getfield 9, 3) := by decide +kernel
theorem dX2_holdNumbersOutOf_27 : decode cX2_holdNumbersOutOf 27 = .ok (.aload_n 0, 1) := by decide +kernel
theorem dX2_holdNumbersOutOf_28 : decode cX2_holdNumbersOutOf 28 = .ok (.getfield 15, 3) := by decide +kernel
theorem dX2_holdNumbersOutOf_31 : decode cX2_holdNumbersOutOf 31 = .ok (.iload_n 2, 1) := by decide +kernel
theorem dX2_holdNumbersOutOf_32 : decode cX2_holdNumbersOutOf 32 = .ok (.iastore, 1) := by decide +kernel
theorem dX2_holdNumbersOutOf_33 : decode cX2_holdNumbersOutOf 33 = .ok (.aload_n 0, 1) := by decide +kernel
theorem dX2_holdNumbersOutOf_34 : decode cX2_holdNumbersOutOf 34 = .ok (.dup, 1) := by decide +kernel
theorem dX2_holdNumbersOutOf_35 : decode cX2_holdNumbersOutOf 35 = .ok (.getfield 15, 3) := by decide +kernel
theorem dX2_holdNumbersOutOf_38 : decode cX2_holdNumbersOutOf 38 = .ok (.iconst 1, 1) := by decide +kernel
theorem dX2_holdNumbersOutOf_39 : decode cX2_holdNumbersOutOf 39 = .ok (.iadd, 1) := by decide +kernel
theorem dX2_holdNumbersOutOf_40 : decode cX2_holdNumbersOutOf 40 = .ok (.putfield 15, 3) := by decide +kernel
theorem dX2_holdNumbersOutOf_43 : decode cX2_holdNumbersOutOf 43 = .ok (.iinc 2 1, 3) := by decide +kernel
theorem dX2_holdNumbersOutOf_46 : decode cX2_holdNumbersOutOf 46 = .ok (.goto (-39), 3) := by decide +kernel
theorem dX2_holdNumbersOutOf_49 : decode cX2_holdNumbersOutOf 49 = .ok (.return_, 1) := by decide +kernel
theorem dX2_byLot_0 : decode cX2_byLot 0 = .ok (.aload_n 0, 1) := by decide +kernel
theorem dX2_byLot_1 : decode cX2_byLot 1 = .ok (.getfield 15, 3) := by decide +kernel
theorem dX2_byLot_4 : decode cX2_byLot 4 = .ok (.ifCond .le 17, 3) := by decide +kernel
theorem dX2_byLot_7 : decode cX2_byLot 7 = .ok (.aload_n 0, 1) := by decide +kernel
theorem dX2_byLot_8 : decode cX2_byLot 8 = .ok (.getfield 9, 3) := by decide +kernel
theorem dX2_byLot_11 : decode cX2_byLot 11 = .ok (.iload_n 1, 1) := by decide +kernel
theorem dX2_byLot_12 : decode cX2_byLot 12 = .ok (.aload_n 0, 1) := by decide +kernel
theorem dX2_byLot_13 : decode cX2_byLot 13 = .ok (.getfield 15, 3) := by decide +kernel
theorem dX2_byLot_16 : decode cX2_byLot 16 = .ok (.irem, 1) := by decide +kernel
theorem dX2_byLot_17 : decode cX2_byLot 17 = .ok (.iaload, 1) := by decide +kernel
theorem dX2_byLot_18 : decode cX2_byLot 18 = .ok (.goto 4, 3) := by decide +kernel
theorem dX2_byLot_21 : decode cX2_byLot 21 = .ok (.iconst (-1), 1) := by decide +kernel
theorem dX2_byLot_22 : decode cX2_byLot 22 = .ok (.ireturn, 1) := by decide +kernel
theorem dX2_takeOut_0 : decode cX2_takeOut 0 = .ok (.aload_n 0, 1) := by decide +kernel
theorem dX2_takeOut_1 : decode cX2_takeOut 1 = .ok (.getfield 15, 3) := by decide +kernel
theorem dX2_takeOut_4 : decode cX2_takeOut 4 = .ok (.ifCond .ne 5, 3) := by decide +kernel
theorem dX2_takeOut_7 : decode cX2_takeOut 7 = .ok (.iconst (-1), 1) := by decide +kernel
theorem dX2_takeOut_8 : decode cX2_takeOut 8 = .ok (.ireturn, 1) := by decide +kernel
theorem dX2_takeOut_9 : decode cX2_takeOut 9 = .ok (.iload_n 1, 1) := by decide +kernel
theorem dX2_takeOut_10 : decode cX2_takeOut 10 = .ok (.aload_n 0, 1) := by decide +kernel
theorem dX2_takeOut_11 : decode cX2_takeOut 11 = .ok (.getfield 15, 3) := by decide +kernel
theorem dX2_takeOut_14 : decode cX2_takeOut 14 = .ok (.irem, 1) := by decide +kernel
theorem dX2_takeOut_15 : decode cX2_takeOut 15 = .ok (.istore_n 2, 1) := by decide +kernel
theorem dX2_takeOut_16 : decode cX2_takeOut 16 = .ok (.aload_n 0, 1) := by decide +kernel
theorem dX2_takeOut_17 : decode cX2_takeOut 17 = .ok (.getfield 9, 3) := by decide +kernel
theorem dX2_takeOut_20 : decode cX2_takeOut 20 = .ok (.iload_n 2, 1) := by decide +kernel
theorem dX2_takeOut_21 : decode cX2_takeOut 21 = .ok (.iaload, 1) := by decide +kernel
theorem dX2_takeOut_22 : decode cX2_takeOut 22 = .ok (.istore_n 3, 1) := by decide +kernel
theorem dX2_takeOut_23 : decode cX2_takeOut 23 = .ok (.aload_n 0, 1) := by decide +kernel
theorem dX2_takeOut_24 : decode cX2_takeOut 24 = .ok (.dup, 1) := by decide +kernel
theorem dX2_takeOut_25 : decode cX2_takeOut 25 = .ok (.getfield 15, 3) := by decide +kernel
theorem dX2_takeOut_28 : decode cX2_takeOut 28 = .ok (.iconst 1, 1) := by decide +kernel
theorem dX2_takeOut_29 : decode cX2_takeOut 29 = .ok (.isub, 1) := by decide +kernel
theorem dX2_takeOut_30 : decode cX2_takeOut 30 = .ok (.putfield 15, 3) := by decide +kernel
theorem dX2_takeOut_33 : decode cX2_takeOut 33 = .ok (.aload_n 0, 1) := by decide +kernel
theorem dX2_takeOut_34 : decode cX2_takeOut 34 = .ok (.getfield 9, 3) := by decide +kernel
theorem dX2_takeOut_37 : decode cX2_takeOut 37 = .ok (.iload_n 2, 1) := by decide +kernel
theorem dX2_takeOut_38 : decode cX2_takeOut 38 = .ok (.iconst 1, 1) := by decide +kernel
theorem dX2_takeOut_39 : decode cX2_takeOut 39 = .ok (.iadd, 1) := by decide +kernel
theorem dX2_takeOut_40 : decode cX2_takeOut 40 = .ok (.aload_n 0, 1) := by decide +kernel
theorem dX2_takeOut_41 : decode cX2_takeOut 41 = .ok (.getfield 9, 3) := by decide +kernel
theorem dX2_takeOut_44 : decode cX2_takeOut 44 = .ok (.iload_n 2, 1) := by decide +kernel
theorem dX2_takeOut_45 : decode cX2_takeOut 45 = .ok (.aload_n 0, 1) := by decide +kernel
theorem dX2_takeOut_46 : decode cX2_takeOut 46 = .ok (.getfield 15, 3) := by decide +kernel
theorem dX2_takeOut_49 : decode cX2_takeOut 49 = .ok (.iload_n 2, 1) := by decide +kernel
theorem dX2_takeOut_50 : decode cX2_takeOut 50 = .ok (.isub, 1) := by decide +kernel
theorem dX2_takeOut_51 : decode cX2_takeOut 51 = .ok (.invokestatic 19, 3) := by decide +kernel
theorem dX2_takeOut_54 : decode cX2_takeOut 54 = .ok (.iload_n 3, 1) := by decide +kernel
theorem dX2_takeOut_55 : decode cX2_takeOut 55 = .ok (.ireturn, 1) := by decide +kernel
theorem dX3_init_0 : decode cX3_init 0 = .ok (.aload_n 0, 1) := by decide +kernel
theorem dX3_init_1 : decode cX3_init 1 = .ok (.invokespecial 3, 3) := by decide +kernel
theorem dX3_init_4 : decode cX3_init 4 = .ok (.aload_n 0, 1) := by decide +kernel
theorem dX3_init_5 : decode cX3_init 5 = .ok (.new 9, 3) := by decide +kernel
theorem dX3_init_8 : decode cX3_init 8 = .ok (.dup, 1) := by decide +kernel
theorem dX3_init_9 : decode cX3_init 9 = .ok (.invokespecial 11, 3) := by decide +kernel
theorem dX3_init_12 : decode cX3_init 12 = .ok (.putfield 12, 3) := by decide +kernel
theorem dX3_init_15 : decode cX3_init 15 = .ok (.aload_n 0, 1) := by decide +kernel
theorem dX3_init_16 : decode cX3_init 16 = .ok (.bipush 90, 2) := by decide +kernel
theorem dX3_init_18 : decode cX3_init 18 = .ok (.newarray .int, 2) := by decide +kernel
theorem dX3_init_20 : decode cX3_init 20 = .ok (.putfield 18, 3) := by decide +kernel
theorem dX3_init_23 : decode cX3_init 23 = .ok (.aload_n 0, 1) := by decide +kernel
theorem dX3_init_24 : decode cX3_init 24 = .ok (.bipush 90, 2) := by decide +kernel
theorem dX3_init_26 : decode cX3_init 26 = .ok (.newarray .int, 2) := by decide +kernel
theorem dX3_init_28 : decode cX3_init 28 = .ok (.putfield 22, 3) := by decide +kernel
theorem dX3_init_31 : decode cX3_init 31 = .ok (.aload_n 0, 1) := by decide +kernel
theorem dX3_init_32 : decode cX3_init 32 = .ok (.bipush 91, 2) := by decide +kernel
theorem dX3_init_34 : decode cX3_init 34 = .ok (.newarray .int, 2) := by decide +kernel
theorem dX3_init_36 : decode cX3_init 36 = .ok (.putfield 25, 3) := by decide +kernel
theorem dX3_init_39 : decode cX3_init 39 = .ok (.aload_n 0, 1) := by decide +kernel
theorem dX3_init_40 : decode cX3_init 40 = .ok (.bipush 91, 2) := by decide +kernel
theorem dX3_init_42 : decode cX3_init 42 = .ok (.newarray .int, 2) := by decide +kernel
theorem dX3_init_44 : decode cX3_init 44 = .ok (.putfield 28, 3) := by decide +kernel
theorem dX3_init_47 : decode cX3_init 47 = .ok (.aload_n 0, 1) := by decide +kernel
theorem dX3_init_48 : decode cX3_init 48 = .ok (.iconst 4, 1) := by decide +kernel
theorem dX3_init_49 : decode cX3_init 49 = .ok (.newarray .int, 2) := by decide +kernel
theorem dX3_init_51 : decode cX3_init 51 = .ok (.putfield 31, 3) := by decide +kernel
theorem dX3_init_54 : decode cX3_init 54 = .ok (.aload_n 0, 1) := by decide +kernel
theorem dX3_init_55 : decode cX3_init 55 = .ok (.iconst 4, 1) := by decide +kernel
theorem dX3_init_56 : decode cX3_init 56 = .ok (.newarray .int, 2) := by decide +kernel
theorem dX3_init_58 : decode cX3_init 58 = .ok (.putfield 34, 3) := by decide +kernel
theorem dX3_init_61 : decode cX3_init 61 = .ok (.aload_n 0, 1) := by decide +kernel
theorem dX3_init_62 : decode cX3_init 62 = .ok (.getfield 12, 3) := by decide +kernel
theorem dX3_init_65 : decode cX3_init 65 = .ok (.invokevirtual 37, 3) := by decide +kernel
theorem dX3_init_68 : decode cX3_init 68 = .ok (.return_, 1) := by decide +kernel
theorem dX3_copyFrom_0 : decode cX3_copyFrom 0 = .ok (.aload_n 0, 1) := by decide +kernel
theorem dX3_copyFrom_1 : decode cX3_copyFrom 1 = .ok (.getfield 12, 3) := by decide +kernel
theorem dX3_copyFrom_4 : decode cX3_copyFrom 4 = .ok (.aload_n 1, 1) := by decide +kernel
theorem dX3_copyFrom_5 : decode cX3_copyFrom 5 = .ok (.getfield 12, 3) := by decide +kernel
theorem dX3_copyFrom_8 : decode cX3_copyFrom 8 = .ok (.invokevirtual 40, 3) := by decide +kernel
theorem dX3_copyFrom_11 : decode cX3_copyFrom 11 = .ok (.aload_n 1, 1) := by decide +kernel
theorem dX3_copyFrom_12 : decode cX3_copyFrom 12 = .ok (.getfield 18, 3) := by decide +kernel
theorem dX3_copyFrom_15 : decode cX3_copyFrom 15 = .ok (.iconst 0, 1) := by decide +kernel
theorem dX3_copyFrom_16 : decode cX3_copyFrom 16 = .ok (.aload_n 0, 1) := by decide +kernel
theorem dX3_copyFrom_17 : decode cX3_copyFrom 17 = .ok (.getfield 18, 3) := by decide +kernel
theorem dX3_copyFrom_20 : decode cX3_copyFrom 20 = .ok (.iconst 0, 1) := by decide +kernel
theorem dX3_copyFrom_21 : decode cX3_copyFrom 21 = .ok (.bipush 90, 2) := by decide +kernel
theorem dX3_copyFrom_23 : decode cX3_copyFrom 23 = .ok (.invokestatic 44, 3) := by decide +kernel
theorem dX3_copyFrom_26 : decode cX3_copyFrom 26 = .ok (.aload_n 1, 1) := by decide +kernel
theorem dX3_copyFrom_27 : decode cX3_copyFrom 27 = .ok (.getfield 22, 3) := by decide +kernel
theorem dX3_copyFrom_30 : decode cX3_copyFrom 30 = .ok (.iconst 0, 1) := by decide +kernel
theorem dX3_copyFrom_31 : decode cX3_copyFrom 31 = .ok (.aload_n 0, 1) := by decide +kernel
theorem dX3_copyFrom_32 : decode cX3_copyFrom 32 = .ok (.getfield 22, 3) := by decide +kernel
theorem dX3_copyFrom_35 : decode cX3_copyFrom 35 = .ok (.iconst 0, 1) := by decide +kernel
theorem dX3_copyFrom_36 : decode cX3_copyFrom 36 = .ok (.bipush 90, 2) := by decide +kernel
theorem dX3_copyFrom_38 : decode cX3_copyFrom 38 = .ok (.invokestatic 44, 3) := by decide +kernel
theorem dX3_copyFrom_41 : decode cX3_copyFrom 41 = .ok (.aload_n 1, 1) := by decide +kernel
theorem dX3_copyFrom_42 : decode cX3_copyFrom 42 = .ok (.getfield 25, 3) := by decide +kernel
theorem dX3_copyFrom_45 : decode cX3_copyFrom 45 = .ok (.iconst 0, 1) := by decide +kernel
theorem dX3_copyFrom_46 : decode cX3_copyFrom 46 = .ok (.aload_n 0, 1) := by decide +kernel
theorem dX3_copyFrom_47 : decode cX3_copyFrom 47 = .ok (.getfield 25, 3) := by decide +kernel
theorem dX3_copyFrom_50 : decode cX3_copyFrom 50 = .ok (.iconst 0, 1) := by decide +kernel
theorem dX3_copyFrom_51 : decode cX3_copyFrom 51 = .ok (.bipush 91, 2) := by decide +kernel
theorem dX3_copyFrom_53 : decode cX3_copyFrom 53 = .ok (.invokestatic 44, 3) := by decide +kernel
theorem dX3_copyFrom_56 : decode cX3_copyFrom 56 = .ok (.aload_n 1, 1) := by decide +kernel
theorem dX3_copyFrom_57 : decode cX3_copyFrom 57 = .ok (.getfield 28, 3) := by decide +kernel
theorem dX3_copyFrom_60 : decode cX3_copyFrom 60 = .ok (.iconst 0, 1) := by decide +kernel
theorem dX3_copyFrom_61 : decode cX3_copyFrom 61 = .ok (.aload_n 0, 1) := by decide +kernel
theorem dX3_copyFrom_62 : decode cX3_copyFrom 62 = .ok (.getfield 28, 3) := by decide +kernel
theorem dX3_copyFrom_65 : decode cX3_copyFrom 65 = .ok (.iconst 0, 1) := by decide +kernel
theorem dX3_copyFrom_66 : decode cX3_copyFrom 66 = .ok (.bipush 91, 2) := by decide +kernel
theorem dX3_copyFrom_68 : decode cX3_copyFrom 68 = .ok (.invokestatic 44, 3) := by decide +kernel
theorem dX3_copyFrom_71 : decode cX3_copyFrom 71 = .ok (.aload_n 1, 1) := by decide +kernel
theorem dX3_copyFrom_72 : decode cX3_copyFrom 72 = .ok (.getfield 31, 3) := by decide +kernel
theorem dX3_copyFrom_75 : decode cX3_copyFrom 75 = .ok (.iconst 0, 1) := by decide +kernel
theorem dX3_copyFrom_76 : decode cX3_copyFrom 76 = .ok (.aload_n 0, 1) := by decide +kernel
theorem dX3_copyFrom_77 : decode cX3_copyFrom 77 = .ok (.getfield 31, 3) := by decide +kernel
theorem dX3_copyFrom_80 : decode cX3_copyFrom 80 = .ok (.iconst 0, 1) := by decide +kernel
theorem dX3_copyFrom_81 : decode cX3_copyFrom 81 = .ok (.iconst 4, 1) := by decide +kernel
theorem dX3_copyFrom_82 : decode cX3_copyFrom 82 = .ok (.invokestatic 44, 3) := by decide +kernel
theorem dX3_copyFrom_85 : decode cX3_copyFrom 85 = .ok (.aload_n 1, 1) := by decide +kernel
theorem dX3_copyFrom_86 : decode cX3_copyFrom 86 = .ok (.getfield 34, 3) := by decide +kernel
theorem dX3_copyFrom_89 : decode cX3_copyFrom 89 = .ok (.iconst 0, 1) := by decide +kernel
theorem dX3_copyFrom_90 : decode cX3_copyFrom 90 = .ok (.aload_n 0, 1) := by decide +kernel
theorem dX3_copyFrom_91 : decode cX3_copyFrom 91 = .ok (.getfield 34, 3) := by decide +kernel
theorem dX3_copyFrom_94 : decode cX3_copyFrom 94 = .ok (.iconst 0, 1) := by decide +kernel
theorem dX3_copyFrom_95 : decode cX3_copyFrom 95 = .ok (.iconst 4, 1) := by decide +kernel
theorem dX3_copyFrom_96 : decode cX3_copyFrom 96 = .ok (.invokestatic 44, 3) := by decide +kernel
theorem dX3_copyFrom_99 : decode cX3_copyFrom 99 = .ok (.aload_n 0, 1) := by decide +kernel
theorem dX3_copyFrom_100 : decode cX3_copyFrom 100 = .ok (.aload_n 1, 1) := by decide +kernel
theorem dX3_copyFrom_101 : decode cX3_copyFrom 101 = .ok (.getfield 50, 3) := by decide +kernel
theorem dX3_copyFrom_104 : decode cX3_copyFrom 104 = .ok (.putfield 50, 3) := by decide +kernel
theorem dX3_copyFrom_107 : decode cX3_copyFrom 107 = .ok (.aload_n 0, 1) := by decide +kernel
theorem dX3_copyFrom_108 : decode cX3_copyFrom 108 = .ok (.aload_n 1, 1) := by decide +kernel
theorem dX3_copyFrom_109 : decode cX3_copyFrom 109 = .ok (.getfield 54, 3) := by decide +kernel
theorem dX3_copyFrom_112 : decode cX3_copyFrom 112 = .ok (.putfield 54, 3) := by decide +kernel
theorem dX3_copyFrom_115 : decode cX3_copyFrom 115 = .ok (.aload_n 0, 1) := by decide +kernel
theorem dX3_copyFrom_116 : decode cX3_copyFrom 116 = .ok (.aload_n 1, 1) := by decide +kernel
theorem dX3_copyFrom_117 : decode cX3_copyFrom 117 = .ok (.getfield 57, 3) := by decide +kernel
theorem dX3_copyFrom_120 : decode cX3_copyFrom 120 = .ok (.putfield 57, 3) := by decide +kernel
theorem dX3_copyFrom_123 : decode cX3_copyFrom 123 = .ok (.return_, 1) := by decide +kernel
theorem dX3_begin_0 : decode cX3_begin 0 = .ok (.aload_n 0, 1) := by decide +kernel
theorem dX3_begin_1 : decode cX3_begin 1 = .ok (.getfield 12, 3) := by decide +kernel
theorem dX3_begin_4 : decode cX3_begin 4 = .ok (.invokevirtual 37, 3) := by decide +kernel
theorem dX3_begin_7 : decode cX3_begin 7 = .ok (.aload_n 0, 1) := by decide +kernel
theorem dX3_begin_8 : decode cX3_begin 8 = .ok (.getfield 25, 3) := by decide +kernel
theorem dX3_begin_11 : decode cX3_begin 11 = .ok (.iconst 0, 1) := by decide +kernel
theorem dX3_begin_12 : decode cX3_begin 12 = .ok (.invokestatic 60, 3) := by decide +kernel
theorem dX3_begin_15 : decode cX3_begin 15 = .ok (.aload_n 0, 1) := by decide +kernel
theorem dX3_begin_16 : decode cX3_begin 16 = .ok (.getfield 28, 3) := by decide +kernel
theorem dX3_begin_19 : decode cX3_begin 19 = .ok (.iconst 0, 1) := by decide +kernel
theorem dX3_begin_20 : decode cX3_begin 20 = .ok (.invokestatic 60, 3) := by decide +kernel
theorem dX3_begin_23 : decode cX3_begin 23 = .ok (.aload_n 0, 1) := by decide +kernel
theorem dX3_begin_24 : decode cX3_begin 24 = .ok (.getfield 31, 3) := by decide +kernel
theorem dX3_begin_27 : decode cX3_begin 27 = .ok (.iconst 0, 1) := by decide +kernel
theorem dX3_begin_28 : decode cX3_begin 28 = .ok (.invokestatic 60, 3) := by decide +kernel
theorem dX3_begin_31 : decode cX3_begin 31 = .ok (.aload_n 0, 1) := by decide +kernel
theorem dX3_begin_32 : decode cX3_begin 32 = .ok (.getfield 34, 3) := by decide +kernel
theorem dX3_begin_35 : decode cX3_begin 35 = .ok (.iconst 0, 1) := by decide +kernel
theorem dX3_begin_36 : decode cX3_begin 36 = .ok (.invokestatic 60, 3) := by decide +kernel
theorem dX3_begin_39 : decode cX3_begin 39 = .ok (.aload_n 0, 1) := by decide +kernel
theorem dX3_begin_40 : decode cX3_begin 40 = .ok (.iconst 0, 1) := by decide +kernel
theorem dX3_begin_41 : decode cX3_begin 41 = .ok (.putfield 50, 3) := by decide +kernel
theorem dX3_begin_44 : decode cX3_begin 44 = .ok (.aload_n 0, 1) := by decide +kernel
theorem dX3_begin_45 : decode cX3_begin 45 = .ok (.iconst 0, 1) := by decide +kernel
theorem dX3_begin_46 : decode cX3_begin 46 = .ok (.putfield 54, 3) := by decide +kernel
theorem dX3_begin_49 : decode cX3_begin 49 = .ok (.aload_n 0, 1) := by decide +kernel
theorem dX3_begin_50 : decode cX3_begin 50 = .ok (.iconst 0, 1) := by decide +kernel
theorem dX3_begin_51 : decode cX3_begin 51 = .ok (.putfield 57, 3) := by decide +kernel
theorem dX3_begin_54 : decode cX3_begin 54 = .ok (.return_, 1) := by decide +kernel
theorem dX3_isBought_0 : decode cX3_isBought 0 = .ok (.aload_n 0, 1) := by decide +kernel
theorem dX3_isBought_1 : decode cX3_isBought 1 = .ok (.getfield 50, 3) := by decide +kernel
theorem dX3_isBought_4 : decode cX3_isBought 4 = .ok (.iconst 1, 1) := by decide +kernel
theorem dX3_isBought_5 : decode cX3_isBought 5 = .ok (.iload_n 1, 1) := by decide +kernel
theorem dX3_isBought_6 : decode cX3_isBought 6 = .ok (.ishl, 1) := by decide +kernel
theorem dX3_isBought_7 : decode cX3_isBought 7 = .ok (.iand, 1) := by decide +kernel
theorem dX3_isBought_8 : decode cX3_isBought 8 = .ok (.ifCond .eq 7, 3) := by decide +kernel
theorem dX3_isBought_11 : decode cX3_isBought 11 = .ok (.iconst 1, 1) := by decide +kernel
theorem dX3_isBought_12 : decode cX3_isBought 12 = .ok (.goto 4, 3) := by decide +kernel
theorem dX3_isBought_15 : decode cX3_isBought 15 = .ok (.iconst 0, 1) := by decide +kernel
theorem dX3_isBought_16 : decode cX3_isBought 16 = .ok (.ireturn, 1) := by decide +kernel
theorem dX3_gamesWonBy_0 : decode cX3_gamesWonBy 0 = .ok (.iconst 0, 1) := by decide +kernel
theorem dX3_gamesWonBy_1 : decode cX3_gamesWonBy 1 = .ok (.istore_n 2, 1) := by decide +kernel
theorem dX3_gamesWonBy_2 : decode cX3_gamesWonBy 2 = .ok (.iconst 0, 1) := by decide +kernel
theorem dX3_gamesWonBy_3 : decode cX3_gamesWonBy 3 = .ok (.istore_n 3, 1) := by decide +kernel
theorem dX3_gamesWonBy_4 : decode cX3_gamesWonBy 4 = .ok (.iload_n 3, 1) := by decide +kernel
theorem dX3_gamesWonBy_5 : decode cX3_gamesWonBy 5 = .ok (.iconst 4, 1) := by decide +kernel
theorem dX3_gamesWonBy_6 : decode cX3_gamesWonBy 6 = .ok (.if_icmp .ge 24, 3) := by decide +kernel
theorem dX3_gamesWonBy_9 : decode cX3_gamesWonBy 9 = .ok (.iload_n 2, 1) := by decide +kernel
theorem dX3_gamesWonBy_10 : decode cX3_gamesWonBy 10 = .ok (.aload_n 0, 1) := by decide +kernel
theorem dX3_gamesWonBy_11 : decode cX3_gamesWonBy 11 = .ok (.getfield 31, 3) := by decide +kernel
theorem dX3_gamesWonBy_14 : decode cX3_gamesWonBy 14 = .ok (.iload_n 3, 1) := by decide +kernel
theorem dX3_gamesWonBy_15 : decode cX3_gamesWonBy 15 = .ok (.iaload, 1) := by decide +kernel
theorem dX3_gamesWonBy_16 : decode cX3_gamesWonBy 16 = .ok (.iload_n 1, 1) := by decide +kernel
theorem dX3_gamesWonBy_17 : decode cX3_gamesWonBy 17 = .ok (.ishr, 1) := by decide +kernel
theorem dX3_gamesWonBy_18 : decode cX3_gamesWonBy 18 = .ok (.iconst 1, 1) := by decide +kernel
theorem dX3_gamesWonBy_19 : decode cX3_gamesWonBy 19 = .ok (.iand, 1) := by decide +kernel
theorem dX3_gamesWonBy_20 : decode cX3_gamesWonBy 20 = .ok (.iload_n 3, 1) := by decide +kernel
theorem dX3_gamesWonBy_21 : decode cX3_gamesWonBy 21 = .ok (.ishl, 1) := by decide +kernel
theorem dX3_gamesWonBy_22 : decode cX3_gamesWonBy 22 = .ok (.ior, 1) := by decide +kernel
theorem dX3_gamesWonBy_23 : decode cX3_gamesWonBy 23 = .ok (.istore_n 2, 1) := by decide +kernel
theorem dX3_gamesWonBy_24 : decode cX3_gamesWonBy 24 = .ok (.iinc 3 1, 3) := by decide +kernel
theorem dX3_gamesWonBy_27 : decode cX3_gamesWonBy 27 = .ok (.goto (-23), 3) := by decide +kernel
theorem dX3_gamesWonBy_30 : decode cX3_gamesWonBy 30 = .ok (.iload_n 2, 1) := by decide +kernel
theorem dX3_gamesWonBy_31 : decode cX3_gamesWonBy 31 = .ok (.ireturn, 1) := by decide +kernel
theorem dX3_lastDrawn_0 : decode cX3_lastDrawn 0 = .ok (.aload_n 0, 1) := by decide +kernel
theorem dX3_lastDrawn_1 : decode cX3_lastDrawn 1 = .ok (.getfield 54, 3) := by decide +kernel
theorem dX3_lastDrawn_4 : decode cX3_lastDrawn 4 = .ok (.ifCond .le 17, 3) := by decide +kernel
theorem dX3_lastDrawn_7 : decode cX3_lastDrawn 7 = .ok (.aload_n 0, 1) := by decide +kernel
theorem dX3_lastDrawn_8 : decode cX3_lastDrawn 8 = .ok (.getfield 18, 3) := by decide +kernel
theorem dX3_lastDrawn_11 : decode cX3_lastDrawn 11 = .ok (.aload_n 0, 1) := by decide +kernel
theorem dX3_lastDrawn_12 : decode cX3_lastDrawn 12 = .ok (.getfield 54, 3) := by decide +kernel
theorem dX3_lastDrawn_15 : decode cX3_lastDrawn 15 = .ok (.iconst 1, 1) := by decide +kernel
theorem dX3_lastDrawn_16 : decode cX3_lastDrawn 16 = .ok (.isub, 1) := by decide +kernel
theorem dX3_lastDrawn_17 : decode cX3_lastDrawn 17 = .ok (.iaload, 1) := by decide +kernel
theorem dX3_lastDrawn_18 : decode cX3_lastDrawn 18 = .ok (.goto 4, 3) := by decide +kernel
theorem dX3_lastDrawn_21 : decode cX3_lastDrawn 21 = .ok (.iconst (-1), 1) := by decide +kernel
theorem dX3_lastDrawn_22 : decode cX3_lastDrawn 22 = .ok (.ireturn, 1) := by decide +kernel
theorem dX3_tell_0 : decode cX3_tell 0 = .ok (.aload_n 0, 1) := by decide +kernel
theorem dX3_tell_1 : decode cX3_tell 1 = .ok (.getfield 54, 3) := by decide +kernel
theorem dX3_tell_4 : decode cX3_tell 4 = .ok (.bipush 90, 2) := by decide +kernel
theorem dX3_tell_6 : decode cX3_tell 6 = .ok (.if_icmp .lt 4, 3) := by decide +kernel
theorem dX3_tell_9 : decode cX3_tell 9 = .ok (.return_, 1) := by decide +kernel
theorem dX3_tell_10 : decode cX3_tell 10 = .ok (.iload_n 2, 1) := by decide +kernel
theorem dX3_tell_11 : decode cX3_tell 11 = .ok (.ifCond .le 18, 3) := by decide +kernel
theorem dX3_tell_14 : decode cX3_tell 14 = .ok (.aload_n 0, 1) := by decide +kernel
theorem dX3_tell_15 : decode cX3_tell 15 = .ok (.getfield 54, 3) := by decide +kernel
theorem dX3_tell_18 : decode cX3_tell 18 = .ok (.iconst 1, 1) := by decide +kernel
theorem dX3_tell_19 : decode cX3_tell 19 = .ok (.iadd, 1) := by decide +kernel
theorem dX3_tell_20 : decode cX3_tell 20 = .ok (.iload_n 2, 1) := by decide +kernel
theorem dX3_tell_21 : decode cX3_tell 21 = .ok (.irem, 1) := by decide +kernel
theorem dX3_tell_22 : decode cX3_tell 22 = .ok (.ifCond .ne 7, 3) := by decide +kernel
theorem dX3_tell_25 : decode cX3_tell 25 = .ok (.iconst 1, 1) := by decide +kernel
theorem dX3_tell_26 : decode cX3_tell 26 = .ok (.goto 4, 3) := by decide +kernel
theorem dX3_tell_29 : decode cX3_tell 29 = .ok (.iconst 0, 1) := by decide +kernel
theorem dX3_tell_30 : decode cX3_tell 30 = .ok (.istore_n 3, 1) := by decide +kernel
theorem dX3_tell_31 : decode cX3_tell 31 = .ok (.iload_n 3, 1) := by decide +kernel
theorem dX3_tell_32 : decode cX3_tell 32 = .ok (.ifCond .eq 12, 3) := by decide +kernel
theorem dX3_tell_35 : decode cX3_tell 35 = .ok (.iload_n 1, 1) := by decide +kernel
theorem dX3_tell_36 : decode cX3_tell 36 = .ok (.bipush 90, 2) := by decide +kernel
theorem dX3_tell_38 : decode cX3_tell 38 = .ok (.irem, 1) := by decide +kernel
theorem dX3_tell_39 : decode cX3_tell 39 = .ok (.iconst 1, 1) := by decide +kernel
theorem dX3_tell_40 : decode cX3_tell 40 = .ok (.iadd, 1) := by decide +kernel
theorem dX3_tell_41 : decode cX3_tell 41 = .ok (.goto 4, 3) := by decide +kernel
