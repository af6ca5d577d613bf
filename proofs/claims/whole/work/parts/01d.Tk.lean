theorem dTk_init_0 : decode cTk_init 0 = .ok (.aload_n 0, 1) := by decide +kernel
theorem dTk_init_1 : decode cTk_init 1 = .ok (.invokespecial 5, 3) := by decide +kernel
theorem dTk_init_4 : decode cTk_init 4 = .ok (.aload_n 0, 1) := by decide +kernel
theorem dTk_init_5 : decode cTk_init 5 = .ok (.bipush 8, 2) := by decide +kernel
theorem dTk_init_7 : decode cTk_init 7 = .ok (.newarray .int, 2) := by decide +kernel
theorem dTk_init_9 : decode cTk_init 9 = .ok (.putfield 11, 3) := by decide +kernel
theorem dTk_init_12 : decode cTk_init 12 = .ok (.aload_n 0, 1) := by decide +kernel
theorem dTk_init_13 : decode cTk_init 13 = .ok (.bipush 8, 2) := by decide +kernel
theorem dTk_init_15 : decode cTk_init 15 = .ok (.newarray .int, 2) := by decide +kernel
theorem dTk_init_17 : decode cTk_init 17 = .ok (.putfield 15, 3) := by decide +kernel
theorem dTk_init_20 : decode cTk_init 20 = .ok (.iconst 0, 1) := by decide +kernel
theorem dTk_init_21 : decode cTk_init 21 = .ok (.istore_n 1, 1) := by decide +kernel
theorem dTk_init_22 : decode cTk_init 22 = .ok (.iload_n 1, 1) := by decide +kernel
theorem dTk_init_23 : decode cTk_init 23 = .ok (.bipush 8, 2) := by decide +kernel
theorem dTk_init_25 : decode cTk_init 25 = .ok (.if_icmp .ge 18, 3) := by decide +kernel
theorem dTk_init_28 : decode cTk_init 28 = .ok (.aload_n 0, 1) := by decide +kernel
theorem dTk_init_29 : decode cTk_init 29 = .ok (.getfield 11, 3) := by decide +kernel
theorem dTk_init_32 : decode cTk_init 32 = .ok (.iload_n 1, 1) := by decide +kernel
theorem dTk_init_33 : decode cTk_init 33 = .ok (.sipush 320, 3) := by decide +kernel
theorem dTk_init_36 : decode cTk_init 36 = .ok (.iastore, 1) := by decide +kernel
theorem dTk_init_37 : decode cTk_init 37 = .ok (.iinc 1 1, 3) := by decide +kernel
theorem dTk_init_40 : decode cTk_init 40 = .ok (.goto (-18), 3) := by decide +kernel
theorem dTk_init_43 : decode cTk_init 43 = .ok (.return_, 1) := by decide +kernel
theorem dTk_greatestSafeSquare_0 : decode cTk_greatestSafeSquare 0 = .ok (.bipush 12, 2) := by decide +kernel
theorem dTk_greatestSafeSquare_2 : decode cTk_greatestSafeSquare 2 = .ok (.iload_n 1, 1) := by decide +kernel
theorem dTk_greatestSafeSquare_3 : decode cTk_greatestSafeSquare 3 = .ok (.iload_n 2, 1) := by decide +kernel
theorem dTk_greatestSafeSquare_4 : decode cTk_greatestSafeSquare 4 = .ok (.isub, 1) := by decide +kernel
theorem dTk_greatestSafeSquare_5 : decode cTk_greatestSafeSquare 5 = .ok (.imul, 1) := by decide +kernel
theorem dTk_greatestSafeSquare_6 : decode cTk_greatestSafeSquare 6 = .ok (.istore 4, 2) := by decide +kernel
theorem dTk_greatestSafeSquare_8 : decode cTk_greatestSafeSquare 8 = .ok (.iload_n 2, 1) := by decide +kernel
theorem dTk_greatestSafeSquare_9 : decode cTk_greatestSafeSquare 9 = .ok (.invokestatic 19, 3) := by decide +kernel
theorem dTk_greatestSafeSquare_12 : decode cTk_greatestSafeSquare 12 = .ok (.istore 5, 2) := by decide +kernel
theorem dTk_greatestSafeSquare_14 : decode cTk_greatestSafeSquare 14 = .ok (.iload_n 3, 1) := by decide +kernel
theorem dTk_greatestSafeSquare_15 : decode cTk_greatestSafeSquare 15 = .ok (.invokestatic 19, 3) := by decide +kernel
theorem dTk_greatestSafeSquare_18 : decode cTk_greatestSafeSquare 18 = .ok (.istore 6, 2) := by decide +kernel
theorem dTk_greatestSafeSquare_20 : decode cTk_greatestSafeSquare 20 = .ok (.iload 6, 2) := by decide +kernel
theorem dTk_greatestSafeSquare_22 : decode cTk_greatestSafeSquare 22 = .ok (.bipush 8, 2) := by decide +kernel
theorem dTk_greatestSafeSquare_24 : decode cTk_greatestSafeSquare 24 = .ok (.if_icmp .ge 58, 3) := by decide +kernel
theorem dTk_greatestSafeSquare_27 : decode cTk_greatestSafeSquare 27 = .ok (.iload 6, 2) := by decide +kernel
theorem dTk_greatestSafeSquare_29 : decode cTk_greatestSafeSquare 29 = .ok (.iload 5, 2) := by decide +kernel
theorem dTk_greatestSafeSquare_31 : decode cTk_greatestSafeSquare 31 = .ok (.if_icmp .le 14, 3) := by decide +kernel
theorem dTk_greatestSafeSquare_34 : decode cTk_greatestSafeSquare 34 = .ok (.iload 6, 2) := by decide +kernel
theorem dTk_greatestSafeSquare_36 : decode cTk_greatestSafeSquare 36 = .ok (.sipush 4096, 3) := by decide +kernel
theorem dTk_greatestSafeSquare_39 : decode cTk_greatestSafeSquare 39 = .ok (.imul, 1) := by decide +kernel
theorem dTk_greatestSafeSquare_40 : decode cTk_greatestSafeSquare 40 = .ok (.iload_n 2, 1) := by decide +kernel
theorem dTk_greatestSafeSquare_41 : decode cTk_greatestSafeSquare 41 = .ok (.isub, 1) := by decide +kernel
theorem dTk_greatestSafeSquare_42 : decode cTk_greatestSafeSquare 42 = .ok (.goto 4, 3) := by decide +kernel
theorem dTk_greatestSafeSquare_45 : decode cTk_greatestSafeSquare 45 = .ok (.iconst 0, 1) := by decide +kernel
theorem dTk_greatestSafeSquare_46 : decode cTk_greatestSafeSquare 46 = .ok (.istore 7, 2) := by decide +kernel
theorem dTk_greatestSafeSquare_48 : decode cTk_greatestSafeSquare 48 = .ok (.iload 4, 2) := by decide +kernel
theorem dTk_greatestSafeSquare_50 : decode cTk_greatestSafeSquare 50 = .ok (.aload_n 0, 1) := by decide +kernel
theorem dTk_greatestSafeSquare_51 : decode cTk_greatestSafeSquare 51 = .ok (.getfield 11, 3) := by decide +kernel
theorem dTk_greatestSafeSquare_54 : decode cTk_greatestSafeSquare 54 = .ok (.iload 6, 2) := by decide +kernel
theorem dTk_greatestSafeSquare_56 : decode cTk_greatestSafeSquare 56 = .ok (.iaload, 1) := by decide +kernel
theorem dTk_greatestSafeSquare_57 : decode cTk_greatestSafeSquare 57 = .ok (.aload_n 0, 1) := by decide +kernel
theorem dTk_greatestSafeSquare_58 : decode cTk_greatestSafeSquare 58 = .ok (.getfield 11, 3) := by decide +kernel
theorem dTk_greatestSafeSquare_61 : decode cTk_greatestSafeSquare 61 = .ok (.iload 6, 2) := by decide +kernel
theorem dTk_greatestSafeSquare_63 : decode cTk_greatestSafeSquare 63 = .ok (.iaload, 1) := by decide +kernel
theorem dTk_greatestSafeSquare_64 : decode cTk_greatestSafeSquare 64 = .ok (.imul, 1) := by decide +kernel
theorem dTk_greatestSafeSquare_65 : decode cTk_greatestSafeSquare 65 = .ok (.bipush 12, 2) := by decide +kernel
theorem dTk_greatestSafeSquare_67 : decode cTk_greatestSafeSquare 67 = .ok (.iload 7, 2) := by decide +kernel
theorem dTk_greatestSafeSquare_69 : decode cTk_greatestSafeSquare 69 = .ok (.imul, 1) := by decide +kernel
theorem dTk_greatestSafeSquare_70 : decode cTk_greatestSafeSquare 70 = .ok (.iadd, 1) := by decide +kernel
theorem dTk_greatestSafeSquare_71 : decode cTk_greatestSafeSquare 71 = .ok (.invokestatic 23, 3) := by decide +kernel
theorem dTk_greatestSafeSquare_74 : decode cTk_greatestSafeSquare 74 = .ok (.istore 4, 2) := by decide +kernel
theorem dTk_greatestSafeSquare_76 : decode cTk_greatestSafeSquare 76 = .ok (.iinc 6 1, 3) := by decide +kernel
theorem dTk_greatestSafeSquare_79 : decode cTk_greatestSafeSquare 79 = .ok (.goto (-59), 3) := by decide +kernel
theorem dTk_greatestSafeSquare_82 : decode cTk_greatestSafeSquare 82 = .ok (.iload 4, 2) := by decide +kernel
theorem dTk_greatestSafeSquare_84 : decode cTk_greatestSafeSquare 84 = .ok (.ireturn, 1) := by decide +kernel
theorem dTk_pieceAt_0 : decode cTk_pieceAt 0 = .ok (.iload_n 0, 1) := by decide +kernel
theorem dTk_pieceAt_1 : decode cTk_pieceAt 1 = .ok (.ifCond .ge 5, 3) := by decide +kernel
theorem dTk_pieceAt_4 : decode cTk_pieceAt 4 = .ok (.iconst 0, 1) := by decide +kernel
theorem dTk_pieceAt_5 : decode cTk_pieceAt 5 = .ok (.ireturn, 1) := by decide +kernel
theorem dTk_pieceAt_6 : decode cTk_pieceAt 6 = .ok (.iload_n 0, 1) := by decide +kernel
theorem dTk_pieceAt_7 : decode cTk_pieceAt 7 = .ok (.ldc 18, 2) := by decide +kernel
theorem dTk_pieceAt_9 : decode cTk_pieceAt 9 = .ok (.if_icmp .ge 11, 3) := by decide +kernel
theorem dTk_pieceAt_12 : decode cTk_pieceAt 12 = .ok (.iload_n 0, 1) := by decide +kernel
theorem dTk_pieceAt_13 : decode cTk_pieceAt 13 = .ok (.sipush 4096, 3) := by decide +kernel
theorem dTk_pieceAt_16 : decode cTk_pieceAt 16 = .ok (.idiv, 1) := by decide +kernel
theorem dTk_pieceAt_17 : decode cTk_pieceAt 17 = .ok (.goto 5, 3) := by decide +kernel
theorem dTk_pieceAt_20 : decode cTk_pieceAt 20 = .ok (.bipush 7, 2) := by decide +kernel
theorem dTk_pieceAt_22 : decode cTk_pieceAt 22 = .ok (.ireturn, 1) := by decide +kernel
