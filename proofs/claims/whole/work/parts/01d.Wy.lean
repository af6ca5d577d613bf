theorem dWy_init_0 : decode cWy_init 0 = .ok (.aload_n 0, 1) := by decide +kernel
theorem dWy_init_1 : decode cWy_init 1 = .ok (.invokespecial 3, 3) := by decide +kernel
theorem dWy_init_4 : decode cWy_init 4 = .ok (.aload_n 0, 1) := by decide +kernel
theorem dWy_init_5 : decode cWy_init 5 = .ok (.iconst 4, 1) := by decide +kernel
theorem dWy_init_6 : decode cWy_init 6 = .ok (.newarray .int, 2) := by decide +kernel
theorem dWy_init_8 : decode cWy_init 8 = .ok (.putfield 11, 3) := by decide +kernel
theorem dWy_init_11 : decode cWy_init 11 = .ok (.aload_n 0, 1) := by decide +kernel
theorem dWy_init_12 : decode cWy_init 12 = .ok (.iconst 4, 1) := by decide +kernel
theorem dWy_init_13 : decode cWy_init 13 = .ok (.newarray .boolean, 2) := by decide +kernel
theorem dWy_init_15 : decode cWy_init 15 = .ok (.putfield 15, 3) := by decide +kernel
theorem dWy_init_18 : decode cWy_init 18 = .ok (.aload_n 0, 1) := by decide +kernel
theorem dWy_init_19 : decode cWy_init 19 = .ok (.iconst 2, 1) := by decide +kernel
theorem dWy_init_20 : decode cWy_init 20 = .ok (.newarray .boolean, 2) := by decide +kernel
theorem dWy_init_22 : decode cWy_init 22 = .ok (.putfield 19, 3) := by decide +kernel
theorem dWy_init_25 : decode cWy_init 25 = .ok (.iconst 0, 1) := by decide +kernel
theorem dWy_init_26 : decode cWy_init 26 = .ok (.istore_n 1, 1) := by decide +kernel
theorem dWy_init_27 : decode cWy_init 27 = .ok (.iload_n 1, 1) := by decide +kernel
theorem dWy_init_28 : decode cWy_init 28 = .ok (.iconst 4, 1) := by decide +kernel
theorem dWy_init_29 : decode cWy_init 29 = .ok (.if_icmp .ge 17, 3) := by decide +kernel
theorem dWy_init_32 : decode cWy_init 32 = .ok (.aload_n 0, 1) := by decide +kernel
theorem dWy_init_33 : decode cWy_init 33 = .ok (.getfield 11, 3) := by decide +kernel
theorem dWy_init_36 : decode cWy_init 36 = .ok (.iload_n 1, 1) := by decide +kernel
theorem dWy_init_37 : decode cWy_init 37 = .ok (.ldc 22, 2) := by decide +kernel
theorem dWy_init_39 : decode cWy_init 39 = .ok (.iastore, 1) := by decide +kernel
theorem dWy_init_40 : decode cWy_init 40 = .ok (.iinc 1 1, 3) := by decide +kernel
theorem dWy_init_43 : decode cWy_init 43 = .ok (.goto (-16), 3) := by decide +kernel
theorem dWy_init_46 : decode cWy_init 46 = .ok (.iconst 0, 1) := by decide +kernel
theorem dWy_init_47 : decode cWy_init 47 = .ok (.istore_n 1, 1) := by decide +kernel
theorem dWy_init_48 : decode cWy_init 48 = .ok (.iload_n 1, 1) := by decide +kernel
theorem dWy_init_49 : decode cWy_init 49 = .ok (.iconst 2, 1) := by decide +kernel
theorem dWy_init_50 : decode cWy_init 50 = .ok (.if_icmp .ge 16, 3) := by decide +kernel
theorem dWy_init_53 : decode cWy_init 53 = .ok (.aload_n 0, 1) := by decide +kernel
theorem dWy_init_54 : decode cWy_init 54 = .ok (.getfield 19, 3) := by decide +kernel
theorem dWy_init_57 : decode cWy_init 57 = .ok (.iload_n 1, 1) := by decide +kernel
theorem dWy_init_58 : decode cWy_init 58 = .ok (.iconst 1, 1) := by decide +kernel
theorem dWy_init_59 : decode cWy_init 59 = .ok (.bastore, 1) := by decide +kernel
theorem dWy_init_60 : decode cWy_init 60 = .ok (.iinc 1 1, 3) := by decide +kernel
theorem dWy_init_63 : decode cWy_init 63 = .ok (.goto (-15), 3) := by decide +kernel
theorem dWy_init_66 : decode cWy_init 66 = .ok (.return_, 1) := by decide +kernel
theorem dWy_isUpAt_0 : decode cWy_isUpAt 0 = .ok (.aload_n 0, 1) := by decide +kernel
theorem dWy_isUpAt_1 : decode cWy_isUpAt 1 = .ok (.getfield 19, 3) := by decide +kernel
theorem dWy_isUpAt_4 : decode cWy_isUpAt 4 = .ok (.iload_n 1, 1) := by decide +kernel
theorem dWy_isUpAt_5 : decode cWy_isUpAt 5 = .ok (.sipush 16384, 3) := by decide +kernel
theorem dWy_isUpAt_8 : decode cWy_isUpAt 8 = .ok (.if_icmp .ge 7, 3) := by decide +kernel
theorem dWy_isUpAt_11 : decode cWy_isUpAt 11 = .ok (.iconst 0, 1) := by decide +kernel
theorem dWy_isUpAt_12 : decode cWy_isUpAt 12 = .ok (.goto 4, 3) := by decide +kernel
theorem dWy_isUpAt_15 : decode cWy_isUpAt 15 = .ok (.iconst 1, 1) := by decide +kernel
theorem dWy_isUpAt_16 : decode cWy_isUpAt 16 = .ok (.baload, 1) := by decide +kernel
theorem dWy_isUpAt_17 : decode cWy_isUpAt 17 = .ok (.ireturn, 1) := by decide +kernel
theorem dWy_endFor_0 : decode cWy_endFor 0 = .ok (.iload_n 1, 1) := by decide +kernel
theorem dWy_endFor_1 : decode cWy_endFor 1 = .ok (.sipush 16384, 3) := by decide +kernel
theorem dWy_endFor_4 : decode cWy_endFor 4 = .ok (.if_icmp .ge 18, 3) := by decide +kernel
theorem dWy_endFor_7 : decode cWy_endFor 7 = .ok (.aload_n 0, 1) := by decide +kernel
theorem dWy_endFor_8 : decode cWy_endFor 8 = .ok (.getfield 19, 3) := by decide +kernel
theorem dWy_endFor_11 : decode cWy_endFor 11 = .ok (.iconst 1, 1) := by decide +kernel
theorem dWy_endFor_12 : decode cWy_endFor 12 = .ok (.baload, 1) := by decide +kernel
theorem dWy_endFor_13 : decode cWy_endFor 13 = .ok (.ifCond .ne 9, 3) := by decide +kernel
theorem dWy_endFor_16 : decode cWy_endFor 16 = .ok (.sipush 16384, 3) := by decide +kernel
theorem dWy_endFor_19 : decode cWy_endFor 19 = .ok (.goto 5, 3) := by decide +kernel
theorem dWy_endFor_22 : decode cWy_endFor 22 = .ok (.ldc 22, 2) := by decide +kernel
theorem dWy_endFor_24 : decode cWy_endFor 24 = .ok (.istore_n 2, 1) := by decide +kernel
theorem dWy_endFor_25 : decode cWy_endFor 25 = .ok (.iconst 0, 1) := by decide +kernel
theorem dWy_endFor_26 : decode cWy_endFor 26 = .ok (.istore_n 3, 1) := by decide +kernel
theorem dWy_endFor_27 : decode cWy_endFor 27 = .ok (.iload_n 3, 1) := by decide +kernel
theorem dWy_endFor_28 : decode cWy_endFor 28 = .ok (.iconst 4, 1) := by decide +kernel
theorem dWy_endFor_29 : decode cWy_endFor 29 = .ok (.if_icmp .ge 39, 3) := by decide +kernel
theorem dWy_endFor_32 : decode cWy_endFor 32 = .ok (.aload_n 0, 1) := by decide +kernel
theorem dWy_endFor_33 : decode cWy_endFor 33 = .ok (.getfield 15, 3) := by decide +kernel
theorem dWy_endFor_36 : decode cWy_endFor 36 = .ok (.iload_n 3, 1) := by decide +kernel
theorem dWy_endFor_37 : decode cWy_endFor 37 = .ok (.baload, 1) := by decide +kernel
theorem dWy_endFor_38 : decode cWy_endFor 38 = .ok (.ifCond .eq 24, 3) := by decide +kernel
theorem dWy_endFor_41 : decode cWy_endFor 41 = .ok (.aload_n 0, 1) := by decide +kernel
theorem dWy_endFor_42 : decode cWy_endFor 42 = .ok (.getfield 11, 3) := by decide +kernel
theorem dWy_endFor_45 : decode cWy_endFor 45 = .ok (.iload_n 3, 1) := by decide +kernel
theorem dWy_endFor_46 : decode cWy_endFor 46 = .ok (.iaload, 1) := by decide +kernel
theorem dWy_endFor_47 : decode cWy_endFor 47 = .ok (.iload_n 1, 1) := by decide +kernel
theorem dWy_endFor_48 : decode cWy_endFor 48 = .ok (.if_icmp .lt 14, 3) := by decide +kernel
theorem dWy_endFor_51 : decode cWy_endFor 51 = .ok (.iload_n 2, 1) := by decide +kernel
theorem dWy_endFor_52 : decode cWy_endFor 52 = .ok (.aload_n 0, 1) := by decide +kernel
theorem dWy_endFor_53 : decode cWy_endFor 53 = .ok (.getfield 11, 3) := by decide +kernel
theorem dWy_endFor_56 : decode cWy_endFor 56 = .ok (.iload_n 3, 1) := by decide +kernel
theorem dWy_endFor_57 : decode cWy_endFor 57 = .ok (.iaload, 1) := by decide +kernel
theorem dWy_endFor_58 : decode cWy_endFor 58 = .ok (.invokestatic 23, 3) := by decide +kernel
theorem dWy_endFor_61 : decode cWy_endFor 61 = .ok (.istore_n 2, 1) := by decide +kernel
theorem dWy_endFor_62 : decode cWy_endFor 62 = .ok (.iinc 3 1, 3) := by decide +kernel
theorem dWy_endFor_65 : decode cWy_endFor 65 = .ok (.goto (-38), 3) := by decide +kernel
theorem dWy_endFor_68 : decode cWy_endFor 68 = .ok (.iload_n 2, 1) := by decide +kernel
theorem dWy_endFor_69 : decode cWy_endFor 69 = .ok (.ireturn, 1) := by decide +kernel
