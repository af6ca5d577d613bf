theorem dTr_init_0 : decode cTr_init 0 = .ok (.aload_n 0, 1) := by decide +kernel
theorem dTr_init_1 : decode cTr_init 1 = .ok (.invokespecial 5, 3) := by decide +kernel
theorem dTr_init_4 : decode cTr_init 4 = .ok (.aload_n 0, 1) := by decide +kernel
theorem dTr_init_5 : decode cTr_init 5 = .ok (.new 11, 3) := by decide +kernel
theorem dTr_init_8 : decode cTr_init 8 = .ok (.dup, 1) := by decide +kernel
theorem dTr_init_9 : decode cTr_init 9 = .ok (.invokespecial 13, 3) := by decide +kernel
theorem dTr_init_12 : decode cTr_init 12 = .ok (.putfield 14, 3) := by decide +kernel
theorem dTr_init_15 : decode cTr_init 15 = .ok (.aload_n 0, 1) := by decide +kernel
theorem dTr_init_16 : decode cTr_init 16 = .ok (.new 11, 3) := by decide +kernel
theorem dTr_init_19 : decode cTr_init 19 = .ok (.dup, 1) := by decide +kernel
theorem dTr_init_20 : decode cTr_init 20 = .ok (.invokespecial 13, 3) := by decide +kernel
theorem dTr_init_23 : decode cTr_init 23 = .ok (.putfield 20, 3) := by decide +kernel
theorem dTr_init_26 : decode cTr_init 26 = .ok (.return_, 1) := by decide +kernel
theorem dTr_rear_0 : decode cTr_rear 0 = .ok (.aload_n 0, 1) := by decide +kernel
theorem dTr_rear_1 : decode cTr_rear 1 = .ok (.getfield 27, 3) := by decide +kernel
theorem dTr_rear_4 : decode cTr_rear 4 = .ok (.aload_n 0, 1) := by decide +kernel
theorem dTr_rear_5 : decode cTr_rear 5 = .ok (.getfield 23, 3) := by decide +kernel
theorem dTr_rear_8 : decode cTr_rear 8 = .ok (.isub, 1) := by decide +kernel
theorem dTr_rear_9 : decode cTr_rear 9 = .ok (.ireturn, 1) := by decide +kernel
theorem dTr_place_0 : decode cTr_place 0 = .ok (.aload_n 0, 1) := by decide +kernel
theorem dTr_place_1 : decode cTr_place 1 = .ok (.iload_n 1, 1) := by decide +kernel
theorem dTr_place_2 : decode cTr_place 2 = .ok (.putfield 23, 3) := by decide +kernel
theorem dTr_place_5 : decode cTr_place 5 = .ok (.aload_n 0, 1) := by decide +kernel
theorem dTr_place_6 : decode cTr_place 6 = .ok (.iload_n 2, 1) := by decide +kernel
theorem dTr_place_7 : decode cTr_place 7 = .ok (.putfield 27, 3) := by decide +kernel
theorem dTr_place_10 : decode cTr_place 10 = .ok (.aload_n 0, 1) := by decide +kernel
theorem dTr_place_11 : decode cTr_place 11 = .ok (.iload_n 2, 1) := by decide +kernel
theorem dTr_place_12 : decode cTr_place 12 = .ok (.putfield 30, 3) := by decide +kernel
theorem dTr_place_15 : decode cTr_place 15 = .ok (.return_, 1) := by decide +kernel
theorem dTr_sendReport_0 : decode cTr_sendReport 0 = .ok (.aload_n 0, 1) := by decide +kernel
theorem dTr_sendReport_1 : decode cTr_sendReport 1 = .ok (.getfield 14, 3) := by decide +kernel
theorem dTr_sendReport_4 : decode cTr_sendReport 4 = .ok (.iload_n 1, 1) := by decide +kernel
theorem dTr_sendReport_5 : decode cTr_sendReport 5 = .ok (.aload_n 0, 1) := by decide +kernel
theorem dTr_sendReport_6 : decode cTr_sendReport 6 = .ok (.invokevirtual 40, 3) := by decide +kernel
theorem dTr_sendReport_9 : decode cTr_sendReport 9 = .ok (.aload_n 0, 1) := by decide +kernel
theorem dTr_sendReport_10 : decode cTr_sendReport 10 = .ok (.invokevirtual 44, 3) := by decide +kernel
theorem dTr_sendReport_13 : decode cTr_sendReport 13 = .ok (.invokevirtual 47, 3) := by decide +kernel
theorem dTr_sendReport_16 : decode cTr_sendReport 16 = .ok (.return_, 1) := by decide +kernel
theorem dTr_reach_0 : decode cTr_reach 0 = .ok (.aload_n 0, 1) := by decide +kernel
theorem dTr_reach_1 : decode cTr_reach 1 = .ok (.getfield 30, 3) := by decide +kernel
theorem dTr_reach_4 : decode cTr_reach 4 = .ok (.aload_n 0, 1) := by decide +kernel
theorem dTr_reach_5 : decode cTr_reach 5 = .ok (.getfield 33, 3) := by decide +kernel
theorem dTr_reach_8 : decode cTr_reach 8 = .ok (.iadd, 1) := by decide +kernel
theorem dTr_reach_9 : decode cTr_reach 9 = .ok (.ireturn, 1) := by decide +kernel
theorem dTr_tail_0 : decode cTr_tail 0 = .ok (.aload_n 0, 1) := by decide +kernel
theorem dTr_tail_1 : decode cTr_tail 1 = .ok (.getfield 30, 3) := by decide +kernel
theorem dTr_tail_4 : decode cTr_tail 4 = .ok (.aload_n 0, 1) := by decide +kernel
theorem dTr_tail_5 : decode cTr_tail 5 = .ok (.getfield 33, 3) := by decide +kernel
theorem dTr_tail_8 : decode cTr_tail 8 = .ok (.isub, 1) := by decide +kernel
theorem dTr_tail_9 : decode cTr_tail 9 = .ok (.aload_n 0, 1) := by decide +kernel
theorem dTr_tail_10 : decode cTr_tail 10 = .ok (.getfield 23, 3) := by decide +kernel
theorem dTr_tail_13 : decode cTr_tail 13 = .ok (.isub, 1) := by decide +kernel
theorem dTr_tail_14 : decode cTr_tail 14 = .ok (.ireturn, 1) := by decide +kernel
theorem dTr_drive_0 : decode cTr_drive 0 = .ok (.aload_n 0, 1) := by decide +kernel
theorem dTr_drive_1 : decode cTr_drive 1 = .ok (.iload_n 1, 1) := by decide +kernel
theorem dTr_drive_2 : decode cTr_drive 2 = .ok (.invokevirtual 51, 3) := by decide +kernel
theorem dTr_drive_5 : decode cTr_drive 5 = .ok (.istore_n 3, 1) := by decide +kernel
theorem dTr_drive_6 : decode cTr_drive 6 = .ok (.aload_n 0, 1) := by decide +kernel
theorem dTr_drive_7 : decode cTr_drive 7 = .ok (.getfield 55, 3) := by decide +kernel
theorem dTr_drive_10 : decode cTr_drive 10 = .ok (.ifCond .ne 46, 3) := by decide +kernel
theorem dTr_drive_13 : decode cTr_drive 13 = .ok (.aload_n 0, 1) := by decide +kernel
theorem dTr_drive_14 : decode cTr_drive 14 = .ok (.getfield 59, 3) := by decide +kernel
theorem dTr_drive_17 : decode cTr_drive 17 = .ok (.ifCond .eq 39, 3) := by decide +kernel
theorem dTr_drive_20 : decode cTr_drive 20 = .ok (.iload_n 3, 1) := by decide +kernel
theorem dTr_drive_21 : decode cTr_drive 21 = .ok (.ifCond .eq 20, 3) := by decide +kernel
theorem dTr_drive_24 : decode cTr_drive 24 = .ok (.aload_n 0, 1) := by decide +kernel
theorem dTr_drive_25 : decode cTr_drive 25 = .ok (.getfield 59, 3) := by decide +kernel
theorem dTr_drive_28 : decode cTr_drive 28 = .ok (.aload_n 0, 1) := by decide +kernel
theorem dTr_drive_29 : decode cTr_drive 29 = .ok (.getfield 59, 3) := by decide +kernel
theorem dTr_drive_32 : decode cTr_drive 32 = .ok (.imul, 1) := by decide +kernel
theorem dTr_drive_33 : decode cTr_drive 33 = .ok (.aload_n 0, 1) := by decide +kernel
theorem dTr_drive_34 : decode cTr_drive 34 = .ok (.aload_n 2, 1) := by decide +kernel
theorem dTr_drive_35 : decode cTr_drive 35 = .ok (.invokevirtual 62, 3) := by decide +kernel
theorem dTr_drive_38 : decode cTr_drive 38 = .ok (.if_icmp .le 18, 3) := by decide +kernel
theorem dTr_drive_41 : decode cTr_drive 41 = .ok (.aload_n 0, 1) := by decide +kernel
theorem dTr_drive_42 : decode cTr_drive 42 = .ok (.iconst 1, 1) := by decide +kernel
theorem dTr_drive_43 : decode cTr_drive 43 = .ok (.putfield 55, 3) := by decide +kernel
theorem dTr_drive_46 : decode cTr_drive 46 = .ok (.aload_n 0, 1) := by decide +kernel
theorem dTr_drive_47 : decode cTr_drive 47 = .ok (.dup, 1) := by decide +kernel
theorem dTr_drive_48 : decode cTr_drive 48 = .ok (.getfield 66, 3) := by decide +kernel
theorem dTr_drive_51 : decode cTr_drive 51 = .ok (.iconst 1, 1) := by decide +kernel
theorem dTr_drive_52 : decode cTr_drive 52 = .ok (.iadd, 1) := by decide +kernel
theorem dTr_drive_53 : decode cTr_drive 53 = .ok (.putfield 66, 3) := by decide +kernel
theorem dTr_drive_56 : decode cTr_drive 56 = .ok (.aload_n 0, 1) := by decide +kernel
theorem dTr_drive_57 : decode cTr_drive 57 = .ok (.getfield 55, 3) := by decide +kernel
theorem dTr_drive_60 : decode cTr_drive 60 = .ok (.ifCond .eq 8, 3) := by decide +kernel
theorem dTr_drive_63 : decode cTr_drive 63 = .ok (.bipush (-12), 2) := by decide +kernel
theorem dTr_drive_65 : decode cTr_drive 65 = .ok (.goto 9, 3) := by decide +kernel
theorem dTr_drive_68 : decode cTr_drive 68 = .ok (.aload_n 0, 1) := by decide +kernel
theorem dTr_drive_69 : decode cTr_drive 69 = .ok (.iload_n 3, 1) := by decide +kernel
theorem dTr_drive_70 : decode cTr_drive 70 = .ok (.aload_n 2, 1) := by decide +kernel
theorem dTr_drive_71 : decode cTr_drive 71 = .ok (.invokevirtual 69, 3) := by decide +kernel
theorem dTr_drive_74 : decode cTr_drive 74 = .ok (.istore 4, 2) := by decide +kernel
theorem dTr_drive_76 : decode cTr_drive 76 = .ok (.aload_n 0, 1) := by decide +kernel
theorem dTr_drive_77 : decode cTr_drive 77 = .ok (.aload_n 0, 1) := by decide +kernel
theorem dTr_drive_78 : decode cTr_drive 78 = .ok (.iload 4, 2) := by decide +kernel
theorem dTr_drive_80 : decode cTr_drive 80 = .ok (.aload_n 2, 1) := by decide +kernel
theorem dTr_drive_81 : decode cTr_drive 81 = .ok (.invokevirtual 73, 3) := by decide +kernel
theorem dTr_drive_84 : decode cTr_drive 84 = .ok (.invokevirtual 77, 3) := by decide +kernel
theorem dTr_drive_87 : decode cTr_drive 87 = .ok (.aload_n 0, 1) := by decide +kernel
theorem dTr_drive_88 : decode cTr_drive 88 = .ok (.getfield 59, 3) := by decide +kernel
theorem dTr_drive_91 : decode cTr_drive 91 = .ok (.ifCond .ne 8, 3) := by decide +kernel
theorem dTr_drive_94 : decode cTr_drive 94 = .ok (.aload_n 0, 1) := by decide +kernel
theorem dTr_drive_95 : decode cTr_drive 95 = .ok (.iconst 0, 1) := by decide +kernel
theorem dTr_drive_96 : decode cTr_drive 96 = .ok (.putfield 55, 3) := by decide +kernel
theorem dTr_drive_99 : decode cTr_drive 99 = .ok (.return_, 1) := by decide +kernel
theorem dTr_hasFreshAuthority_0 : decode cTr_hasFreshAuthority 0 = .ok (.aload_n 0, 1) := by decide +kernel
theorem dTr_hasFreshAuthority_1 : decode cTr_hasFreshAuthority 1 = .ok (.getfield 20, 3) := by decide +kernel
theorem dTr_hasFreshAuthority_4 : decode cTr_hasFreshAuthority 4 = .ok (.invokevirtual 81, 3) := by decide +kernel
theorem dTr_hasFreshAuthority_7 : decode cTr_hasFreshAuthority 7 = .ok (.ifCond .eq 20, 3) := by decide +kernel
theorem dTr_hasFreshAuthority_10 : decode cTr_hasFreshAuthority 10 = .ok (.iload_n 1, 1) := by decide +kernel
theorem dTr_hasFreshAuthority_11 : decode cTr_hasFreshAuthority 11 = .ok (.aload_n 0, 1) := by decide +kernel
theorem dTr_hasFreshAuthority_12 : decode cTr_hasFreshAuthority 12 = .ok (.getfield 20, 3) := by decide +kernel
theorem dTr_hasFreshAuthority_15 : decode cTr_hasFreshAuthority 15 = .ok (.getfield 85, 3) := by decide +kernel
theorem dTr_hasFreshAuthority_18 : decode cTr_hasFreshAuthority 18 = .ok (.isub, 1) := by decide +kernel
theorem dTr_hasFreshAuthority_19 : decode cTr_hasFreshAuthority 19 = .ok (.iconst 5, 1) := by decide +kernel
theorem dTr_hasFreshAuthority_20 : decode cTr_hasFreshAuthority 20 = .ok (.if_icmp .gt 7, 3) := by decide +kernel
theorem dTr_hasFreshAuthority_23 : decode cTr_hasFreshAuthority 23 = .ok (.iconst 1, 1) := by decide +kernel
theorem dTr_hasFreshAuthority_24 : decode cTr_hasFreshAuthority 24 = .ok (.goto 4, 3) := by decide +kernel
theorem dTr_hasFreshAuthority_27 : decode cTr_hasFreshAuthority 27 = .ok (.iconst 0, 1) := by decide +kernel
theorem dTr_hasFreshAuthority_28 : decode cTr_hasFreshAuthority 28 = .ok (.ireturn, 1) := by decide +kernel
theorem dTr_greatestSafeSquareHere_0 : decode cTr_greatestSafeSquareHere 0 = .ok (.aload_n 0, 1) := by decide +kernel
theorem dTr_greatestSafeSquareHere_1 : decode cTr_greatestSafeSquareHere 1 = .ok (.getfield 20, 3) := by decide +kernel
theorem dTr_greatestSafeSquareHere_4 : decode cTr_greatestSafeSquareHere 4 = .ok (.invokevirtual 81, 3) := by decide +kernel
theorem dTr_greatestSafeSquareHere_7 : decode cTr_greatestSafeSquareHere 7 = .ok (.ifCond .eq 25, 3) := by decide +kernel
theorem dTr_greatestSafeSquareHere_10 : decode cTr_greatestSafeSquareHere 10 = .ok (.aload_n 1, 1) := by decide +kernel
theorem dTr_greatestSafeSquareHere_11 : decode cTr_greatestSafeSquareHere 11 = .ok (.aload_n 0, 1) := by decide +kernel
theorem dTr_greatestSafeSquareHere_12 : decode cTr_greatestSafeSquareHere 12 = .ok (.getfield 20, 3) := by decide +kernel
theorem dTr_greatestSafeSquareHere_15 : decode cTr_greatestSafeSquareHere 15 = .ok (.getfield 88, 3) := by decide +kernel
theorem dTr_greatestSafeSquareHere_18 : decode cTr_greatestSafeSquareHere 18 = .ok (.aload_n 0, 1) := by decide +kernel
theorem dTr_greatestSafeSquareHere_19 : decode cTr_greatestSafeSquareHere 19 = .ok (.invokevirtual 40, 3) := by decide +kernel
theorem dTr_greatestSafeSquareHere_22 : decode cTr_greatestSafeSquareHere 22 = .ok (.aload_n 0, 1) := by decide +kernel
theorem dTr_greatestSafeSquareHere_23 : decode cTr_greatestSafeSquareHere 23 = .ok (.invokevirtual 44, 3) := by decide +kernel
theorem dTr_greatestSafeSquareHere_26 : decode cTr_greatestSafeSquareHere 26 = .ok (.invokevirtual 91, 3) := by decide +kernel
theorem dTr_greatestSafeSquareHere_29 : decode cTr_greatestSafeSquareHere 29 = .ok (.goto 4, 3) := by decide +kernel
theorem dTr_greatestSafeSquareHere_32 : decode cTr_greatestSafeSquareHere 32 = .ok (.iconst (-1), 1) := by decide +kernel
theorem dTr_greatestSafeSquareHere_33 : decode cTr_greatestSafeSquareHere 33 = .ok (.ireturn, 1) := by decide +kernel
theorem dTr_pullByDemand_0 : decode cTr_pullByDemand 0 = .ok (.aload_n 0, 1) := by decide +kernel
theorem dTr_pullByDemand_1 : decode cTr_pullByDemand 1 = .ok (.getfield 95, 3) := by decide +kernel
theorem dTr_pullByDemand_4 : decode cTr_pullByDemand 4 = .ok (.ifCond .ge 6, 3) := by decide +kernel
theorem dTr_pullByDemand_7 : decode cTr_pullByDemand 7 = .ok (.bipush (-8), 2) := by decide +kernel
theorem dTr_pullByDemand_9 : decode cTr_pullByDemand 9 = .ok (.ireturn, 1) := by decide +kernel
theorem dTr_pullByDemand_10 : decode cTr_pullByDemand 10 = .ok (.aload_n 0, 1) := by decide +kernel
theorem dTr_pullByDemand_11 : decode cTr_pullByDemand 11 = .ok (.getfield 95, 3) := by decide +kernel
theorem dTr_pullByDemand_14 : decode cTr_pullByDemand 14 = .ok (.ifCond .le 7, 3) := by decide +kernel
theorem dTr_pullByDemand_17 : decode cTr_pullByDemand 17 = .ok (.iconst 4, 1) := by decide +kernel
theorem dTr_pullByDemand_18 : decode cTr_pullByDemand 18 = .ok (.goto 4, 3) := by decide +kernel
theorem dTr_pullByDemand_21 : decode cTr_pullByDemand 21 = .ok (.iconst 0, 1) := by decide +kernel
theorem dTr_pullByDemand_22 : decode cTr_pullByDemand 22 = .ok (.istore_n 3, 1) := by decide +kernel
theorem dTr_pullByDemand_23 : decode cTr_pullByDemand 23 = .ok (.iload_n 1, 1) := by decide +kernel
theorem dTr_pullByDemand_24 : decode cTr_pullByDemand 24 = .ok (.ifCond .eq 16, 3) := by decide +kernel
theorem dTr_pullByDemand_27 : decode cTr_pullByDemand 27 = .ok (.aload_n 0, 1) := by decide +kernel
theorem dTr_pullByDemand_28 : decode cTr_pullByDemand 28 = .ok (.iload_n 3, 1) := by decide +kernel
theorem dTr_pullByDemand_29 : decode cTr_pullByDemand 29 = .ok (.aload_n 2, 1) := by decide +kernel
theorem dTr_pullByDemand_30 : decode cTr_pullByDemand 30 = .ok (.invokevirtual 98, 3) := by decide +kernel
theorem dTr_pullByDemand_33 : decode cTr_pullByDemand 33 = .ok (.ifCond .eq 7, 3) := by decide +kernel
theorem dTr_pullByDemand_36 : decode cTr_pullByDemand 36 = .ok (.iload_n 3, 1) := by decide +kernel
theorem dTr_pullByDemand_37 : decode cTr_pullByDemand 37 = .ok (.goto 5, 3) := by decide +kernel
theorem dTr_pullByDemand_40 : decode cTr_pullByDemand 40 = .ok (.bipush (-8), 2) := by decide +kernel
theorem dTr_pullByDemand_42 : decode cTr_pullByDemand 42 = .ok (.ireturn, 1) := by decide +kernel
theorem dTr_staysSafe_0 : decode cTr_staysSafe 0 = .ok (.aload_n 0, 1) := by decide +kernel
theorem dTr_staysSafe_1 : decode cTr_staysSafe 1 = .ok (.iload_n 1, 1) := by decide +kernel
theorem dTr_staysSafe_2 : decode cTr_staysSafe 2 = .ok (.aload_n 2, 1) := by decide +kernel
theorem dTr_staysSafe_3 : decode cTr_staysSafe 3 = .ok (.invokevirtual 73, 3) := by decide +kernel
theorem dTr_staysSafe_6 : decode cTr_staysSafe 6 = .ok (.istore_n 3, 1) := by decide +kernel
theorem dTr_staysSafe_7 : decode cTr_staysSafe 7 = .ok (.aload_n 0, 1) := by decide +kernel
theorem dTr_staysSafe_8 : decode cTr_staysSafe 8 = .ok (.iload_n 3, 1) := by decide +kernel
theorem dTr_staysSafe_9 : decode cTr_staysSafe 9 = .ok (.invokevirtual 102, 3) := by decide +kernel
theorem dTr_staysSafe_12 : decode cTr_staysSafe 12 = .ok (.istore 4, 2) := by decide +kernel
theorem dTr_staysSafe_14 : decode cTr_staysSafe 14 = .ok (.iload 4, 2) := by decide +kernel
theorem dTr_staysSafe_16 : decode cTr_staysSafe 16 = .ok (.ifCond .ne 7, 3) := by decide +kernel
theorem dTr_staysSafe_19 : decode cTr_staysSafe 19 = .ok (.iconst 0, 1) := by decide +kernel
theorem dTr_staysSafe_20 : decode cTr_staysSafe 20 = .ok (.goto 4, 3) := by decide +kernel
theorem dTr_staysSafe_23 : decode cTr_staysSafe 23 = .ok (.iconst 2, 1) := by decide +kernel
theorem dTr_staysSafe_24 : decode cTr_staysSafe 24 = .ok (.istore 5, 2) := by decide +kernel
theorem dTr_staysSafe_26 : decode cTr_staysSafe 26 = .ok (.iload_n 3, 1) := by decide +kernel
theorem dTr_staysSafe_27 : decode cTr_staysSafe 27 = .ok (.iload_n 3, 1) := by decide +kernel
theorem dTr_staysSafe_28 : decode cTr_staysSafe 28 = .ok (.imul, 1) := by decide +kernel
theorem dTr_staysSafe_29 : decode cTr_staysSafe 29 = .ok (.aload_n 2, 1) := by decide +kernel
theorem dTr_staysSafe_30 : decode cTr_staysSafe 30 = .ok (.aload_n 0, 1) := by decide +kernel
theorem dTr_staysSafe_31 : decode cTr_staysSafe 31 = .ok (.getfield 20, 3) := by decide +kernel
theorem dTr_staysSafe_34 : decode cTr_staysSafe 34 = .ok (.getfield 88, 3) := by decide +kernel
theorem dTr_staysSafe_37 : decode cTr_staysSafe 37 = .ok (.aload_n 0, 1) := by decide +kernel
theorem dTr_staysSafe_38 : decode cTr_staysSafe 38 = .ok (.invokevirtual 40, 3) := by decide +kernel
theorem dTr_staysSafe_41 : decode cTr_staysSafe 41 = .ok (.iload 4, 2) := by decide +kernel
theorem dTr_staysSafe_43 : decode cTr_staysSafe 43 = .ok (.iadd, 1) := by decide +kernel
theorem dTr_staysSafe_44 : decode cTr_staysSafe 44 = .ok (.iload 5, 2) := by decide +kernel
theorem dTr_staysSafe_46 : decode cTr_staysSafe 46 = .ok (.iadd, 1) := by decide +kernel
theorem dTr_staysSafe_47 : decode cTr_staysSafe 47 = .ok (.aload_n 0, 1) := by decide +kernel
theorem dTr_staysSafe_48 : decode cTr_staysSafe 48 = .ok (.invokevirtual 44, 3) := by decide +kernel
theorem dTr_staysSafe_51 : decode cTr_staysSafe 51 = .ok (.iload 4, 2) := by decide +kernel
theorem dTr_staysSafe_53 : decode cTr_staysSafe 53 = .ok (.iadd, 1) := by decide +kernel
theorem dTr_staysSafe_54 : decode cTr_staysSafe 54 = .ok (.iload 5, 2) := by decide +kernel
theorem dTr_staysSafe_56 : decode cTr_staysSafe 56 = .ok (.isub, 1) := by decide +kernel
theorem dTr_staysSafe_57 : decode cTr_staysSafe 57 = .ok (.invokevirtual 91, 3) := by decide +kernel
theorem dTr_staysSafe_60 : decode cTr_staysSafe 60 = .ok (.if_icmp .gt 7, 3) := by decide +kernel
theorem dTr_staysSafe_63 : decode cTr_staysSafe 63 = .ok (.iconst 1, 1) := by decide +kernel
theorem dTr_staysSafe_64 : decode cTr_staysSafe 64 = .ok (.goto 4, 3) := by decide +kernel
theorem dTr_staysSafe_67 : decode cTr_staysSafe 67 = .ok (.iconst 0, 1) := by decide +kernel
theorem dTr_staysSafe_68 : decode cTr_staysSafe 68 = .ok (.ireturn, 1) := by decide +kernel
theorem dTr_speedAfter_0 : decode cTr_speedAfter 0 = .ok (.iconst 0, 1) := by decide +kernel
theorem dTr_speedAfter_1 : decode cTr_speedAfter 1 = .ok (.aload_n 0, 1) := by decide +kernel
theorem dTr_speedAfter_2 : decode cTr_speedAfter 2 = .ok (.getfield 59, 3) := by decide +kernel
theorem dTr_speedAfter_5 : decode cTr_speedAfter 5 = .ok (.iload_n 1, 1) := by decide +kernel
theorem dTr_speedAfter_6 : decode cTr_speedAfter 6 = .ok (.iadd, 1) := by decide +kernel
theorem dTr_speedAfter_7 : decode cTr_speedAfter 7 = .ok (.iconst 2, 1) := by decide +kernel
theorem dTr_speedAfter_8 : decode cTr_speedAfter 8 = .ok (.aload_n 2, 1) := by decide +kernel
theorem dTr_speedAfter_9 : decode cTr_speedAfter 9 = .ok (.getfield 105, 3) := by decide +kernel
theorem dTr_speedAfter_12 : decode cTr_speedAfter 12 = .ok (.aload_n 0, 1) := by decide +kernel
theorem dTr_speedAfter_13 : decode cTr_speedAfter 13 = .ok (.getfield 27, 3) := by decide +kernel
theorem dTr_speedAfter_16 : decode cTr_speedAfter 16 = .ok (.invokestatic 109, 3) := by decide +kernel
theorem dTr_speedAfter_19 : decode cTr_speedAfter 19 = .ok (.iaload, 1) := by decide +kernel
theorem dTr_speedAfter_20 : decode cTr_speedAfter 20 = .ok (.imul, 1) := by decide +kernel
theorem dTr_speedAfter_21 : decode cTr_speedAfter 21 = .ok (.isub, 1) := by decide +kernel
theorem dTr_speedAfter_22 : decode cTr_speedAfter 22 = .ok (.invokestatic 112, 3) := by decide +kernel
theorem dTr_speedAfter_25 : decode cTr_speedAfter 25 = .ok (.ireturn, 1) := by decide +kernel
theorem dTr_wayTo_0 : decode cTr_wayTo 0 = .ok (.aload_n 0, 1) := by decide +kernel
theorem dTr_wayTo_1 : decode cTr_wayTo 1 = .ok (.getfield 59, 3) := by decide +kernel
theorem dTr_wayTo_4 : decode cTr_wayTo 4 = .ok (.iload_n 1, 1) := by decide +kernel
theorem dTr_wayTo_5 : decode cTr_wayTo 5 = .ok (.iadd, 1) := by decide +kernel
theorem dTr_wayTo_6 : decode cTr_wayTo 6 = .ok (.iconst 2, 1) := by decide +kernel
theorem dTr_wayTo_7 : decode cTr_wayTo 7 = .ok (.idiv, 1) := by decide +kernel
theorem dTr_wayTo_8 : decode cTr_wayTo 8 = .ok (.ireturn, 1) := by decide +kernel
theorem dTr_move_0 : decode cTr_move 0 = .ok (.aload_n 0, 1) := by decide +kernel
theorem dTr_move_1 : decode cTr_move 1 = .ok (.iload_n 1, 1) := by decide +kernel
theorem dTr_move_2 : decode cTr_move 2 = .ok (.invokevirtual 102, 3) := by decide +kernel
theorem dTr_move_5 : decode cTr_move 5 = .ok (.istore_n 2, 1) := by decide +kernel
theorem dTr_move_6 : decode cTr_move 6 = .ok (.aload_n 0, 1) := by decide +kernel
theorem dTr_move_7 : decode cTr_move 7 = .ok (.getfield 27, 3) := by decide +kernel
theorem dTr_move_10 : decode cTr_move 10 = .ok (.invokestatic 109, 3) := by decide +kernel
theorem dTr_move_13 : decode cTr_move 13 = .ok (.istore_n 3, 1) := by decide +kernel
theorem dTr_move_14 : decode cTr_move 14 = .ok (.aload_n 0, 1) := by decide +kernel
theorem dTr_move_15 : decode cTr_move 15 = .ok (.iload_n 1, 1) := by decide +kernel
theorem dTr_move_16 : decode cTr_move 16 = .ok (.putfield 59, 3) := by decide +kernel
theorem dTr_move_19 : decode cTr_move 19 = .ok (.iload_n 2, 1) := by decide +kernel
theorem dTr_move_20 : decode cTr_move 20 = .ok (.ifCond .ne 4, 3) := by decide +kernel
theorem dTr_move_23 : decode cTr_move 23 = .ok (.return_, 1) := by decide +kernel
theorem dTr_move_24 : decode cTr_move 24 = .ok (.aload_n 0, 1) := by decide +kernel
theorem dTr_move_25 : decode cTr_move 25 = .ok (.dup, 1) := by decide +kernel
theorem dTr_move_26 : decode cTr_move 26 = .ok (.getfield 27, 3) := by decide +kernel
theorem dTr_move_29 : decode cTr_move 29 = .ok (.iload_n 2, 1) := by decide +kernel
theorem dTr_move_30 : decode cTr_move 30 = .ok (.iadd, 1) := by decide +kernel
theorem dTr_move_31 : decode cTr_move 31 = .ok (.putfield 27, 3) := by decide +kernel
theorem dTr_move_34 : decode cTr_move 34 = .ok (.aload_n 0, 1) := by decide +kernel
theorem dTr_move_35 : decode cTr_move 35 = .ok (.dup, 1) := by decide +kernel
theorem dTr_move_36 : decode cTr_move 36 = .ok (.getfield 30, 3) := by decide +kernel
theorem dTr_move_39 : decode cTr_move 39 = .ok (.iload_n 2, 1) := by decide +kernel
theorem dTr_move_40 : decode cTr_move 40 = .ok (.aload_n 0, 1) := by decide +kernel
theorem dTr_move_41 : decode cTr_move 41 = .ok (.getfield 118, 3) := by decide +kernel
theorem dTr_move_44 : decode cTr_move 44 = .ok (.iadd, 1) := by decide +kernel
theorem dTr_move_45 : decode cTr_move 45 = .ok (.iadd, 1) := by decide +kernel
theorem dTr_move_46 : decode cTr_move 46 = .ok (.putfield 30, 3) := by decide +kernel
theorem dTr_move_49 : decode cTr_move 49 = .ok (.aload_n 0, 1) := by decide +kernel
theorem dTr_move_50 : decode cTr_move 50 = .ok (.dup, 1) := by decide +kernel
theorem dTr_move_51 : decode cTr_move 51 = .ok (.getfield 33, 3) := by decide +kernel
theorem dTr_move_54 : decode cTr_move 54 = .ok (.iconst 2, 1) := by decide +kernel
theorem dTr_move_55 : decode cTr_move 55 = .ok (.iadd, 1) := by decide +kernel
theorem dTr_move_56 : decode cTr_move 56 = .ok (.putfield 33, 3) := by decide +kernel
theorem dTr_move_59 : decode cTr_move 59 = .ok (.aload_n 0, 1) := by decide +kernel
theorem dTr_move_60 : decode cTr_move 60 = .ok (.getfield 27, 3) := by decide +kernel
theorem dTr_move_63 : decode cTr_move 63 = .ok (.invokestatic 109, 3) := by decide +kernel
theorem dTr_move_66 : decode cTr_move 66 = .ok (.iload_n 3, 1) := by decide +kernel
theorem dTr_move_67 : decode cTr_move 67 = .ok (.if_icmp .eq 16, 3) := by decide +kernel
theorem dTr_move_70 : decode cTr_move 70 = .ok (.aload_n 0, 1) := by decide +kernel
theorem dTr_move_71 : decode cTr_move 71 = .ok (.aload_n 0, 1) := by decide +kernel
theorem dTr_move_72 : decode cTr_move 72 = .ok (.getfield 27, 3) := by decide +kernel
theorem dTr_move_75 : decode cTr_move 75 = .ok (.putfield 30, 3) := by decide +kernel
theorem dTr_move_78 : decode cTr_move 78 = .ok (.aload_n 0, 1) := by decide +kernel
theorem dTr_move_79 : decode cTr_move 79 = .ok (.iconst 0, 1) := by decide +kernel
theorem dTr_move_80 : decode cTr_move 80 = .ok (.putfield 33, 3) := by decide +kernel
theorem dTr_move_83 : decode cTr_move 83 = .ok (.return_, 1) := by decide +kernel
theorem dTr_messagesOnTheWay_0 : decode cTr_messagesOnTheWay 0 = .ok (.aload_n 0, 1) := by decide +kernel
theorem dTr_messagesOnTheWay_1 : decode cTr_messagesOnTheWay 1 = .ok (.getfield 14, 3) := by decide +kernel
theorem dTr_messagesOnTheWay_4 : decode cTr_messagesOnTheWay 4 = .ok (.iload_n 1, 1) := by decide +kernel
theorem dTr_messagesOnTheWay_5 : decode cTr_messagesOnTheWay 5 = .ok (.invokevirtual 36, 3) := by decide +kernel
theorem dTr_messagesOnTheWay_8 : decode cTr_messagesOnTheWay 8 = .ok (.aload_n 0, 1) := by decide +kernel
theorem dTr_messagesOnTheWay_9 : decode cTr_messagesOnTheWay 9 = .ok (.getfield 20, 3) := by decide +kernel
theorem dTr_messagesOnTheWay_12 : decode cTr_messagesOnTheWay 12 = .ok (.iload_n 1, 1) := by decide +kernel
theorem dTr_messagesOnTheWay_13 : decode cTr_messagesOnTheWay 13 = .ok (.invokevirtual 36, 3) := by decide +kernel
theorem dTr_messagesOnTheWay_16 : decode cTr_messagesOnTheWay 16 = .ok (.iadd, 1) := by decide +kernel
theorem dTr_messagesOnTheWay_17 : decode cTr_messagesOnTheWay 17 = .ok (.ireturn, 1) := by decide +kernel
theorem dTr_greatestSafeSpeed_0 : decode cTr_greatestSafeSpeed 0 = .ok (.aload_n 0, 1) := by decide +kernel
theorem dTr_greatestSafeSpeed_1 : decode cTr_greatestSafeSpeed 1 = .ok (.aload_n 1, 1) := by decide +kernel
theorem dTr_greatestSafeSpeed_2 : decode cTr_greatestSafeSpeed 2 = .ok (.invokevirtual 62, 3) := by decide +kernel
theorem dTr_greatestSafeSpeed_5 : decode cTr_greatestSafeSpeed 5 = .ok (.istore_n 2, 1) := by decide +kernel
theorem dTr_greatestSafeSpeed_6 : decode cTr_greatestSafeSpeed 6 = .ok (.sipush 320, 3) := by decide +kernel
theorem dTr_greatestSafeSpeed_9 : decode cTr_greatestSafeSpeed 9 = .ok (.istore_n 3, 1) := by decide +kernel
theorem dTr_greatestSafeSpeed_10 : decode cTr_greatestSafeSpeed 10 = .ok (.iload_n 3, 1) := by decide +kernel
theorem dTr_greatestSafeSpeed_11 : decode cTr_greatestSafeSpeed 11 = .ok (.ifCond .lt 18, 3) := by decide +kernel
theorem dTr_greatestSafeSpeed_14 : decode cTr_greatestSafeSpeed 14 = .ok (.iload_n 3, 1) := by decide +kernel
theorem dTr_greatestSafeSpeed_15 : decode cTr_greatestSafeSpeed 15 = .ok (.iload_n 3, 1) := by decide +kernel
theorem dTr_greatestSafeSpeed_16 : decode cTr_greatestSafeSpeed 16 = .ok (.imul, 1) := by decide +kernel
theorem dTr_greatestSafeSpeed_17 : decode cTr_greatestSafeSpeed 17 = .ok (.iload_n 2, 1) := by decide +kernel
theorem dTr_greatestSafeSpeed_18 : decode cTr_greatestSafeSpeed 18 = .ok (.if_icmp .gt 5, 3) := by decide +kernel
theorem dTr_greatestSafeSpeed_21 : decode cTr_greatestSafeSpeed 21 = .ok (.iload_n 3, 1) := by decide +kernel
theorem dTr_greatestSafeSpeed_22 : decode cTr_greatestSafeSpeed 22 = .ok (.ireturn, 1) := by decide +kernel
theorem dTr_greatestSafeSpeed_23 : decode cTr_greatestSafeSpeed 23 = .ok (.iinc 3 (-2), 3) := by decide +kernel
theorem dTr_greatestSafeSpeed_26 : decode cTr_greatestSafeSpeed 26 = .ok (.goto (-16), 3) := by decide +kernel
theorem dTr_greatestSafeSpeed_29 : decode cTr_greatestSafeSpeed 29 = .ok (.iconst (-1), 1) := by decide +kernel
theorem dTr_greatestSafeSpeed_30 : decode cTr_greatestSafeSpeed 30 = .ok (.ireturn, 1) := by decide +kernel
