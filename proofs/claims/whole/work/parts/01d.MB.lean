theorem dMB_init_0 : decode cMB_init 0 = .ok (.aload_n 0, 1) := by decide +kernel
theorem dMB_init_1 : decode cMB_init 1 = .ok (.invokespecial 3, 3) := by decide +kernel
theorem dMB_init_4 : decode cMB_init 4 = .ok (.aload_n 0, 1) := by decide +kernel
theorem dMB_init_5 : decode cMB_init 5 = .ok (.new 9, 3) := by decide +kernel
theorem dMB_init_8 : decode cMB_init 8 = .ok (.dup, 1) := by decide +kernel
theorem dMB_init_9 : decode cMB_init 9 = .ok (.invokespecial 11, 3) := by decide +kernel
theorem dMB_init_12 : decode cMB_init 12 = .ok (.putfield 12, 3) := by decide +kernel
theorem dMB_init_15 : decode cMB_init 15 = .ok (.aload_n 0, 1) := by decide +kernel
theorem dMB_init_16 : decode cMB_init 16 = .ok (.new 16, 3) := by decide +kernel
theorem dMB_init_19 : decode cMB_init 19 = .ok (.dup, 1) := by decide +kernel
theorem dMB_init_20 : decode cMB_init 20 = .ok (.invokespecial 18, 3) := by decide +kernel
theorem dMB_init_23 : decode cMB_init 23 = .ok (.putfield 19, 3) := by decide +kernel
theorem dMB_init_26 : decode cMB_init 26 = .ok (.aload_n 0, 1) := by decide +kernel
theorem dMB_init_27 : decode cMB_init 27 = .ok (.iconst 4, 1) := by decide +kernel
theorem dMB_init_28 : decode cMB_init 28 = .ok (.anewarray 23, 3) := by decide +kernel
theorem dMB_init_31 : decode cMB_init 31 = .ok (.putfield 25, 3) := by decide +kernel
theorem dMB_init_34 : decode cMB_init 34 = .ok (.iconst 0, 1) := by decide +kernel
theorem dMB_init_35 : decode cMB_init 35 = .ok (.istore_n 1, 1) := by decide +kernel
theorem dMB_init_36 : decode cMB_init 36 = .ok (.iload_n 1, 1) := by decide +kernel
theorem dMB_init_37 : decode cMB_init 37 = .ok (.iconst 4, 1) := by decide +kernel
theorem dMB_init_38 : decode cMB_init 38 = .ok (.if_icmp .ge 22, 3) := by decide +kernel
theorem dMB_init_41 : decode cMB_init 41 = .ok (.aload_n 0, 1) := by decide +kernel
theorem dMB_init_42 : decode cMB_init 42 = .ok (.getfield 25, 3) := by decide +kernel
theorem dMB_init_45 : decode cMB_init 45 = .ok (.iload_n 1, 1) := by decide +kernel
theorem dMB_init_46 : decode cMB_init 46 = .ok (.new 23, 3) := by decide +kernel
theorem dMB_init_49 : decode cMB_init 49 = .ok (.dup, 1) := by decide +kernel
theorem dMB_init_50 : decode cMB_init 50 = .ok (.invokespecial 29, 3) := by decide +kernel
theorem dMB_init_53 : decode cMB_init 53 = .ok (.aastore, 1) := by decide +kernel
theorem dMB_init_54 : decode cMB_init 54 = .ok (.iinc 1 1, 3) := by decide +kernel
theorem dMB_init_57 : decode cMB_init 57 = .ok (.goto (-21), 3) := by decide +kernel
theorem dMB_init_60 : decode cMB_init 60 = .ok (.return_, 1) := by decide +kernel
theorem dMB_piece_0 : decode cMB_piece 0 = .ok (.iload_n 1, 1) := by decide +kernel
theorem dMB_piece_1 : decode cMB_piece 1 = .ok (.iconst 0, 1) := by decide +kernel
theorem dMB_piece_2 : decode cMB_piece 2 = .ok (.bipush 7, 2) := by decide +kernel
theorem dMB_piece_4 : decode cMB_piece 4 = .ok (.invokestatic 30, 3) := by decide +kernel
theorem dMB_piece_7 : decode cMB_piece 7 = .ok (.ifCond .ne 22, 3) := by decide +kernel
theorem dMB_piece_10 : decode cMB_piece 10 = .ok (.iload_n 2, 1) := by decide +kernel
theorem dMB_piece_11 : decode cMB_piece 11 = .ok (.iconst 1, 1) := by decide +kernel
theorem dMB_piece_12 : decode cMB_piece 12 = .ok (.bipush 40, 2) := by decide +kernel
theorem dMB_piece_14 : decode cMB_piece 14 = .ok (.invokestatic 30, 3) := by decide +kernel
theorem dMB_piece_17 : decode cMB_piece 17 = .ok (.ifCond .ne 12, 3) := by decide +kernel
theorem dMB_piece_20 : decode cMB_piece 20 = .ok (.iload_n 3, 1) := by decide +kernel
theorem dMB_piece_21 : decode cMB_piece 21 = .ok (.iconst (-1), 1) := by decide +kernel
theorem dMB_piece_22 : decode cMB_piece 22 = .ok (.iconst 1, 1) := by decide +kernel
theorem dMB_piece_23 : decode cMB_piece 23 = .ok (.invokestatic 30, 3) := by decide +kernel
theorem dMB_piece_26 : decode cMB_piece 26 = .ok (.ifCond .eq 6, 3) := by decide +kernel
theorem dMB_piece_29 : decode cMB_piece 29 = .ok (.ldc 34, 2) := by decide +kernel
theorem dMB_piece_31 : decode cMB_piece 31 = .ok (.ireturn, 1) := by decide +kernel
theorem dMB_piece_32 : decode cMB_piece 32 = .ok (.aload_n 0, 1) := by decide +kernel
theorem dMB_piece_33 : decode cMB_piece 33 = .ok (.getfield 12, 3) := by decide +kernel
theorem dMB_piece_36 : decode cMB_piece 36 = .ok (.getfield 35, 3) := by decide +kernel
theorem dMB_piece_39 : decode cMB_piece 39 = .ok (.iload_n 1, 1) := by decide +kernel
theorem dMB_piece_40 : decode cMB_piece 40 = .ok (.iload_n 2, 1) := by decide +kernel
theorem dMB_piece_41 : decode cMB_piece 41 = .ok (.bipush 8, 2) := by decide +kernel
theorem dMB_piece_43 : decode cMB_piece 43 = .ok (.imul, 1) := by decide +kernel
theorem dMB_piece_44 : decode cMB_piece 44 = .ok (.iastore, 1) := by decide +kernel
theorem dMB_piece_45 : decode cMB_piece 45 = .ok (.aload_n 0, 1) := by decide +kernel
theorem dMB_piece_46 : decode cMB_piece 46 = .ok (.getfield 12, 3) := by decide +kernel
theorem dMB_piece_49 : decode cMB_piece 49 = .ok (.getfield 39, 3) := by decide +kernel
theorem dMB_piece_52 : decode cMB_piece 52 = .ok (.iload_n 1, 1) := by decide +kernel
theorem dMB_piece_53 : decode cMB_piece 53 = .ok (.iload_n 3, 1) := by decide +kernel
theorem dMB_piece_54 : decode cMB_piece 54 = .ok (.iastore, 1) := by decide +kernel
theorem dMB_piece_55 : decode cMB_piece 55 = .ok (.iconst 1, 1) := by decide +kernel
theorem dMB_piece_56 : decode cMB_piece 56 = .ok (.ireturn, 1) := by decide +kernel
theorem dMB_isOutside_0 : decode cMB_isOutside 0 = .ok (.iload_n 0, 1) := by decide +kernel
theorem dMB_isOutside_1 : decode cMB_isOutside 1 = .ok (.iload_n 1, 1) := by decide +kernel
theorem dMB_isOutside_2 : decode cMB_isOutside 2 = .ok (.if_icmp .lt 8, 3) := by decide +kernel
theorem dMB_isOutside_5 : decode cMB_isOutside 5 = .ok (.iload_n 0, 1) := by decide +kernel
theorem dMB_isOutside_6 : decode cMB_isOutside 6 = .ok (.iload_n 2, 1) := by decide +kernel
theorem dMB_isOutside_7 : decode cMB_isOutside 7 = .ok (.if_icmp .le 7, 3) := by decide +kernel
theorem dMB_isOutside_10 : decode cMB_isOutside 10 = .ok (.iconst 1, 1) := by decide +kernel
theorem dMB_isOutside_11 : decode cMB_isOutside 11 = .ok (.goto 4, 3) := by decide +kernel
theorem dMB_isOutside_14 : decode cMB_isOutside 14 = .ok (.iconst 0, 1) := by decide +kernel
theorem dMB_isOutside_15 : decode cMB_isOutside 15 = .ok (.ireturn, 1) := by decide +kernel
theorem dMB_hold_0 : decode cMB_hold 0 = .ok (.iload_n 1, 1) := by decide +kernel
theorem dMB_hold_1 : decode cMB_hold 1 = .ok (.iconst 0, 1) := by decide +kernel
theorem dMB_hold_2 : decode cMB_hold 2 = .ok (.iconst 3, 1) := by decide +kernel
theorem dMB_hold_3 : decode cMB_hold 3 = .ok (.invokestatic 30, 3) := by decide +kernel
theorem dMB_hold_6 : decode cMB_hold 6 = .ok (.ifCond .ne 14, 3) := by decide +kernel
theorem dMB_hold_9 : decode cMB_hold 9 = .ok (.iload_n 2, 1) := by decide +kernel
theorem dMB_hold_10 : decode cMB_hold 10 = .ok (.iconst 0, 1) := by decide +kernel
theorem dMB_hold_11 : decode cMB_hold 11 = .ok (.sipush 4096, 3) := by decide +kernel
theorem dMB_hold_14 : decode cMB_hold 14 = .ok (.invokestatic 30, 3) := by decide +kernel
theorem dMB_hold_17 : decode cMB_hold 17 = .ok (.ifCond .eq 6, 3) := by decide +kernel
theorem dMB_hold_20 : decode cMB_hold 20 = .ok (.ldc 34, 2) := by decide +kernel
theorem dMB_hold_22 : decode cMB_hold 22 = .ok (.ireturn, 1) := by decide +kernel
theorem dMB_hold_23 : decode cMB_hold 23 = .ok (.aload_n 0, 1) := by decide +kernel
theorem dMB_hold_24 : decode cMB_hold 24 = .ok (.getfield 19, 3) := by decide +kernel
theorem dMB_hold_27 : decode cMB_hold 27 = .ok (.getfield 42, 3) := by decide +kernel
theorem dMB_hold_30 : decode cMB_hold 30 = .ok (.iload_n 1, 1) := by decide +kernel
theorem dMB_hold_31 : decode cMB_hold 31 = .ok (.iload_n 2, 1) := by decide +kernel
theorem dMB_hold_32 : decode cMB_hold 32 = .ok (.bipush 8, 2) := by decide +kernel
theorem dMB_hold_34 : decode cMB_hold 34 = .ok (.imul, 1) := by decide +kernel
theorem dMB_hold_35 : decode cMB_hold 35 = .ok (.iastore, 1) := by decide +kernel
theorem dMB_hold_36 : decode cMB_hold 36 = .ok (.aload_n 0, 1) := by decide +kernel
theorem dMB_hold_37 : decode cMB_hold 37 = .ok (.getfield 19, 3) := by decide +kernel
theorem dMB_hold_40 : decode cMB_hold 40 = .ok (.getfield 45, 3) := by decide +kernel
theorem dMB_hold_43 : decode cMB_hold 43 = .ok (.iload_n 1, 1) := by decide +kernel
theorem dMB_hold_44 : decode cMB_hold 44 = .ok (.iload_n 3, 1) := by decide +kernel
theorem dMB_hold_45 : decode cMB_hold 45 = .ok (.bastore, 1) := by decide +kernel
theorem dMB_hold_46 : decode cMB_hold 46 = .ok (.iconst 1, 1) := by decide +kernel
theorem dMB_hold_47 : decode cMB_hold 47 = .ok (.ireturn, 1) := by decide +kernel
theorem dMB_controller_0 : decode cMB_controller 0 = .ok (.iload_n 1, 1) := by decide +kernel
theorem dMB_controller_1 : decode cMB_controller 1 = .ok (.iconst 0, 1) := by decide +kernel
theorem dMB_controller_2 : decode cMB_controller 2 = .ok (.iconst 1, 1) := by decide +kernel
theorem dMB_controller_3 : decode cMB_controller 3 = .ok (.invokestatic 30, 3) := by decide +kernel
theorem dMB_controller_6 : decode cMB_controller 6 = .ok (.ifCond .eq 6, 3) := by decide +kernel
theorem dMB_controller_9 : decode cMB_controller 9 = .ok (.ldc 34, 2) := by decide +kernel
theorem dMB_controller_11 : decode cMB_controller 11 = .ok (.ireturn, 1) := by decide +kernel
theorem dMB_controller_12 : decode cMB_controller 12 = .ok (.aload_n 0, 1) := by decide +kernel
theorem dMB_controller_13 : decode cMB_controller 13 = .ok (.getfield 19, 3) := by decide +kernel
theorem dMB_controller_16 : decode cMB_controller 16 = .ok (.getfield 49, 3) := by decide +kernel
theorem dMB_controller_19 : decode cMB_controller 19 = .ok (.iload_n 1, 1) := by decide +kernel
theorem dMB_controller_20 : decode cMB_controller 20 = .ok (.baload, 1) := by decide +kernel
theorem dMB_controller_21 : decode cMB_controller 21 = .ok (.iload_n 2, 1) := by decide +kernel
theorem dMB_controller_22 : decode cMB_controller 22 = .ok (.if_icmp .ne 5, 3) := by decide +kernel
theorem dMB_controller_25 : decode cMB_controller 25 = .ok (.iconst 0, 1) := by decide +kernel
theorem dMB_controller_26 : decode cMB_controller 26 = .ok (.ireturn, 1) := by decide +kernel
theorem dMB_controller_27 : decode cMB_controller 27 = .ok (.aload_n 0, 1) := by decide +kernel
theorem dMB_controller_28 : decode cMB_controller 28 = .ok (.getfield 19, 3) := by decide +kernel
theorem dMB_controller_31 : decode cMB_controller 31 = .ok (.getfield 49, 3) := by decide +kernel
theorem dMB_controller_34 : decode cMB_controller 34 = .ok (.iload_n 1, 1) := by decide +kernel
theorem dMB_controller_35 : decode cMB_controller 35 = .ok (.iload_n 2, 1) := by decide +kernel
theorem dMB_controller_36 : decode cMB_controller 36 = .ok (.bastore, 1) := by decide +kernel
theorem dMB_controller_37 : decode cMB_controller 37 = .ok (.iconst 1, 1) := by decide +kernel
theorem dMB_controller_38 : decode cMB_controller 38 = .ok (.ireturn, 1) := by decide +kernel
theorem dMB_enter_0 : decode cMB_enter 0 = .ok (.iload_n 1, 1) := by decide +kernel
theorem dMB_enter_1 : decode cMB_enter 1 = .ok (.bipush 20, 2) := by decide +kernel
theorem dMB_enter_3 : decode cMB_enter 3 = .ok (.sipush 200, 3) := by decide +kernel
theorem dMB_enter_6 : decode cMB_enter 6 = .ok (.invokestatic 30, 3) := by decide +kernel
theorem dMB_enter_9 : decode cMB_enter 9 = .ok (.ifCond .ne 22, 3) := by decide +kernel
theorem dMB_enter_12 : decode cMB_enter 12 = .ok (.iload_n 2, 1) := by decide +kernel
theorem dMB_enter_13 : decode cMB_enter 13 = .ok (.iload_n 1, 1) := by decide +kernel
theorem dMB_enter_14 : decode cMB_enter 14 = .ok (.sipush 4000, 3) := by decide +kernel
theorem dMB_enter_17 : decode cMB_enter 17 = .ok (.invokestatic 30, 3) := by decide +kernel
theorem dMB_enter_20 : decode cMB_enter 20 = .ok (.ifCond .ne 11, 3) := by decide +kernel
theorem dMB_enter_23 : decode cMB_enter 23 = .ok (.aload_n 0, 1) := by decide +kernel
theorem dMB_enter_24 : decode cMB_enter 24 = .ok (.getfield 52, 3) := by decide +kernel
theorem dMB_enter_27 : decode cMB_enter 27 = .ok (.iconst 4, 1) := by decide +kernel
theorem dMB_enter_28 : decode cMB_enter 28 = .ok (.if_icmp .lt 6, 3) := by decide +kernel
theorem dMB_enter_31 : decode cMB_enter 31 = .ok (.ldc 34, 2) := by decide +kernel
theorem dMB_enter_33 : decode cMB_enter 33 = .ok (.ireturn, 1) := by decide +kernel
theorem dMB_enter_34 : decode cMB_enter 34 = .ok (.aload_n 0, 1) := by decide +kernel
theorem dMB_enter_35 : decode cMB_enter 35 = .ok (.getfield 52, 3) := by decide +kernel
theorem dMB_enter_38 : decode cMB_enter 38 = .ok (.ifCond .le 30, 3) := by decide +kernel
theorem dMB_enter_41 : decode cMB_enter 41 = .ok (.iload_n 2, 1) := by decide +kernel
theorem dMB_enter_42 : decode cMB_enter 42 = .ok (.bipush 8, 2) := by decide +kernel
theorem dMB_enter_44 : decode cMB_enter 44 = .ok (.imul, 1) := by decide +kernel
theorem dMB_enter_45 : decode cMB_enter 45 = .ok (.aload_n 0, 1) := by decide +kernel
theorem dMB_enter_46 : decode cMB_enter 46 = .ok (.getfield 25, 3) := by decide +kernel
theorem dMB_enter_49 : decode cMB_enter 49 = .ok (.aload_n 0, 1) := by decide +kernel
theorem dMB_enter_50 : decode cMB_enter 50 = .ok (.getfield 52, 3) := by decide +kernel
theorem dMB_enter_53 : decode cMB_enter 53 = .ok (.iconst 1, 1) := by decide +kernel
theorem dMB_enter_54 : decode cMB_enter 54 = .ok (.isub, 1) := by decide +kernel
theorem dMB_enter_55 : decode cMB_enter 55 = .ok (.aaload, 1) := by decide +kernel
theorem dMB_enter_56 : decode cMB_enter 56 = .ok (.invokevirtual 56, 3) := by decide +kernel
theorem dMB_enter_59 : decode cMB_enter 59 = .ok (.bipush 64, 2) := by decide +kernel
theorem dMB_enter_61 : decode cMB_enter 61 = .ok (.isub, 1) := by decide +kernel
theorem dMB_enter_62 : decode cMB_enter 62 = .ok (.if_icmp .le 6, 3) := by decide +kernel
theorem dMB_enter_65 : decode cMB_enter 65 = .ok (.ldc 34, 2) := by decide +kernel
theorem dMB_enter_67 : decode cMB_enter 67 = .ok (.ireturn, 1) := by decide +kernel
theorem dMB_enter_68 : decode cMB_enter 68 = .ok (.aload_n 0, 1) := by decide +kernel
theorem dMB_enter_69 : decode cMB_enter 69 = .ok (.getfield 25, 3) := by decide +kernel
theorem dMB_enter_72 : decode cMB_enter 72 = .ok (.aload_n 0, 1) := by decide +kernel
theorem dMB_enter_73 : decode cMB_enter 73 = .ok (.getfield 52, 3) := by decide +kernel
theorem dMB_enter_76 : decode cMB_enter 76 = .ok (.aaload, 1) := by decide +kernel
theorem dMB_enter_77 : decode cMB_enter 77 = .ok (.iload_n 1, 1) := by decide +kernel
theorem dMB_enter_78 : decode cMB_enter 78 = .ok (.bipush 8, 2) := by decide +kernel
theorem dMB_enter_80 : decode cMB_enter 80 = .ok (.imul, 1) := by decide +kernel
theorem dMB_enter_81 : decode cMB_enter 81 = .ok (.iload_n 2, 1) := by decide +kernel
theorem dMB_enter_82 : decode cMB_enter 82 = .ok (.bipush 8, 2) := by decide +kernel
theorem dMB_enter_84 : decode cMB_enter 84 = .ok (.imul, 1) := by decide +kernel
theorem dMB_enter_85 : decode cMB_enter 85 = .ok (.invokevirtual 60, 3) := by decide +kernel
theorem dMB_enter_88 : decode cMB_enter 88 = .ok (.aload_n 0, 1) := by decide +kernel
theorem dMB_enter_89 : decode cMB_enter 89 = .ok (.dup, 1) := by decide +kernel
theorem dMB_enter_90 : decode cMB_enter 90 = .ok (.getfield 52, 3) := by decide +kernel
theorem dMB_enter_93 : decode cMB_enter 93 = .ok (.iconst 1, 1) := by decide +kernel
theorem dMB_enter_94 : decode cMB_enter 94 = .ok (.iadd, 1) := by decide +kernel
theorem dMB_enter_95 : decode cMB_enter 95 = .ok (.putfield 52, 3) := by decide +kernel
theorem dMB_enter_98 : decode cMB_enter 98 = .ok (.aload_n 0, 1) := by decide +kernel
theorem dMB_enter_99 : decode cMB_enter 99 = .ok (.getfield 52, 3) := by decide +kernel
theorem dMB_enter_102 : decode cMB_enter 102 = .ok (.iconst 1, 1) := by decide +kernel
theorem dMB_enter_103 : decode cMB_enter 103 = .ok (.isub, 1) := by decide +kernel
theorem dMB_enter_104 : decode cMB_enter 104 = .ok (.ireturn, 1) := by decide +kernel
theorem dMB_demand_0 : decode cMB_demand 0 = .ok (.aload_n 0, 1) := by decide +kernel
theorem dMB_demand_1 : decode cMB_demand 1 = .ok (.iload_n 1, 1) := by decide +kernel
theorem dMB_demand_2 : decode cMB_demand 2 = .ok (.invokevirtual 64, 3) := by decide +kernel
theorem dMB_demand_5 : decode cMB_demand 5 = .ok (.ifCond .ne 12, 3) := by decide +kernel
theorem dMB_demand_8 : decode cMB_demand 8 = .ok (.iload_n 2, 1) := by decide +kernel
theorem dMB_demand_9 : decode cMB_demand 9 = .ok (.iconst (-1), 1) := by decide +kernel
theorem dMB_demand_10 : decode cMB_demand 10 = .ok (.iconst 1, 1) := by decide +kernel
theorem dMB_demand_11 : decode cMB_demand 11 = .ok (.invokestatic 30, 3) := by decide +kernel
theorem dMB_demand_14 : decode cMB_demand 14 = .ok (.ifCond .eq 6, 3) := by decide +kernel
theorem dMB_demand_17 : decode cMB_demand 17 = .ok (.ldc 34, 2) := by decide +kernel
theorem dMB_demand_19 : decode cMB_demand 19 = .ok (.ireturn, 1) := by decide +kernel
theorem dMB_demand_20 : decode cMB_demand 20 = .ok (.aload_n 0, 1) := by decide +kernel
theorem dMB_demand_21 : decode cMB_demand 21 = .ok (.getfield 25, 3) := by decide +kernel
theorem dMB_demand_24 : decode cMB_demand 24 = .ok (.iload_n 1, 1) := by decide +kernel
theorem dMB_demand_25 : decode cMB_demand 25 = .ok (.aaload, 1) := by decide +kernel
theorem dMB_demand_26 : decode cMB_demand 26 = .ok (.iload_n 2, 1) := by decide +kernel
theorem dMB_demand_27 : decode cMB_demand 27 = .ok (.putfield 68, 3) := by decide +kernel
theorem dMB_demand_30 : decode cMB_demand 30 = .ok (.iconst 1, 1) := by decide +kernel
theorem dMB_demand_31 : decode cMB_demand 31 = .ok (.ireturn, 1) := by decide +kernel
theorem dMB_isNoTrain_0 : decode cMB_isNoTrain 0 = .ok (.iload_n 1, 1) := by decide +kernel
theorem dMB_isNoTrain_1 : decode cMB_isNoTrain 1 = .ok (.iconst 0, 1) := by decide +kernel
theorem dMB_isNoTrain_2 : decode cMB_isNoTrain 2 = .ok (.aload_n 0, 1) := by decide +kernel
theorem dMB_isNoTrain_3 : decode cMB_isNoTrain 3 = .ok (.getfield 52, 3) := by decide +kernel
theorem dMB_isNoTrain_6 : decode cMB_isNoTrain 6 = .ok (.iconst 1, 1) := by decide +kernel
theorem dMB_isNoTrain_7 : decode cMB_isNoTrain 7 = .ok (.isub, 1) := by decide +kernel
theorem dMB_isNoTrain_8 : decode cMB_isNoTrain 8 = .ok (.invokestatic 30, 3) := by decide +kernel
theorem dMB_isNoTrain_11 : decode cMB_isNoTrain 11 = .ok (.ireturn, 1) := by decide +kernel
theorem dMB_drift_0 : decode cMB_drift 0 = .ok (.aload_n 0, 1) := by decide +kernel
theorem dMB_drift_1 : decode cMB_drift 1 = .ok (.iload_n 1, 1) := by decide +kernel
theorem dMB_drift_2 : decode cMB_drift 2 = .ok (.invokevirtual 64, 3) := by decide +kernel
theorem dMB_drift_5 : decode cMB_drift 5 = .ok (.ifCond .ne 13, 3) := by decide +kernel
theorem dMB_drift_8 : decode cMB_drift 8 = .ok (.iload_n 2, 1) := by decide +kernel
theorem dMB_drift_9 : decode cMB_drift 9 = .ok (.bipush (-2), 2) := by decide +kernel
theorem dMB_drift_11 : decode cMB_drift 11 = .ok (.iconst 2, 1) := by decide +kernel
theorem dMB_drift_12 : decode cMB_drift 12 = .ok (.invokestatic 30, 3) := by decide +kernel
theorem dMB_drift_15 : decode cMB_drift 15 = .ok (.ifCond .eq 6, 3) := by decide +kernel
theorem dMB_drift_18 : decode cMB_drift 18 = .ok (.ldc 34, 2) := by decide +kernel
theorem dMB_drift_20 : decode cMB_drift 20 = .ok (.ireturn, 1) := by decide +kernel
theorem dMB_drift_21 : decode cMB_drift 21 = .ok (.aload_n 0, 1) := by decide +kernel
theorem dMB_drift_22 : decode cMB_drift 22 = .ok (.getfield 25, 3) := by decide +kernel
theorem dMB_drift_25 : decode cMB_drift 25 = .ok (.iload_n 1, 1) := by decide +kernel
theorem dMB_drift_26 : decode cMB_drift 26 = .ok (.aaload, 1) := by decide +kernel
theorem dMB_drift_27 : decode cMB_drift 27 = .ok (.iload_n 2, 1) := by decide +kernel
theorem dMB_drift_28 : decode cMB_drift 28 = .ok (.putfield 71, 3) := by decide +kernel
theorem dMB_drift_31 : decode cMB_drift 31 = .ok (.iconst 1, 1) := by decide +kernel
theorem dMB_drift_32 : decode cMB_drift 32 = .ok (.ireturn, 1) := by decide +kernel
theorem dMB_radio_0 : decode cMB_radio 0 = .ok (.aload_n 0, 1) := by decide +kernel
theorem dMB_radio_1 : decode cMB_radio 1 = .ok (.iload_n 1, 1) := by decide +kernel
theorem dMB_radio_2 : decode cMB_radio 2 = .ok (.invokevirtual 64, 3) := by decide +kernel
theorem dMB_radio_5 : decode cMB_radio 5 = .ok (.ifCond .ne 21, 3) := by decide +kernel
theorem dMB_radio_8 : decode cMB_radio 8 = .ok (.iload_n 2, 1) := by decide +kernel
theorem dMB_radio_9 : decode cMB_radio 9 = .ok (.iconst 0, 1) := by decide +kernel
theorem dMB_radio_10 : decode cMB_radio 10 = .ok (.iconst 5, 1) := by decide +kernel
theorem dMB_radio_11 : decode cMB_radio 11 = .ok (.invokestatic 30, 3) := by decide +kernel
theorem dMB_radio_14 : decode cMB_radio 14 = .ok (.ifCond .ne 12, 3) := by decide +kernel
theorem dMB_radio_17 : decode cMB_radio 17 = .ok (.iload_n 3, 1) := by decide +kernel
theorem dMB_radio_18 : decode cMB_radio 18 = .ok (.iconst 0, 1) := by decide +kernel
theorem dMB_radio_19 : decode cMB_radio 19 = .ok (.iconst 5, 1) := by decide +kernel
theorem dMB_radio_20 : decode cMB_radio 20 = .ok (.invokestatic 30, 3) := by decide +kernel
theorem dMB_radio_23 : decode cMB_radio 23 = .ok (.ifCond .eq 6, 3) := by decide +kernel
theorem dMB_radio_26 : decode cMB_radio 26 = .ok (.ldc 34, 2) := by decide +kernel
theorem dMB_radio_28 : decode cMB_radio 28 = .ok (.ireturn, 1) := by decide +kernel
theorem dMB_radio_29 : decode cMB_radio 29 = .ok (.aload_n 0, 1) := by decide +kernel
theorem dMB_radio_30 : decode cMB_radio 30 = .ok (.getfield 25, 3) := by decide +kernel
theorem dMB_radio_33 : decode cMB_radio 33 = .ok (.iload_n 1, 1) := by decide +kernel
theorem dMB_radio_34 : decode cMB_radio 34 = .ok (.aaload, 1) := by decide +kernel
theorem dMB_radio_35 : decode cMB_radio 35 = .ok (.getfield 74, 3) := by decide +kernel
theorem dMB_radio_38 : decode cMB_radio 38 = .ok (.iload_n 2, 1) := by decide +kernel
theorem dMB_radio_39 : decode cMB_radio 39 = .ok (.putfield 78, 3) := by decide +kernel
theorem dMB_radio_42 : decode cMB_radio 42 = .ok (.aload_n 0, 1) := by decide +kernel
theorem dMB_radio_43 : decode cMB_radio 43 = .ok (.getfield 25, 3) := by decide +kernel
theorem dMB_radio_46 : decode cMB_radio 46 = .ok (.iload_n 1, 1) := by decide +kernel
theorem dMB_radio_47 : decode cMB_radio 47 = .ok (.aaload, 1) := by decide +kernel
theorem dMB_radio_48 : decode cMB_radio 48 = .ok (.getfield 83, 3) := by decide +kernel
theorem dMB_radio_51 : decode cMB_radio 51 = .ok (.iload_n 3, 1) := by decide +kernel
theorem dMB_radio_52 : decode cMB_radio 52 = .ok (.putfield 78, 3) := by decide +kernel
theorem dMB_radio_55 : decode cMB_radio 55 = .ok (.iconst 1, 1) := by decide +kernel
theorem dMB_radio_56 : decode cMB_radio 56 = .ok (.ireturn, 1) := by decide +kernel
theorem dMB_tick_0 : decode cMB_tick 0 = .ok (.iload_n 1, 1) := by decide +kernel
theorem dMB_tick_1 : decode cMB_tick 1 = .ok (.iconst 1, 1) := by decide +kernel
theorem dMB_tick_2 : decode cMB_tick 2 = .ok (.bipush 8, 2) := by decide +kernel
theorem dMB_tick_4 : decode cMB_tick 4 = .ok (.invokestatic 30, 3) := by decide +kernel
theorem dMB_tick_7 : decode cMB_tick 7 = .ok (.ifCond .eq 6, 3) := by decide +kernel
theorem dMB_tick_10 : decode cMB_tick 10 = .ok (.ldc 34, 2) := by decide +kernel
theorem dMB_tick_12 : decode cMB_tick 12 = .ok (.ireturn, 1) := by decide +kernel
theorem dMB_tick_13 : decode cMB_tick 13 = .ok (.iconst 0, 1) := by decide +kernel
theorem dMB_tick_14 : decode cMB_tick 14 = .ok (.istore_n 2, 1) := by decide +kernel
theorem dMB_tick_15 : decode cMB_tick 15 = .ok (.iload_n 2, 1) := by decide +kernel
theorem dMB_tick_16 : decode cMB_tick 16 = .ok (.iload_n 1, 1) := by decide +kernel
theorem dMB_tick_17 : decode cMB_tick 17 = .ok (.if_icmp .ge 13, 3) := by decide +kernel
theorem dMB_tick_20 : decode cMB_tick 20 = .ok (.aload_n 0, 1) := by decide +kernel
theorem dMB_tick_21 : decode cMB_tick 21 = .ok (.invokevirtual 86, 3) := by decide +kernel
theorem dMB_tick_24 : decode cMB_tick 24 = .ok (.iinc 2 1, 3) := by decide +kernel
theorem dMB_tick_27 : decode cMB_tick 27 = .ok (.goto (-12), 3) := by decide +kernel
theorem dMB_tick_30 : decode cMB_tick 30 = .ok (.aload_n 0, 1) := by decide +kernel
theorem dMB_tick_31 : decode cMB_tick 31 = .ok (.getfield 89, 3) := by decide +kernel
theorem dMB_tick_34 : decode cMB_tick 34 = .ok (.ireturn, 1) := by decide +kernel
theorem dMB_passOneSecond_0 : decode cMB_passOneSecond 0 = .ok (.aload_n 0, 1) := by decide +kernel
theorem dMB_passOneSecond_1 : decode cMB_passOneSecond 1 = .ok (.dup, 1) := by decide +kernel
theorem dMB_passOneSecond_2 : decode cMB_passOneSecond 2 = .ok (.getfield 89, 3) := by decide +kernel
theorem dMB_passOneSecond_5 : decode cMB_passOneSecond 5 = .ok (.iconst 1, 1) := by decide +kernel
theorem dMB_passOneSecond_6 : decode cMB_passOneSecond 6 = .ok (.iadd, 1) := by decide +kernel
theorem dMB_passOneSecond_7 : decode cMB_passOneSecond 7 = .ok (.putfield 89, 3) := by decide +kernel
theorem dMB_passOneSecond_10 : decode cMB_passOneSecond 10 = .ok (.iconst 0, 1) := by decide +kernel
theorem dMB_passOneSecond_11 : decode cMB_passOneSecond 11 = .ok (.istore_n 1, 1) := by decide +kernel
theorem dMB_passOneSecond_12 : decode cMB_passOneSecond 12 = .ok (.iload_n 1, 1) := by decide +kernel
theorem dMB_passOneSecond_13 : decode cMB_passOneSecond 13 = .ok (.aload_n 0, 1) := by decide +kernel
theorem dMB_passOneSecond_14 : decode cMB_passOneSecond 14 = .ok (.getfield 52, 3) := by decide +kernel
theorem dMB_passOneSecond_17 : decode cMB_passOneSecond 17 = .ok (.if_icmp .ge 22, 3) := by decide +kernel
theorem dMB_passOneSecond_20 : decode cMB_passOneSecond 20 = .ok (.aload_n 0, 1) := by decide +kernel
theorem dMB_passOneSecond_21 : decode cMB_passOneSecond 21 = .ok (.getfield 25, 3) := by decide +kernel
theorem dMB_passOneSecond_24 : decode cMB_passOneSecond 24 = .ok (.iload_n 1, 1) := by decide +kernel
theorem dMB_passOneSecond_25 : decode cMB_passOneSecond 25 = .ok (.aaload, 1) := by decide +kernel
theorem dMB_passOneSecond_26 : decode cMB_passOneSecond 26 = .ok (.aload_n 0, 1) := by decide +kernel
theorem dMB_passOneSecond_27 : decode cMB_passOneSecond 27 = .ok (.getfield 89, 3) := by decide +kernel
theorem dMB_passOneSecond_30 : decode cMB_passOneSecond 30 = .ok (.invokevirtual 146, 3) := by decide +kernel
theorem dMB_passOneSecond_33 : decode cMB_passOneSecond 33 = .ok (.iinc 1 1, 3) := by decide +kernel
theorem dMB_passOneSecond_36 : decode cMB_passOneSecond 36 = .ok (.goto (-24), 3) := by decide +kernel
theorem dMB_passOneSecond_39 : decode cMB_passOneSecond 39 = .ok (.iconst 0, 1) := by decide +kernel
theorem dMB_passOneSecond_40 : decode cMB_passOneSecond 40 = .ok (.istore_n 1, 1) := by decide +kernel
theorem dMB_passOneSecond_41 : decode cMB_passOneSecond 41 = .ok (.iload_n 1, 1) := by decide +kernel
theorem dMB_passOneSecond_42 : decode cMB_passOneSecond 42 = .ok (.aload_n 0, 1) := by decide +kernel
theorem dMB_passOneSecond_43 : decode cMB_passOneSecond 43 = .ok (.getfield 52, 3) := by decide +kernel
theorem dMB_passOneSecond_46 : decode cMB_passOneSecond 46 = .ok (.if_icmp .ge 25, 3) := by decide +kernel
theorem dMB_passOneSecond_49 : decode cMB_passOneSecond 49 = .ok (.aload_n 0, 1) := by decide +kernel
theorem dMB_passOneSecond_50 : decode cMB_passOneSecond 50 = .ok (.getfield 25, 3) := by decide +kernel
theorem dMB_passOneSecond_53 : decode cMB_passOneSecond 53 = .ok (.iload_n 1, 1) := by decide +kernel
theorem dMB_passOneSecond_54 : decode cMB_passOneSecond 54 = .ok (.aaload, 1) := by decide +kernel
theorem dMB_passOneSecond_55 : decode cMB_passOneSecond 55 = .ok (.getfield 74, 3) := by decide +kernel
theorem dMB_passOneSecond_58 : decode cMB_passOneSecond 58 = .ok (.aload_n 0, 1) := by decide +kernel
theorem dMB_passOneSecond_59 : decode cMB_passOneSecond 59 = .ok (.getfield 89, 3) := by decide +kernel
theorem dMB_passOneSecond_62 : decode cMB_passOneSecond 62 = .ok (.invokevirtual 150, 3) := by decide +kernel
theorem dMB_passOneSecond_65 : decode cMB_passOneSecond 65 = .ok (.iinc 1 1, 3) := by decide +kernel
theorem dMB_passOneSecond_68 : decode cMB_passOneSecond 68 = .ok (.goto (-27), 3) := by decide +kernel
theorem dMB_passOneSecond_71 : decode cMB_passOneSecond 71 = .ok (.iconst 0, 1) := by decide +kernel
theorem dMB_passOneSecond_72 : decode cMB_passOneSecond 72 = .ok (.istore_n 1, 1) := by decide +kernel
theorem dMB_passOneSecond_73 : decode cMB_passOneSecond 73 = .ok (.iload_n 1, 1) := by decide +kernel
theorem dMB_passOneSecond_74 : decode cMB_passOneSecond 74 = .ok (.aload_n 0, 1) := by decide +kernel
theorem dMB_passOneSecond_75 : decode cMB_passOneSecond 75 = .ok (.getfield 52, 3) := by decide +kernel
theorem dMB_passOneSecond_78 : decode cMB_passOneSecond 78 = .ok (.if_icmp .ge 14, 3) := by decide +kernel
theorem dMB_passOneSecond_81 : decode cMB_passOneSecond 81 = .ok (.aload_n 0, 1) := by decide +kernel
theorem dMB_passOneSecond_82 : decode cMB_passOneSecond 82 = .ok (.iload_n 1, 1) := by decide +kernel
theorem dMB_passOneSecond_83 : decode cMB_passOneSecond 83 = .ok (.invokevirtual 153, 3) := by decide +kernel
theorem dMB_passOneSecond_86 : decode cMB_passOneSecond 86 = .ok (.iinc 1 1, 3) := by decide +kernel
theorem dMB_passOneSecond_89 : decode cMB_passOneSecond 89 = .ok (.goto (-16), 3) := by decide +kernel
theorem dMB_passOneSecond_92 : decode cMB_passOneSecond 92 = .ok (.iconst 0, 1) := by decide +kernel
theorem dMB_passOneSecond_93 : decode cMB_passOneSecond 93 = .ok (.istore_n 1, 1) := by decide +kernel
theorem dMB_passOneSecond_94 : decode cMB_passOneSecond 94 = .ok (.iload_n 1, 1) := by decide +kernel
theorem dMB_passOneSecond_95 : decode cMB_passOneSecond 95 = .ok (.aload_n 0, 1) := by decide +kernel
theorem dMB_passOneSecond_96 : decode cMB_passOneSecond 96 = .ok (.getfield 52, 3) := by decide +kernel
theorem dMB_passOneSecond_99 : decode cMB_passOneSecond 99 = .ok (.if_icmp .ge 25, 3) := by decide +kernel
theorem dMB_passOneSecond_102 : decode cMB_passOneSecond 102 = .ok (.aload_n 0, 1) := by decide +kernel
theorem dMB_passOneSecond_103 : decode cMB_passOneSecond 103 = .ok (.getfield 25, 3) := by decide +kernel
theorem dMB_passOneSecond_106 : decode cMB_passOneSecond 106 = .ok (.iload_n 1, 1) := by decide +kernel
theorem dMB_passOneSecond_107 : decode cMB_passOneSecond 107 = .ok (.aaload, 1) := by decide +kernel
theorem dMB_passOneSecond_108 : decode cMB_passOneSecond 108 = .ok (.getfield 83, 3) := by decide +kernel
theorem dMB_passOneSecond_111 : decode cMB_passOneSecond 111 = .ok (.aload_n 0, 1) := by decide +kernel
theorem dMB_passOneSecond_112 : decode cMB_passOneSecond 112 = .ok (.getfield 89, 3) := by decide +kernel
theorem dMB_passOneSecond_115 : decode cMB_passOneSecond 115 = .ok (.invokevirtual 150, 3) := by decide +kernel
theorem dMB_passOneSecond_118 : decode cMB_passOneSecond 118 = .ok (.iinc 1 1, 3) := by decide +kernel
theorem dMB_passOneSecond_121 : decode cMB_passOneSecond 121 = .ok (.goto (-27), 3) := by decide +kernel
theorem dMB_passOneSecond_124 : decode cMB_passOneSecond 124 = .ok (.iconst 0, 1) := by decide +kernel
theorem dMB_passOneSecond_125 : decode cMB_passOneSecond 125 = .ok (.istore_n 1, 1) := by decide +kernel
theorem dMB_passOneSecond_126 : decode cMB_passOneSecond 126 = .ok (.iload_n 1, 1) := by decide +kernel
theorem dMB_passOneSecond_127 : decode cMB_passOneSecond 127 = .ok (.aload_n 0, 1) := by decide +kernel
theorem dMB_passOneSecond_128 : decode cMB_passOneSecond 128 = .ok (.getfield 52, 3) := by decide +kernel
theorem dMB_passOneSecond_131 : decode cMB_passOneSecond 131 = .ok (.if_icmp .ge 26, 3) := by decide +kernel
theorem dMB_passOneSecond_134 : decode cMB_passOneSecond 134 = .ok (.aload_n 0, 1) := by decide +kernel
theorem dMB_passOneSecond_135 : decode cMB_passOneSecond 135 = .ok (.getfield 25, 3) := by decide +kernel
theorem dMB_passOneSecond_138 : decode cMB_passOneSecond 138 = .ok (.iload_n 1, 1) := by decide +kernel
theorem dMB_passOneSecond_139 : decode cMB_passOneSecond 139 = .ok (.aaload, 1) := by decide +kernel
theorem dMB_passOneSecond_140 : decode cMB_passOneSecond 140 = .ok (.aload_n 0, 1) := by decide +kernel
theorem dMB_passOneSecond_141 : decode cMB_passOneSecond 141 = .ok (.getfield 89, 3) := by decide +kernel
theorem dMB_passOneSecond_144 : decode cMB_passOneSecond 144 = .ok (.aload_n 0, 1) := by decide +kernel
theorem dMB_passOneSecond_145 : decode cMB_passOneSecond 145 = .ok (.getfield 12, 3) := by decide +kernel
theorem dMB_passOneSecond_148 : decode cMB_passOneSecond 148 = .ok (.invokevirtual 156, 3) := by decide +kernel
theorem dMB_passOneSecond_151 : decode cMB_passOneSecond 151 = .ok (.iinc 1 1, 3) := by decide +kernel
theorem dMB_passOneSecond_154 : decode cMB_passOneSecond 154 = .ok (.goto (-28), 3) := by decide +kernel
theorem dMB_passOneSecond_157 : decode cMB_passOneSecond 157 = .ok (.return_, 1) := by decide +kernel
theorem dMB_sendAuthority_0 : decode cMB_sendAuthority 0 = .ok (.aload_n 0, 1) := by decide +kernel
theorem dMB_sendAuthority_1 : decode cMB_sendAuthority 1 = .ok (.getfield 25, 3) := by decide +kernel
theorem dMB_sendAuthority_4 : decode cMB_sendAuthority 4 = .ok (.iload_n 1, 1) := by decide +kernel
theorem dMB_sendAuthority_5 : decode cMB_sendAuthority 5 = .ok (.aaload, 1) := by decide +kernel
theorem dMB_sendAuthority_6 : decode cMB_sendAuthority 6 = .ok (.getfield 74, 3) := by decide +kernel
theorem dMB_sendAuthority_9 : decode cMB_sendAuthority 9 = .ok (.astore_n 2, 1) := by decide +kernel
theorem dMB_sendAuthority_10 : decode cMB_sendAuthority 10 = .ok (.aload_n 2, 1) := by decide +kernel
theorem dMB_sendAuthority_11 : decode cMB_sendAuthority 11 = .ok (.invokevirtual 104, 3) := by decide +kernel
theorem dMB_sendAuthority_14 : decode cMB_sendAuthority 14 = .ok (.ifCond .eq 17, 3) := by decide +kernel
theorem dMB_sendAuthority_17 : decode cMB_sendAuthority 17 = .ok (.aload_n 0, 1) := by decide +kernel
theorem dMB_sendAuthority_18 : decode cMB_sendAuthority 18 = .ok (.getfield 19, 3) := by decide +kernel
theorem dMB_sendAuthority_21 : decode cMB_sendAuthority 21 = .ok (.aload_n 2, 1) := by decide +kernel
theorem dMB_sendAuthority_22 : decode cMB_sendAuthority 22 = .ok (.getfield 108, 3) := by decide +kernel
theorem dMB_sendAuthority_25 : decode cMB_sendAuthority 25 = .ok (.invokevirtual 160, 3) := by decide +kernel
theorem dMB_sendAuthority_28 : decode cMB_sendAuthority 28 = .ok (.ifCond .ne 4, 3) := by decide +kernel
theorem dMB_sendAuthority_31 : decode cMB_sendAuthority 31 = .ok (.return_, 1) := by decide +kernel
theorem dMB_sendAuthority_32 : decode cMB_sendAuthority 32 = .ok (.aload_n 0, 1) := by decide +kernel
theorem dMB_sendAuthority_33 : decode cMB_sendAuthority 33 = .ok (.getfield 19, 3) := by decide +kernel
theorem dMB_sendAuthority_36 : decode cMB_sendAuthority 36 = .ok (.aload_n 2, 1) := by decide +kernel
theorem dMB_sendAuthority_37 : decode cMB_sendAuthority 37 = .ok (.getfield 108, 3) := by decide +kernel
theorem dMB_sendAuthority_40 : decode cMB_sendAuthority 40 = .ok (.invokevirtual 163, 3) := by decide +kernel
theorem dMB_sendAuthority_43 : decode cMB_sendAuthority 43 = .ok (.aload_n 0, 1) := by decide +kernel
theorem dMB_sendAuthority_44 : decode cMB_sendAuthority 44 = .ok (.iload_n 1, 1) := by decide +kernel
theorem dMB_sendAuthority_45 : decode cMB_sendAuthority 45 = .ok (.invokevirtual 166, 3) := by decide +kernel
theorem dMB_sendAuthority_48 : decode cMB_sendAuthority 48 = .ok (.invokestatic 169, 3) := by decide +kernel
theorem dMB_sendAuthority_51 : decode cMB_sendAuthority 51 = .ok (.istore_n 3, 1) := by decide +kernel
theorem dMB_sendAuthority_52 : decode cMB_sendAuthority 52 = .ok (.aload_n 0, 1) := by decide +kernel
theorem dMB_sendAuthority_53 : decode cMB_sendAuthority 53 = .ok (.getfield 25, 3) := by decide +kernel
theorem dMB_sendAuthority_56 : decode cMB_sendAuthority 56 = .ok (.iload_n 1, 1) := by decide +kernel
theorem dMB_sendAuthority_57 : decode cMB_sendAuthority 57 = .ok (.aaload, 1) := by decide +kernel
theorem dMB_sendAuthority_58 : decode cMB_sendAuthority 58 = .ok (.getfield 83, 3) := by decide +kernel
theorem dMB_sendAuthority_61 : decode cMB_sendAuthority 61 = .ok (.aload_n 0, 1) := by decide +kernel
theorem dMB_sendAuthority_62 : decode cMB_sendAuthority 62 = .ok (.getfield 89, 3) := by decide +kernel
theorem dMB_sendAuthority_65 : decode cMB_sendAuthority 65 = .ok (.iload_n 3, 1) := by decide +kernel
theorem dMB_sendAuthority_66 : decode cMB_sendAuthority 66 = .ok (.iconst 0, 1) := by decide +kernel
theorem dMB_sendAuthority_67 : decode cMB_sendAuthority 67 = .ok (.invokevirtual 175, 3) := by decide +kernel
theorem dMB_sendAuthority_70 : decode cMB_sendAuthority 70 = .ok (.return_, 1) := by decide +kernel
theorem dMB_endBehindTrainsAhead_0 : decode cMB_endBehindTrainsAhead 0 = .ok (.ldc 179, 2) := by decide +kernel
theorem dMB_endBehindTrainsAhead_2 : decode cMB_endBehindTrainsAhead 2 = .ok (.istore_n 2, 1) := by decide +kernel
theorem dMB_endBehindTrainsAhead_3 : decode cMB_endBehindTrainsAhead 3 = .ok (.iconst 0, 1) := by decide +kernel
theorem dMB_endBehindTrainsAhead_4 : decode cMB_endBehindTrainsAhead 4 = .ok (.istore_n 3, 1) := by decide +kernel
theorem dMB_endBehindTrainsAhead_5 : decode cMB_endBehindTrainsAhead 5 = .ok (.iload_n 3, 1) := by decide +kernel
theorem dMB_endBehindTrainsAhead_6 : decode cMB_endBehindTrainsAhead 6 = .ok (.iload_n 1, 1) := by decide +kernel
theorem dMB_endBehindTrainsAhead_7 : decode cMB_endBehindTrainsAhead 7 = .ok (.if_icmp .ge 45, 3) := by decide +kernel
theorem dMB_endBehindTrainsAhead_10 : decode cMB_endBehindTrainsAhead 10 = .ok (.aload_n 0, 1) := by decide +kernel
theorem dMB_endBehindTrainsAhead_11 : decode cMB_endBehindTrainsAhead 11 = .ok (.getfield 25, 3) := by decide +kernel
theorem dMB_endBehindTrainsAhead_14 : decode cMB_endBehindTrainsAhead 14 = .ok (.iload_n 3, 1) := by decide +kernel
theorem dMB_endBehindTrainsAhead_15 : decode cMB_endBehindTrainsAhead 15 = .ok (.aaload, 1) := by decide +kernel
theorem dMB_endBehindTrainsAhead_16 : decode cMB_endBehindTrainsAhead 16 = .ok (.getfield 74, 3) := by decide +kernel
theorem dMB_endBehindTrainsAhead_19 : decode cMB_endBehindTrainsAhead 19 = .ok (.astore 4, 2) := by decide +kernel
theorem dMB_endBehindTrainsAhead_21 : decode cMB_endBehindTrainsAhead 21 = .ok (.iload_n 2, 1) := by decide +kernel
theorem dMB_endBehindTrainsAhead_22 : decode cMB_endBehindTrainsAhead 22 = .ok (.aload 4, 2) := by decide +kernel
theorem dMB_endBehindTrainsAhead_24 : decode cMB_endBehindTrainsAhead 24 = .ok (.invokevirtual 104, 3) := by decide +kernel
theorem dMB_endBehindTrainsAhead_27 : decode cMB_endBehindTrainsAhead 27 = .ok (.ifCond .eq 14, 3) := by decide +kernel
theorem dMB_endBehindTrainsAhead_30 : decode cMB_endBehindTrainsAhead 30 = .ok (.aload 4, 2) := by decide +kernel
theorem dMB_endBehindTrainsAhead_32 : decode cMB_endBehindTrainsAhead 32 = .ok (.getfield 111, 3) := by decide +kernel
theorem dMB_endBehindTrainsAhead_35 : decode cMB_endBehindTrainsAhead 35 = .ok (.bipush 64, 2) := by decide +kernel
theorem dMB_endBehindTrainsAhead_37 : decode cMB_endBehindTrainsAhead 37 = .ok (.isub, 1) := by decide +kernel
theorem dMB_endBehindTrainsAhead_38 : decode cMB_endBehindTrainsAhead 38 = .ok (.goto 4, 3) := by decide +kernel
theorem dMB_endBehindTrainsAhead_41 : decode cMB_endBehindTrainsAhead 41 = .ok (.iconst 0, 1) := by decide +kernel
theorem dMB_endBehindTrainsAhead_42 : decode cMB_endBehindTrainsAhead 42 = .ok (.invokestatic 169, 3) := by decide +kernel
theorem dMB_endBehindTrainsAhead_45 : decode cMB_endBehindTrainsAhead 45 = .ok (.istore_n 2, 1) := by decide +kernel
theorem dMB_endBehindTrainsAhead_46 : decode cMB_endBehindTrainsAhead 46 = .ok (.iinc 3 1, 3) := by decide +kernel
theorem dMB_endBehindTrainsAhead_49 : decode cMB_endBehindTrainsAhead 49 = .ok (.goto (-44), 3) := by decide +kernel
theorem dMB_endBehindTrainsAhead_52 : decode cMB_endBehindTrainsAhead 52 = .ok (.iload_n 2, 1) := by decide +kernel
theorem dMB_endBehindTrainsAhead_53 : decode cMB_endBehindTrainsAhead 53 = .ok (.ireturn, 1) := by decide +kernel
theorem dMB_measure_0 : decode cMB_measure 0 = .ok (.aload_n 0, 1) := by decide +kernel
theorem dMB_measure_1 : decode cMB_measure 1 = .ok (.iload_n 1, 1) := by decide +kernel
theorem dMB_measure_2 : decode cMB_measure 2 = .ok (.invokevirtual 64, 3) := by decide +kernel
theorem dMB_measure_5 : decode cMB_measure 5 = .ok (.ifCond .eq 6, 3) := by decide +kernel
theorem dMB_measure_8 : decode cMB_measure 8 = .ok (.ldc 34, 2) := by decide +kernel
theorem dMB_measure_10 : decode cMB_measure 10 = .ok (.ireturn, 1) := by decide +kernel
theorem dMB_measure_11 : decode cMB_measure 11 = .ok (.aload_n 0, 1) := by decide +kernel
theorem dMB_measure_12 : decode cMB_measure 12 = .ok (.getfield 25, 3) := by decide +kernel
theorem dMB_measure_15 : decode cMB_measure 15 = .ok (.iload_n 1, 1) := by decide +kernel
theorem dMB_measure_16 : decode cMB_measure 16 = .ok (.aaload, 1) := by decide +kernel
theorem dMB_measure_17 : decode cMB_measure 17 = .ok (.astore_n 3, 1) := by decide +kernel
theorem dMB_measure_18 : decode cMB_measure 18 = .ok (.iload_n 2, 1) := by decide +kernel
theorem dMB_measure_19 : decode cMB_measure 19 = .ok (.tableswitch 136 0 7 #[45, 50, 55, 60, 65, 87, 109, 131], 45) := by decide +kernel
theorem dMB_measure_64 : decode cMB_measure 64 = .ok (.aload_n 3, 1) := by decide +kernel
theorem dMB_measure_65 : decode cMB_measure 65 = .ok (.getfield 92, 3) := by decide +kernel
theorem dMB_measure_68 : decode cMB_measure 68 = .ok (.ireturn, 1) := by decide +kernel
theorem dMB_measure_69 : decode cMB_measure 69 = .ok (.aload_n 3, 1) := by decide +kernel
theorem dMB_measure_70 : decode cMB_measure 70 = .ok (.getfield 95, 3) := by decide +kernel
theorem dMB_measure_73 : decode cMB_measure 73 = .ok (.ireturn, 1) := by decide +kernel
theorem dMB_measure_74 : decode cMB_measure 74 = .ok (.aload_n 3, 1) := by decide +kernel
theorem dMB_measure_75 : decode cMB_measure 75 = .ok (.getfield 98, 3) := by decide +kernel
theorem dMB_measure_78 : decode cMB_measure 78 = .ok (.ireturn, 1) := by decide +kernel
theorem dMB_measure_79 : decode cMB_measure 79 = .ok (.aload_n 3, 1) := by decide +kernel
theorem dMB_measure_80 : decode cMB_measure 80 = .ok (.getfield 101, 3) := by decide +kernel
theorem dMB_measure_83 : decode cMB_measure 83 = .ok (.ireturn, 1) := by decide +kernel
theorem dMB_measure_84 : decode cMB_measure 84 = .ok (.aload_n 3, 1) := by decide +kernel
theorem dMB_measure_85 : decode cMB_measure 85 = .ok (.getfield 83, 3) := by decide +kernel
theorem dMB_measure_88 : decode cMB_measure 88 = .ok (.invokevirtual 104, 3) := by decide +kernel
theorem dMB_measure_91 : decode cMB_measure 91 = .ok (.ifCond .eq 13, 3) := by decide +kernel
theorem dMB_measure_94 : decode cMB_measure 94 = .ok (.aload_n 3, 1) := by decide +kernel
theorem dMB_measure_95 : decode cMB_measure 95 = .ok (.getfield 83, 3) := by decide +kernel
theorem dMB_measure_98 : decode cMB_measure 98 = .ok (.getfield 108, 3) := by decide +kernel
theorem dMB_measure_101 : decode cMB_measure 101 = .ok (.goto 4, 3) := by decide +kernel
theorem dMB_measure_104 : decode cMB_measure 104 = .ok (.iconst (-1), 1) := by decide +kernel
theorem dMB_measure_105 : decode cMB_measure 105 = .ok (.ireturn, 1) := by decide +kernel
theorem dMB_measure_106 : decode cMB_measure 106 = .ok (.aload_n 3, 1) := by decide +kernel
theorem dMB_measure_107 : decode cMB_measure 107 = .ok (.getfield 74, 3) := by decide +kernel
theorem dMB_measure_110 : decode cMB_measure 110 = .ok (.invokevirtual 104, 3) := by decide +kernel
theorem dMB_measure_113 : decode cMB_measure 113 = .ok (.ifCond .eq 13, 3) := by decide +kernel
theorem dMB_measure_116 : decode cMB_measure 116 = .ok (.aload_n 3, 1) := by decide +kernel
theorem dMB_measure_117 : decode cMB_measure 117 = .ok (.getfield 74, 3) := by decide +kernel
theorem dMB_measure_120 : decode cMB_measure 120 = .ok (.getfield 108, 3) := by decide +kernel
theorem dMB_measure_123 : decode cMB_measure 123 = .ok (.goto 4, 3) := by decide +kernel
theorem dMB_measure_126 : decode cMB_measure 126 = .ok (.iconst (-1), 1) := by decide +kernel
theorem dMB_measure_127 : decode cMB_measure 127 = .ok (.ireturn, 1) := by decide +kernel
theorem dMB_measure_128 : decode cMB_measure 128 = .ok (.aload_n 3, 1) := by decide +kernel
theorem dMB_measure_129 : decode cMB_measure 129 = .ok (.getfield 74, 3) := by decide +kernel
theorem dMB_measure_132 : decode cMB_measure 132 = .ok (.invokevirtual 104, 3) := by decide +kernel
theorem dMB_measure_135 : decode cMB_measure 135 = .ok (.ifCond .eq 13, 3) := by decide +kernel
theorem dMB_measure_138 : decode cMB_measure 138 = .ok (.aload_n 3, 1) := by decide +kernel
theorem dMB_measure_139 : decode cMB_measure 139 = .ok (.getfield 74, 3) := by decide +kernel
theorem dMB_measure_142 : decode cMB_measure 142 = .ok (.getfield 111, 3) := by decide +kernel
theorem dMB_measure_145 : decode cMB_measure 145 = .ok (.goto 4, 3) := by decide +kernel
theorem dMB_measure_148 : decode cMB_measure 148 = .ok (.iconst (-1), 1) := by decide +kernel
theorem dMB_measure_149 : decode cMB_measure 149 = .ok (.ireturn, 1) := by decide +kernel
theorem dMB_measure_150 : decode cMB_measure 150 = .ok (.aload_n 3, 1) := by decide +kernel
theorem dMB_measure_151 : decode cMB_measure 151 = .ok (.invokevirtual 56, 3) := by decide +kernel
theorem dMB_measure_154 : decode cMB_measure 154 = .ok (.ireturn, 1) := by decide +kernel
theorem dMB_measure_155 : decode cMB_measure 155 = .ok (.ldc 34, 2) := by decide +kernel
theorem dMB_measure_157 : decode cMB_measure 157 = .ok (.ireturn, 1) := by decide +kernel
theorem dMB_state_0 : decode cMB_state 0 = .ok (.aload_n 0, 1) := by decide +kernel
theorem dMB_state_1 : decode cMB_state 1 = .ok (.iload_n 1, 1) := by decide +kernel
theorem dMB_state_2 : decode cMB_state 2 = .ok (.invokevirtual 64, 3) := by decide +kernel
theorem dMB_state_5 : decode cMB_state 5 = .ok (.ifCond .eq 6, 3) := by decide +kernel
theorem dMB_state_8 : decode cMB_state 8 = .ok (.ldc 34, 2) := by decide +kernel
theorem dMB_state_10 : decode cMB_state 10 = .ok (.ireturn, 1) := by decide +kernel
theorem dMB_state_11 : decode cMB_state 11 = .ok (.aload_n 0, 1) := by decide +kernel
theorem dMB_state_12 : decode cMB_state 12 = .ok (.getfield 25, 3) := by decide +kernel
theorem dMB_state_15 : decode cMB_state 15 = .ok (.iload_n 1, 1) := by decide +kernel
theorem dMB_state_16 : decode cMB_state 16 = .ok (.aaload, 1) := by decide +kernel
theorem dMB_state_17 : decode cMB_state 17 = .ok (.astore_n 3, 1) := by decide +kernel
theorem dMB_state_18 : decode cMB_state 18 = .ok (.iload_n 2, 1) := by decide +kernel
theorem dMB_state_19 : decode cMB_state 19 = .ok (.tableswitch 88 0 5 #[37, 50, 58, 66, 71, 80], 37) := by decide +kernel
theorem dMB_state_56 : decode cMB_state 56 = .ok (.aload_n 3, 1) := by decide +kernel
theorem dMB_state_57 : decode cMB_state 57 = .ok (.getfield 114, 3) := by decide +kernel
theorem dMB_state_60 : decode cMB_state 60 = .ok (.ifCond .eq 7, 3) := by decide +kernel
theorem dMB_state_63 : decode cMB_state 63 = .ok (.iconst 1, 1) := by decide +kernel
theorem dMB_state_64 : decode cMB_state 64 = .ok (.goto 4, 3) := by decide +kernel
theorem dMB_state_67 : decode cMB_state 67 = .ok (.iconst 0, 1) := by decide +kernel
theorem dMB_state_68 : decode cMB_state 68 = .ok (.ireturn, 1) := by decide +kernel
theorem dMB_state_69 : decode cMB_state 69 = .ok (.aload_n 3, 1) := by decide +kernel
theorem dMB_state_70 : decode cMB_state 70 = .ok (.getfield 74, 3) := by decide +kernel
theorem dMB_state_73 : decode cMB_state 73 = .ok (.getfield 118, 3) := by decide +kernel
theorem dMB_state_76 : decode cMB_state 76 = .ok (.ireturn, 1) := by decide +kernel
theorem dMB_state_77 : decode cMB_state 77 = .ok (.aload_n 3, 1) := by decide +kernel
theorem dMB_state_78 : decode cMB_state 78 = .ok (.getfield 83, 3) := by decide +kernel
theorem dMB_state_81 : decode cMB_state 81 = .ok (.getfield 118, 3) := by decide +kernel
theorem dMB_state_84 : decode cMB_state 84 = .ok (.ireturn, 1) := by decide +kernel
theorem dMB_state_85 : decode cMB_state 85 = .ok (.aload_n 3, 1) := by decide +kernel
theorem dMB_state_86 : decode cMB_state 86 = .ok (.getfield 121, 3) := by decide +kernel
theorem dMB_state_89 : decode cMB_state 89 = .ok (.ireturn, 1) := by decide +kernel
theorem dMB_state_90 : decode cMB_state 90 = .ok (.aload_n 3, 1) := by decide +kernel
theorem dMB_state_91 : decode cMB_state 91 = .ok (.aload_n 0, 1) := by decide +kernel
theorem dMB_state_92 : decode cMB_state 92 = .ok (.getfield 89, 3) := by decide +kernel
theorem dMB_state_95 : decode cMB_state 95 = .ok (.invokevirtual 124, 3) := by decide +kernel
theorem dMB_state_98 : decode cMB_state 98 = .ok (.ireturn, 1) := by decide +kernel
theorem dMB_state_99 : decode cMB_state 99 = .ok (.aload_n 3, 1) := by decide +kernel
theorem dMB_state_100 : decode cMB_state 100 = .ok (.getfield 92, 3) := by decide +kernel
theorem dMB_state_103 : decode cMB_state 103 = .ok (.invokestatic 128, 3) := by decide +kernel
theorem dMB_state_106 : decode cMB_state 106 = .ok (.ireturn, 1) := by decide +kernel
theorem dMB_state_107 : decode cMB_state 107 = .ok (.ldc 34, 2) := by decide +kernel
theorem dMB_state_109 : decode cMB_state 109 = .ok (.ireturn, 1) := by decide +kernel
theorem dMB_permitted_0 : decode cMB_permitted 0 = .ok (.aload_n 0, 1) := by decide +kernel
theorem dMB_permitted_1 : decode cMB_permitted 1 = .ok (.iload_n 1, 1) := by decide +kernel
theorem dMB_permitted_2 : decode cMB_permitted 2 = .ok (.invokevirtual 64, 3) := by decide +kernel
theorem dMB_permitted_5 : decode cMB_permitted 5 = .ok (.ifCond .eq 6, 3) := by decide +kernel
theorem dMB_permitted_8 : decode cMB_permitted 8 = .ok (.ldc 34, 2) := by decide +kernel
theorem dMB_permitted_10 : decode cMB_permitted 10 = .ok (.ireturn, 1) := by decide +kernel
theorem dMB_permitted_11 : decode cMB_permitted 11 = .ok (.aload_n 0, 1) := by decide +kernel
theorem dMB_permitted_12 : decode cMB_permitted 12 = .ok (.getfield 25, 3) := by decide +kernel
theorem dMB_permitted_15 : decode cMB_permitted 15 = .ok (.iload_n 1, 1) := by decide +kernel
theorem dMB_permitted_16 : decode cMB_permitted 16 = .ok (.aaload, 1) := by decide +kernel
theorem dMB_permitted_17 : decode cMB_permitted 17 = .ok (.aload_n 0, 1) := by decide +kernel
theorem dMB_permitted_18 : decode cMB_permitted 18 = .ok (.getfield 12, 3) := by decide +kernel
theorem dMB_permitted_21 : decode cMB_permitted 21 = .ok (.invokevirtual 131, 3) := by decide +kernel
theorem dMB_permitted_24 : decode cMB_permitted 24 = .ok (.ireturn, 1) := by decide +kernel
theorem dMB_count_0 : decode cMB_count 0 = .ok (.iload_n 1, 1) := by decide +kernel
theorem dMB_count_1 : decode cMB_count 1 = .ok (.tableswitch 69 0 5 #[39, 44, 49, 54, 59, 64], 39) := by decide +kernel
theorem dMB_count_40 : decode cMB_count 40 = .ok (.aload_n 0, 1) := by decide +kernel
theorem dMB_count_41 : decode cMB_count 41 = .ok (.getfield 89, 3) := by decide +kernel
theorem dMB_count_44 : decode cMB_count 44 = .ok (.ireturn, 1) := by decide +kernel
theorem dMB_count_45 : decode cMB_count 45 = .ok (.aload_n 0, 1) := by decide +kernel
theorem dMB_count_46 : decode cMB_count 46 = .ok (.getfield 52, 3) := by decide +kernel
theorem dMB_count_49 : decode cMB_count 49 = .ok (.ireturn, 1) := by decide +kernel
theorem dMB_count_50 : decode cMB_count 50 = .ok (.aload_n 0, 1) := by decide +kernel
theorem dMB_count_51 : decode cMB_count 51 = .ok (.invokevirtual 135, 3) := by decide +kernel
theorem dMB_count_54 : decode cMB_count 54 = .ok (.ireturn, 1) := by decide +kernel
theorem dMB_count_55 : decode cMB_count 55 = .ok (.aload_n 0, 1) := by decide +kernel
theorem dMB_count_56 : decode cMB_count 56 = .ok (.invokevirtual 138, 3) := by decide +kernel
theorem dMB_count_59 : decode cMB_count 59 = .ok (.ireturn, 1) := by decide +kernel
theorem dMB_count_60 : decode cMB_count 60 = .ok (.aload_n 0, 1) := by decide +kernel
theorem dMB_count_61 : decode cMB_count 61 = .ok (.invokevirtual 140, 3) := by decide +kernel
theorem dMB_count_64 : decode cMB_count 64 = .ok (.ireturn, 1) := by decide +kernel
theorem dMB_count_65 : decode cMB_count 65 = .ok (.aload_n 0, 1) := by decide +kernel
theorem dMB_count_66 : decode cMB_count 66 = .ok (.invokevirtual 143, 3) := by decide +kernel
theorem dMB_count_69 : decode cMB_count 69 = .ok (.ireturn, 1) := by decide +kernel
theorem dMB_count_70 : decode cMB_count 70 = .ok (.ldc 34, 2) := by decide +kernel
theorem dMB_count_72 : decode cMB_count 72 = .ok (.ireturn, 1) := by decide +kernel
theorem dMB_trainsBeyondTheOneBefore_0 : decode cMB_trainsBeyondTheOneBefore 0 = .ok (.iconst 0, 1) := by decide +kernel
theorem dMB_trainsBeyondTheOneBefore_1 : decode cMB_trainsBeyondTheOneBefore 1 = .ok (.istore_n 1, 1) := by decide +kernel
theorem dMB_trainsBeyondTheOneBefore_2 : decode cMB_trainsBeyondTheOneBefore 2 = .ok (.iconst 1, 1) := by decide +kernel
theorem dMB_trainsBeyondTheOneBefore_3 : decode cMB_trainsBeyondTheOneBefore 3 = .ok (.istore_n 2, 1) := by decide +kernel
theorem dMB_trainsBeyondTheOneBefore_4 : decode cMB_trainsBeyondTheOneBefore 4 = .ok (.iload_n 2, 1) := by decide +kernel
theorem dMB_trainsBeyondTheOneBefore_5 : decode cMB_trainsBeyondTheOneBefore 5 = .ok (.aload_n 0, 1) := by decide +kernel
theorem dMB_trainsBeyondTheOneBefore_6 : decode cMB_trainsBeyondTheOneBefore 6 = .ok (.getfield 52, 3) := by decide +kernel
theorem dMB_trainsBeyondTheOneBefore_9 : decode cMB_trainsBeyondTheOneBefore 9 = .ok (.if_icmp .ge 35, 3) := by decide +kernel
theorem dMB_trainsBeyondTheOneBefore_12 : decode cMB_trainsBeyondTheOneBefore 12 = .ok (.aload_n 0, 1) := by decide +kernel
theorem dMB_trainsBeyondTheOneBefore_13 : decode cMB_trainsBeyondTheOneBefore 13 = .ok (.getfield 25, 3) := by decide +kernel
theorem dMB_trainsBeyondTheOneBefore_16 : decode cMB_trainsBeyondTheOneBefore 16 = .ok (.iload_n 2, 1) := by decide +kernel
theorem dMB_trainsBeyondTheOneBefore_17 : decode cMB_trainsBeyondTheOneBefore 17 = .ok (.aaload, 1) := by decide +kernel
theorem dMB_trainsBeyondTheOneBefore_18 : decode cMB_trainsBeyondTheOneBefore 18 = .ok (.getfield 92, 3) := by decide +kernel
theorem dMB_trainsBeyondTheOneBefore_21 : decode cMB_trainsBeyondTheOneBefore 21 = .ok (.aload_n 0, 1) := by decide +kernel
theorem dMB_trainsBeyondTheOneBefore_22 : decode cMB_trainsBeyondTheOneBefore 22 = .ok (.getfield 25, 3) := by decide +kernel
theorem dMB_trainsBeyondTheOneBefore_25 : decode cMB_trainsBeyondTheOneBefore 25 = .ok (.iload_n 2, 1) := by decide +kernel
theorem dMB_trainsBeyondTheOneBefore_26 : decode cMB_trainsBeyondTheOneBefore 26 = .ok (.iconst 1, 1) := by decide +kernel
theorem dMB_trainsBeyondTheOneBefore_27 : decode cMB_trainsBeyondTheOneBefore 27 = .ok (.isub, 1) := by decide +kernel
theorem dMB_trainsBeyondTheOneBefore_28 : decode cMB_trainsBeyondTheOneBefore 28 = .ok (.aaload, 1) := by decide +kernel
theorem dMB_trainsBeyondTheOneBefore_29 : decode cMB_trainsBeyondTheOneBefore 29 = .ok (.invokevirtual 56, 3) := by decide +kernel
theorem dMB_trainsBeyondTheOneBefore_32 : decode cMB_trainsBeyondTheOneBefore 32 = .ok (.if_icmp .le 6, 3) := by decide +kernel
theorem dMB_trainsBeyondTheOneBefore_35 : decode cMB_trainsBeyondTheOneBefore 35 = .ok (.iinc 1 1, 3) := by decide +kernel
theorem dMB_trainsBeyondTheOneBefore_38 : decode cMB_trainsBeyondTheOneBefore 38 = .ok (.iinc 2 1, 3) := by decide +kernel
theorem dMB_trainsBeyondTheOneBefore_41 : decode cMB_trainsBeyondTheOneBefore 41 = .ok (.goto (-37), 3) := by decide +kernel
theorem dMB_trainsBeyondTheOneBefore_44 : decode cMB_trainsBeyondTheOneBefore 44 = .ok (.iload_n 1, 1) := by decide +kernel
theorem dMB_trainsBeyondTheOneBefore_45 : decode cMB_trainsBeyondTheOneBefore 45 = .ok (.ireturn, 1) := by decide +kernel
theorem dMB_messagesOnTheWay_0 : decode cMB_messagesOnTheWay 0 = .ok (.iconst 0, 1) := by decide +kernel
theorem dMB_messagesOnTheWay_1 : decode cMB_messagesOnTheWay 1 = .ok (.istore_n 1, 1) := by decide +kernel
theorem dMB_messagesOnTheWay_2 : decode cMB_messagesOnTheWay 2 = .ok (.iconst 0, 1) := by decide +kernel
theorem dMB_messagesOnTheWay_3 : decode cMB_messagesOnTheWay 3 = .ok (.istore_n 2, 1) := by decide +kernel
theorem dMB_messagesOnTheWay_4 : decode cMB_messagesOnTheWay 4 = .ok (.iload_n 2, 1) := by decide +kernel
theorem dMB_messagesOnTheWay_5 : decode cMB_messagesOnTheWay 5 = .ok (.aload_n 0, 1) := by decide +kernel
theorem dMB_messagesOnTheWay_6 : decode cMB_messagesOnTheWay 6 = .ok (.getfield 52, 3) := by decide +kernel
theorem dMB_messagesOnTheWay_9 : decode cMB_messagesOnTheWay 9 = .ok (.if_icmp .ge 25, 3) := by decide +kernel
theorem dMB_messagesOnTheWay_12 : decode cMB_messagesOnTheWay 12 = .ok (.iload_n 1, 1) := by decide +kernel
theorem dMB_messagesOnTheWay_13 : decode cMB_messagesOnTheWay 13 = .ok (.aload_n 0, 1) := by decide +kernel
theorem dMB_messagesOnTheWay_14 : decode cMB_messagesOnTheWay 14 = .ok (.getfield 25, 3) := by decide +kernel
theorem dMB_messagesOnTheWay_17 : decode cMB_messagesOnTheWay 17 = .ok (.iload_n 2, 1) := by decide +kernel
theorem dMB_messagesOnTheWay_18 : decode cMB_messagesOnTheWay 18 = .ok (.aaload, 1) := by decide +kernel
theorem dMB_messagesOnTheWay_19 : decode cMB_messagesOnTheWay 19 = .ok (.aload_n 0, 1) := by decide +kernel
theorem dMB_messagesOnTheWay_20 : decode cMB_messagesOnTheWay 20 = .ok (.getfield 89, 3) := by decide +kernel
theorem dMB_messagesOnTheWay_23 : decode cMB_messagesOnTheWay 23 = .ok (.invokevirtual 124, 3) := by decide +kernel
theorem dMB_messagesOnTheWay_26 : decode cMB_messagesOnTheWay 26 = .ok (.iadd, 1) := by decide +kernel
theorem dMB_messagesOnTheWay_27 : decode cMB_messagesOnTheWay 27 = .ok (.istore_n 1, 1) := by decide +kernel
theorem dMB_messagesOnTheWay_28 : decode cMB_messagesOnTheWay 28 = .ok (.iinc 2 1, 3) := by decide +kernel
theorem dMB_messagesOnTheWay_31 : decode cMB_messagesOnTheWay 31 = .ok (.goto (-27), 3) := by decide +kernel
theorem dMB_messagesOnTheWay_34 : decode cMB_messagesOnTheWay 34 = .ok (.iload_n 1, 1) := by decide +kernel
theorem dMB_messagesOnTheWay_35 : decode cMB_messagesOnTheWay 35 = .ok (.ireturn, 1) := by decide +kernel
theorem dMB_messagesLost_0 : decode cMB_messagesLost 0 = .ok (.iconst 0, 1) := by decide +kernel
theorem dMB_messagesLost_1 : decode cMB_messagesLost 1 = .ok (.istore_n 1, 1) := by decide +kernel
theorem dMB_messagesLost_2 : decode cMB_messagesLost 2 = .ok (.iconst 0, 1) := by decide +kernel
theorem dMB_messagesLost_3 : decode cMB_messagesLost 3 = .ok (.istore_n 2, 1) := by decide +kernel
theorem dMB_messagesLost_4 : decode cMB_messagesLost 4 = .ok (.iload_n 2, 1) := by decide +kernel
theorem dMB_messagesLost_5 : decode cMB_messagesLost 5 = .ok (.aload_n 0, 1) := by decide +kernel
theorem dMB_messagesLost_6 : decode cMB_messagesLost 6 = .ok (.getfield 52, 3) := by decide +kernel
theorem dMB_messagesLost_9 : decode cMB_messagesLost 9 = .ok (.if_icmp .ge 37, 3) := by decide +kernel
theorem dMB_messagesLost_12 : decode cMB_messagesLost 12 = .ok (.iload_n 1, 1) := by decide +kernel
theorem dMB_messagesLost_13 : decode cMB_messagesLost 13 = .ok (.aload_n 0, 1) := by decide +kernel
theorem dMB_messagesLost_14 : decode cMB_messagesLost 14 = .ok (.getfield 25, 3) := by decide +kernel
theorem dMB_messagesLost_17 : decode cMB_messagesLost 17 = .ok (.iload_n 2, 1) := by decide +kernel
theorem dMB_messagesLost_18 : decode cMB_messagesLost 18 = .ok (.aaload, 1) := by decide +kernel
theorem dMB_messagesLost_19 : decode cMB_messagesLost 19 = .ok (.getfield 74, 3) := by decide +kernel
theorem dMB_messagesLost_22 : decode cMB_messagesLost 22 = .ok (.getfield 180, 3) := by decide +kernel
theorem dMB_messagesLost_25 : decode cMB_messagesLost 25 = .ok (.aload_n 0, 1) := by decide +kernel
theorem dMB_messagesLost_26 : decode cMB_messagesLost 26 = .ok (.getfield 25, 3) := by decide +kernel
theorem dMB_messagesLost_29 : decode cMB_messagesLost 29 = .ok (.iload_n 2, 1) := by decide +kernel
theorem dMB_messagesLost_30 : decode cMB_messagesLost 30 = .ok (.aaload, 1) := by decide +kernel
theorem dMB_messagesLost_31 : decode cMB_messagesLost 31 = .ok (.getfield 83, 3) := by decide +kernel
theorem dMB_messagesLost_34 : decode cMB_messagesLost 34 = .ok (.getfield 180, 3) := by decide +kernel
theorem dMB_messagesLost_37 : decode cMB_messagesLost 37 = .ok (.iadd, 1) := by decide +kernel
theorem dMB_messagesLost_38 : decode cMB_messagesLost 38 = .ok (.iadd, 1) := by decide +kernel
theorem dMB_messagesLost_39 : decode cMB_messagesLost 39 = .ok (.istore_n 1, 1) := by decide +kernel
theorem dMB_messagesLost_40 : decode cMB_messagesLost 40 = .ok (.iinc 2 1, 3) := by decide +kernel
theorem dMB_messagesLost_43 : decode cMB_messagesLost 43 = .ok (.goto (-39), 3) := by decide +kernel
theorem dMB_messagesLost_46 : decode cMB_messagesLost 46 = .ok (.iload_n 1, 1) := by decide +kernel
theorem dMB_messagesLost_47 : decode cMB_messagesLost 47 = .ok (.ireturn, 1) := by decide +kernel
theorem dMB_messagesNotTaken_0 : decode cMB_messagesNotTaken 0 = .ok (.iconst 0, 1) := by decide +kernel
theorem dMB_messagesNotTaken_1 : decode cMB_messagesNotTaken 1 = .ok (.istore_n 1, 1) := by decide +kernel
theorem dMB_messagesNotTaken_2 : decode cMB_messagesNotTaken 2 = .ok (.iconst 0, 1) := by decide +kernel
theorem dMB_messagesNotTaken_3 : decode cMB_messagesNotTaken 3 = .ok (.istore_n 2, 1) := by decide +kernel
theorem dMB_messagesNotTaken_4 : decode cMB_messagesNotTaken 4 = .ok (.iload_n 2, 1) := by decide +kernel
theorem dMB_messagesNotTaken_5 : decode cMB_messagesNotTaken 5 = .ok (.aload_n 0, 1) := by decide +kernel
theorem dMB_messagesNotTaken_6 : decode cMB_messagesNotTaken 6 = .ok (.getfield 52, 3) := by decide +kernel
theorem dMB_messagesNotTaken_9 : decode cMB_messagesNotTaken 9 = .ok (.if_icmp .ge 37, 3) := by decide +kernel
theorem dMB_messagesNotTaken_12 : decode cMB_messagesNotTaken 12 = .ok (.iload_n 1, 1) := by decide +kernel
theorem dMB_messagesNotTaken_13 : decode cMB_messagesNotTaken 13 = .ok (.aload_n 0, 1) := by decide +kernel
theorem dMB_messagesNotTaken_14 : decode cMB_messagesNotTaken 14 = .ok (.getfield 25, 3) := by decide +kernel
theorem dMB_messagesNotTaken_17 : decode cMB_messagesNotTaken 17 = .ok (.iload_n 2, 1) := by decide +kernel
theorem dMB_messagesNotTaken_18 : decode cMB_messagesNotTaken 18 = .ok (.aaload, 1) := by decide +kernel
theorem dMB_messagesNotTaken_19 : decode cMB_messagesNotTaken 19 = .ok (.getfield 74, 3) := by decide +kernel
theorem dMB_messagesNotTaken_22 : decode cMB_messagesNotTaken 22 = .ok (.getfield 183, 3) := by decide +kernel
theorem dMB_messagesNotTaken_25 : decode cMB_messagesNotTaken 25 = .ok (.aload_n 0, 1) := by decide +kernel
theorem dMB_messagesNotTaken_26 : decode cMB_messagesNotTaken 26 = .ok (.getfield 25, 3) := by decide +kernel
theorem dMB_messagesNotTaken_29 : decode cMB_messagesNotTaken 29 = .ok (.iload_n 2, 1) := by decide +kernel
theorem dMB_messagesNotTaken_30 : decode cMB_messagesNotTaken 30 = .ok (.aaload, 1) := by decide +kernel
theorem dMB_messagesNotTaken_31 : decode cMB_messagesNotTaken 31 = .ok (.getfield 83, 3) := by decide +kernel
theorem dMB_messagesNotTaken_34 : decode cMB_messagesNotTaken 34 = .ok (.getfield 183, 3) := by decide +kernel
theorem dMB_messagesNotTaken_37 : decode cMB_messagesNotTaken 37 = .ok (.iadd, 1) := by decide +kernel
theorem dMB_messagesNotTaken_38 : decode cMB_messagesNotTaken 38 = .ok (.iadd, 1) := by decide +kernel
theorem dMB_messagesNotTaken_39 : decode cMB_messagesNotTaken 39 = .ok (.istore_n 1, 1) := by decide +kernel
theorem dMB_messagesNotTaken_40 : decode cMB_messagesNotTaken 40 = .ok (.iinc 2 1, 3) := by decide +kernel
theorem dMB_messagesNotTaken_43 : decode cMB_messagesNotTaken 43 = .ok (.goto (-39), 3) := by decide +kernel
theorem dMB_messagesNotTaken_46 : decode cMB_messagesNotTaken 46 = .ok (.iload_n 1, 1) := by decide +kernel
theorem dMB_messagesNotTaken_47 : decode cMB_messagesNotTaken 47 = .ok (.ireturn, 1) := by decide +kernel
