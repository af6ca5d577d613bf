theorem dCh_init_0 : decode cCh_init 0 = .ok (.aload_n 0, 1) := by decide +kernel
theorem dCh_init_1 : decode cCh_init 1 = .ok (.invokespecial 3, 3) := by decide +kernel
theorem dCh_init_4 : decode cCh_init 4 = .ok (.aload_n 0, 1) := by decide +kernel
theorem dCh_init_5 : decode cCh_init 5 = .ok (.iconst 5, 1) := by decide +kernel
theorem dCh_init_6 : decode cCh_init 6 = .ok (.newarray .int, 2) := by decide +kernel
theorem dCh_init_8 : decode cCh_init 8 = .ok (.putfield 11, 3) := by decide +kernel
theorem dCh_init_11 : decode cCh_init 11 = .ok (.aload_n 0, 1) := by decide +kernel
theorem dCh_init_12 : decode cCh_init 12 = .ok (.iconst 5, 1) := by decide +kernel
theorem dCh_init_13 : decode cCh_init 13 = .ok (.newarray .int, 2) := by decide +kernel
theorem dCh_init_15 : decode cCh_init 15 = .ok (.putfield 15, 3) := by decide +kernel
theorem dCh_init_18 : decode cCh_init 18 = .ok (.aload_n 0, 1) := by decide +kernel
theorem dCh_init_19 : decode cCh_init 19 = .ok (.iconst 5, 1) := by decide +kernel
theorem dCh_init_20 : decode cCh_init 20 = .ok (.newarray .int, 2) := by decide +kernel
theorem dCh_init_22 : decode cCh_init 22 = .ok (.putfield 18, 3) := by decide +kernel
theorem dCh_init_25 : decode cCh_init 25 = .ok (.aload_n 0, 1) := by decide +kernel
theorem dCh_init_26 : decode cCh_init 26 = .ok (.iconst 5, 1) := by decide +kernel
theorem dCh_init_27 : decode cCh_init 27 = .ok (.newarray .int, 2) := by decide +kernel
theorem dCh_init_29 : decode cCh_init 29 = .ok (.putfield 21, 3) := by decide +kernel
theorem dCh_init_32 : decode cCh_init 32 = .ok (.aload_n 0, 1) := by decide +kernel
theorem dCh_init_33 : decode cCh_init 33 = .ok (.iconst 1, 1) := by decide +kernel
theorem dCh_init_34 : decode cCh_init 34 = .ok (.putfield 24, 3) := by decide +kernel
theorem dCh_init_37 : decode cCh_init 37 = .ok (.return_, 1) := by decide +kernel
theorem dCh_send_0 : decode cCh_send 0 = .ok (.aload_n 0, 1) := by decide +kernel
theorem dCh_send_1 : decode cCh_send 1 = .ok (.getfield 24, 3) := by decide +kernel
theorem dCh_send_4 : decode cCh_send 4 = .ok (.ifCond .ne 14, 3) := by decide +kernel
theorem dCh_send_7 : decode cCh_send 7 = .ok (.aload_n 0, 1) := by decide +kernel
theorem dCh_send_8 : decode cCh_send 8 = .ok (.dup, 1) := by decide +kernel
theorem dCh_send_9 : decode cCh_send 9 = .ok (.getfield 31, 3) := by decide +kernel
theorem dCh_send_12 : decode cCh_send 12 = .ok (.iconst 1, 1) := by decide +kernel
theorem dCh_send_13 : decode cCh_send 13 = .ok (.iadd, 1) := by decide +kernel
theorem dCh_send_14 : decode cCh_send 14 = .ok (.putfield 31, 3) := by decide +kernel
theorem dCh_send_17 : decode cCh_send 17 = .ok (.return_, 1) := by decide +kernel
theorem dCh_send_18 : decode cCh_send 18 = .ok (.iload_n 1, 1) := by decide +kernel
theorem dCh_send_19 : decode cCh_send 19 = .ok (.iconst 5, 1) := by decide +kernel
theorem dCh_send_20 : decode cCh_send 20 = .ok (.invokestatic 34, 3) := by decide +kernel
theorem dCh_send_23 : decode cCh_send 23 = .ok (.istore 4, 2) := by decide +kernel
theorem dCh_send_25 : decode cCh_send 25 = .ok (.aload_n 0, 1) := by decide +kernel
theorem dCh_send_26 : decode cCh_send 26 = .ok (.getfield 11, 3) := by decide +kernel
theorem dCh_send_29 : decode cCh_send 29 = .ok (.iload 4, 2) := by decide +kernel
theorem dCh_send_31 : decode cCh_send 31 = .ok (.iload_n 1, 1) := by decide +kernel
theorem dCh_send_32 : decode cCh_send 32 = .ok (.iastore, 1) := by decide +kernel
theorem dCh_send_33 : decode cCh_send 33 = .ok (.aload_n 0, 1) := by decide +kernel
theorem dCh_send_34 : decode cCh_send 34 = .ok (.getfield 15, 3) := by decide +kernel
theorem dCh_send_37 : decode cCh_send 37 = .ok (.iload 4, 2) := by decide +kernel
theorem dCh_send_39 : decode cCh_send 39 = .ok (.iload_n 1, 1) := by decide +kernel
theorem dCh_send_40 : decode cCh_send 40 = .ok (.aload_n 0, 1) := by decide +kernel
theorem dCh_send_41 : decode cCh_send 41 = .ok (.getfield 24, 3) := by decide +kernel
theorem dCh_send_44 : decode cCh_send 44 = .ok (.iadd, 1) := by decide +kernel
theorem dCh_send_45 : decode cCh_send 45 = .ok (.iconst 1, 1) := by decide +kernel
theorem dCh_send_46 : decode cCh_send 46 = .ok (.isub, 1) := by decide +kernel
theorem dCh_send_47 : decode cCh_send 47 = .ok (.iastore, 1) := by decide +kernel
theorem dCh_send_48 : decode cCh_send 48 = .ok (.aload_n 0, 1) := by decide +kernel
theorem dCh_send_49 : decode cCh_send 49 = .ok (.getfield 18, 3) := by decide +kernel
theorem dCh_send_52 : decode cCh_send 52 = .ok (.iload 4, 2) := by decide +kernel
theorem dCh_send_54 : decode cCh_send 54 = .ok (.iload_n 2, 1) := by decide +kernel
theorem dCh_send_55 : decode cCh_send 55 = .ok (.iastore, 1) := by decide +kernel
theorem dCh_send_56 : decode cCh_send 56 = .ok (.aload_n 0, 1) := by decide +kernel
theorem dCh_send_57 : decode cCh_send 57 = .ok (.getfield 21, 3) := by decide +kernel
theorem dCh_send_60 : decode cCh_send 60 = .ok (.iload 4, 2) := by decide +kernel
theorem dCh_send_62 : decode cCh_send 62 = .ok (.iload_n 3, 1) := by decide +kernel
theorem dCh_send_63 : decode cCh_send 63 = .ok (.iastore, 1) := by decide +kernel
theorem dCh_send_64 : decode cCh_send 64 = .ok (.return_, 1) := by decide +kernel
theorem dCh_receive_0 : decode cCh_receive 0 = .ok (.iconst 1, 1) := by decide +kernel
theorem dCh_receive_1 : decode cCh_receive 1 = .ok (.istore_n 2, 1) := by decide +kernel
theorem dCh_receive_2 : decode cCh_receive 2 = .ok (.iload_n 2, 1) := by decide +kernel
theorem dCh_receive_3 : decode cCh_receive 3 = .ok (.iconst 5, 1) := by decide +kernel
theorem dCh_receive_4 : decode cCh_receive 4 = .ok (.if_icmp .gt 32, 3) := by decide +kernel
theorem dCh_receive_7 : decode cCh_receive 7 = .ok (.iload_n 1, 1) := by decide +kernel
theorem dCh_receive_8 : decode cCh_receive 8 = .ok (.iload_n 2, 1) := by decide +kernel
theorem dCh_receive_9 : decode cCh_receive 9 = .ok (.iadd, 1) := by decide +kernel
theorem dCh_receive_10 : decode cCh_receive 10 = .ok (.iconst 5, 1) := by decide +kernel
theorem dCh_receive_11 : decode cCh_receive 11 = .ok (.invokestatic 34, 3) := by decide +kernel
theorem dCh_receive_14 : decode cCh_receive 14 = .ok (.istore_n 3, 1) := by decide +kernel
theorem dCh_receive_15 : decode cCh_receive 15 = .ok (.aload_n 0, 1) := by decide +kernel
theorem dCh_receive_16 : decode cCh_receive 16 = .ok (.getfield 15, 3) := by decide +kernel
theorem dCh_receive_19 : decode cCh_receive 19 = .ok (.iload_n 3, 1) := by decide +kernel
theorem dCh_receive_20 : decode cCh_receive 20 = .ok (.iaload, 1) := by decide +kernel
theorem dCh_receive_21 : decode cCh_receive 21 = .ok (.iload_n 1, 1) := by decide +kernel
theorem dCh_receive_22 : decode cCh_receive 22 = .ok (.if_icmp .ne 8, 3) := by decide +kernel
theorem dCh_receive_25 : decode cCh_receive 25 = .ok (.aload_n 0, 1) := by decide +kernel
theorem dCh_receive_26 : decode cCh_receive 26 = .ok (.iload_n 3, 1) := by decide +kernel
theorem dCh_receive_27 : decode cCh_receive 27 = .ok (.invokevirtual 40, 3) := by decide +kernel
theorem dCh_receive_30 : decode cCh_receive 30 = .ok (.iinc 2 1, 3) := by decide +kernel
theorem dCh_receive_33 : decode cCh_receive 33 = .ok (.goto (-31), 3) := by decide +kernel
theorem dCh_receive_36 : decode cCh_receive 36 = .ok (.return_, 1) := by decide +kernel
theorem dCh_takeIfNewer_0 : decode cCh_takeIfNewer 0 = .ok (.aload_n 0, 1) := by decide +kernel
theorem dCh_takeIfNewer_1 : decode cCh_takeIfNewer 1 = .ok (.getfield 11, 3) := by decide +kernel
theorem dCh_takeIfNewer_4 : decode cCh_takeIfNewer 4 = .ok (.iload_n 1, 1) := by decide +kernel
theorem dCh_takeIfNewer_5 : decode cCh_takeIfNewer 5 = .ok (.iaload, 1) := by decide +kernel
theorem dCh_takeIfNewer_6 : decode cCh_takeIfNewer 6 = .ok (.aload_n 0, 1) := by decide +kernel
theorem dCh_takeIfNewer_7 : decode cCh_takeIfNewer 7 = .ok (.getfield 28, 3) := by decide +kernel
theorem dCh_takeIfNewer_10 : decode cCh_takeIfNewer 10 = .ok (.if_icmp .gt 14, 3) := by decide +kernel
theorem dCh_takeIfNewer_13 : decode cCh_takeIfNewer 13 = .ok (.aload_n 0, 1) := by decide +kernel
theorem dCh_takeIfNewer_14 : decode cCh_takeIfNewer 14 = .ok (.dup, 1) := by decide +kernel
theorem dCh_takeIfNewer_15 : decode cCh_takeIfNewer 15 = .ok (.getfield 44, 3) := by decide +kernel
theorem dCh_takeIfNewer_18 : decode cCh_takeIfNewer 18 = .ok (.iconst 1, 1) := by decide +kernel
theorem dCh_takeIfNewer_19 : decode cCh_takeIfNewer 19 = .ok (.iadd, 1) := by decide +kernel
theorem dCh_takeIfNewer_20 : decode cCh_takeIfNewer 20 = .ok (.putfield 44, 3) := by decide +kernel
theorem dCh_takeIfNewer_23 : decode cCh_takeIfNewer 23 = .ok (.return_, 1) := by decide +kernel
theorem dCh_takeIfNewer_24 : decode cCh_takeIfNewer 24 = .ok (.aload_n 0, 1) := by decide +kernel
theorem dCh_takeIfNewer_25 : decode cCh_takeIfNewer 25 = .ok (.aload_n 0, 1) := by decide +kernel
theorem dCh_takeIfNewer_26 : decode cCh_takeIfNewer 26 = .ok (.getfield 11, 3) := by decide +kernel
theorem dCh_takeIfNewer_29 : decode cCh_takeIfNewer 29 = .ok (.iload_n 1, 1) := by decide +kernel
theorem dCh_takeIfNewer_30 : decode cCh_takeIfNewer 30 = .ok (.iaload, 1) := by decide +kernel
theorem dCh_takeIfNewer_31 : decode cCh_takeIfNewer 31 = .ok (.putfield 28, 3) := by decide +kernel
theorem dCh_takeIfNewer_34 : decode cCh_takeIfNewer 34 = .ok (.aload_n 0, 1) := by decide +kernel
theorem dCh_takeIfNewer_35 : decode cCh_takeIfNewer 35 = .ok (.aload_n 0, 1) := by decide +kernel
theorem dCh_takeIfNewer_36 : decode cCh_takeIfNewer 36 = .ok (.getfield 18, 3) := by decide +kernel
theorem dCh_takeIfNewer_39 : decode cCh_takeIfNewer 39 = .ok (.iload_n 1, 1) := by decide +kernel
theorem dCh_takeIfNewer_40 : decode cCh_takeIfNewer 40 = .ok (.iaload, 1) := by decide +kernel
theorem dCh_takeIfNewer_41 : decode cCh_takeIfNewer 41 = .ok (.putfield 47, 3) := by decide +kernel
theorem dCh_takeIfNewer_44 : decode cCh_takeIfNewer 44 = .ok (.aload_n 0, 1) := by decide +kernel
theorem dCh_takeIfNewer_45 : decode cCh_takeIfNewer 45 = .ok (.aload_n 0, 1) := by decide +kernel
theorem dCh_takeIfNewer_46 : decode cCh_takeIfNewer 46 = .ok (.getfield 21, 3) := by decide +kernel
theorem dCh_takeIfNewer_49 : decode cCh_takeIfNewer 49 = .ok (.iload_n 1, 1) := by decide +kernel
theorem dCh_takeIfNewer_50 : decode cCh_takeIfNewer 50 = .ok (.iaload, 1) := by decide +kernel
theorem dCh_takeIfNewer_51 : decode cCh_takeIfNewer 51 = .ok (.putfield 50, 3) := by decide +kernel
theorem dCh_takeIfNewer_54 : decode cCh_takeIfNewer 54 = .ok (.return_, 1) := by decide +kernel
theorem dCh_wasTaken_0 : decode cCh_wasTaken 0 = .ok (.aload_n 0, 1) := by decide +kernel
theorem dCh_wasTaken_1 : decode cCh_wasTaken 1 = .ok (.getfield 28, 3) := by decide +kernel
theorem dCh_wasTaken_4 : decode cCh_wasTaken 4 = .ok (.ifCond .le 7, 3) := by decide +kernel
theorem dCh_wasTaken_7 : decode cCh_wasTaken 7 = .ok (.iconst 1, 1) := by decide +kernel
theorem dCh_wasTaken_8 : decode cCh_wasTaken 8 = .ok (.goto 4, 3) := by decide +kernel
theorem dCh_wasTaken_11 : decode cCh_wasTaken 11 = .ok (.iconst 0, 1) := by decide +kernel
theorem dCh_wasTaken_12 : decode cCh_wasTaken 12 = .ok (.ireturn, 1) := by decide +kernel
theorem dCh_onTheWay_0 : decode cCh_onTheWay 0 = .ok (.iconst 0, 1) := by decide +kernel
theorem dCh_onTheWay_1 : decode cCh_onTheWay 1 = .ok (.istore_n 2, 1) := by decide +kernel
theorem dCh_onTheWay_2 : decode cCh_onTheWay 2 = .ok (.iconst 0, 1) := by decide +kernel
theorem dCh_onTheWay_3 : decode cCh_onTheWay 3 = .ok (.istore_n 3, 1) := by decide +kernel
theorem dCh_onTheWay_4 : decode cCh_onTheWay 4 = .ok (.iload_n 3, 1) := by decide +kernel
theorem dCh_onTheWay_5 : decode cCh_onTheWay 5 = .ok (.iconst 5, 1) := by decide +kernel
theorem dCh_onTheWay_6 : decode cCh_onTheWay 6 = .ok (.if_icmp .ge 22, 3) := by decide +kernel
theorem dCh_onTheWay_9 : decode cCh_onTheWay 9 = .ok (.aload_n 0, 1) := by decide +kernel
theorem dCh_onTheWay_10 : decode cCh_onTheWay 10 = .ok (.getfield 15, 3) := by decide +kernel
theorem dCh_onTheWay_13 : decode cCh_onTheWay 13 = .ok (.iload_n 3, 1) := by decide +kernel
theorem dCh_onTheWay_14 : decode cCh_onTheWay 14 = .ok (.iaload, 1) := by decide +kernel
theorem dCh_onTheWay_15 : decode cCh_onTheWay 15 = .ok (.iload_n 1, 1) := by decide +kernel
theorem dCh_onTheWay_16 : decode cCh_onTheWay 16 = .ok (.if_icmp .le 6, 3) := by decide +kernel
theorem dCh_onTheWay_19 : decode cCh_onTheWay 19 = .ok (.iinc 2 1, 3) := by decide +kernel
theorem dCh_onTheWay_22 : decode cCh_onTheWay 22 = .ok (.iinc 3 1, 3) := by decide +kernel
theorem dCh_onTheWay_25 : decode cCh_onTheWay 25 = .ok (.goto (-21), 3) := by decide +kernel
theorem dCh_onTheWay_28 : decode cCh_onTheWay 28 = .ok (.iload_n 2, 1) := by decide +kernel
theorem dCh_onTheWay_29 : decode cCh_onTheWay 29 = .ok (.ireturn, 1) := by decide +kernel
