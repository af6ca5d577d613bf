theorem dMa_floorMod_0 : decode cMa_floorMod 0 = .ok (.iload_n 0, 1) := by decide +kernel
theorem dMa_floorMod_1 : decode cMa_floorMod 1 = .ok (.iload_n 1, 1) := by decide +kernel
theorem dMa_floorMod_2 : decode cMa_floorMod 2 = .ok (.irem, 1) := by decide +kernel
theorem dMa_floorMod_3 : decode cMa_floorMod 3 = .ok (.istore_n 2, 1) := by decide +kernel
theorem dMa_floorMod_4 : decode cMa_floorMod 4 = .ok (.iload_n 0, 1) := by decide +kernel
theorem dMa_floorMod_5 : decode cMa_floorMod 5 = .ok (.iload_n 1, 1) := by decide +kernel
theorem dMa_floorMod_6 : decode cMa_floorMod 6 = .ok (.ixor, 1) := by decide +kernel
theorem dMa_floorMod_7 : decode cMa_floorMod 7 = .ok (.ifCond .ge 11, 3) := by decide +kernel
theorem dMa_floorMod_10 : decode cMa_floorMod 10 = .ok (.iload_n 2, 1) := by decide +kernel
theorem dMa_floorMod_11 : decode cMa_floorMod 11 = .ok (.ifCond .eq 7, 3) := by decide +kernel
theorem dMa_floorMod_14 : decode cMa_floorMod 14 = .ok (.iload_n 2, 1) := by decide +kernel
theorem dMa_floorMod_15 : decode cMa_floorMod 15 = .ok (.iload_n 1, 1) := by decide +kernel
theorem dMa_floorMod_16 : decode cMa_floorMod 16 = .ok (.iadd, 1) := by decide +kernel
theorem dMa_floorMod_17 : decode cMa_floorMod 17 = .ok (.ireturn, 1) := by decide +kernel
theorem dMa_floorMod_18 : decode cMa_floorMod 18 = .ok (.iload_n 2, 1) := by decide +kernel
theorem dMa_floorMod_19 : decode cMa_floorMod 19 = .ok (.ireturn, 1) := by decide +kernel
