theorem dX5_init_0 : decode cX5_init 0 = .ok (.aload_n 0, 1) := by decide +kernel
theorem dX5_init_1 : decode cX5_init 1 = .ok (.invokespecial 3, 3) := by decide +kernel
theorem dX5_init_4 : decode cX5_init 4 = .ok (.aload_n 0, 1) := by decide +kernel
theorem dX5_init_5 : decode cX5_init 5 = .ok (.new 9, 3) := by decide +kernel
theorem dX5_init_8 : decode cX5_init 8 = .ok (.dup, 1) := by decide +kernel
theorem dX5_init_9 : decode cX5_init 9 = .ok (.bipush 14, 2) := by decide +kernel
theorem dX5_init_11 : decode cX5_init 11 = .ok (.invokespecial 11, 3) := by decide +kernel
theorem dX5_init_14 : decode cX5_init 14 = .ok (.putfield 14, 3) := by decide +kernel
theorem dX5_init_17 : decode cX5_init 17 = .ok (.aload_n 0, 1) := by decide +kernel
theorem dX5_init_18 : decode cX5_init 18 = .ok (.bipush 14, 2) := by decide +kernel
theorem dX5_init_20 : decode cX5_init 20 = .ok (.newarray .int, 2) := by decide +kernel
theorem dX5_init_22 : decode cX5_init 22 = .ok (.putfield 20, 3) := by decide +kernel
theorem dX5_init_25 : decode cX5_init 25 = .ok (.aload_n 0, 1) := by decide +kernel
theorem dX5_init_26 : decode cX5_init 26 = .ok (.iconst 1, 1) := by decide +kernel
theorem dX5_init_27 : decode cX5_init 27 = .ok (.putfield 24, 3) := by decide +kernel
theorem dX5_init_30 : decode cX5_init 30 = .ok (.aload_n 0, 1) := by decide +kernel
theorem dX5_init_31 : decode cX5_init 31 = .ok (.iload_n 1, 1) := by decide +kernel
theorem dX5_init_32 : decode cX5_init 32 = .ok (.putfield 28, 3) := by decide +kernel
theorem dX5_init_35 : decode cX5_init 35 = .ok (.aload_n 0, 1) := by decide +kernel
theorem dX5_init_36 : decode cX5_init 36 = .ok (.iload_n 2, 1) := by decide +kernel
theorem dX5_init_37 : decode cX5_init 37 = .ok (.putfield 31, 3) := by decide +kernel
theorem dX5_init_40 : decode cX5_init 40 = .ok (.return_, 1) := by decide +kernel
theorem dX5_allBroughtBy_0 : decode cX5_allBroughtBy 0 = .ok (.iconst 0, 1) := by decide +kernel
theorem dX5_allBroughtBy_1 : decode cX5_allBroughtBy 1 = .ok (.istore_n 2, 1) := by decide +kernel
theorem dX5_allBroughtBy_2 : decode cX5_allBroughtBy 2 = .ok (.iload_n 2, 1) := by decide +kernel
theorem dX5_allBroughtBy_3 : decode cX5_allBroughtBy 3 = .ok (.aload_n 0, 1) := by decide +kernel
theorem dX5_allBroughtBy_4 : decode cX5_allBroughtBy 4 = .ok (.getfield 14, 3) := by decide +kernel
theorem dX5_allBroughtBy_7 : decode cX5_allBroughtBy 7 = .ok (.invokevirtual 34, 3) := by decide +kernel
theorem dX5_allBroughtBy_10 : decode cX5_allBroughtBy 10 = .ok (.if_icmp .ge 15, 3) := by decide +kernel
theorem dX5_allBroughtBy_13 : decode cX5_allBroughtBy 13 = .ok (.aload_n 0, 1) := by decide +kernel
theorem dX5_allBroughtBy_14 : decode cX5_allBroughtBy 14 = .ok (.iload_n 2, 1) := by decide +kernel
theorem dX5_allBroughtBy_15 : decode cX5_allBroughtBy 15 = .ok (.iload_n 1, 1) := by decide +kernel
theorem dX5_allBroughtBy_16 : decode cX5_allBroughtBy 16 = .ok (.invokevirtual 38, 3) := by decide +kernel
theorem dX5_allBroughtBy_19 : decode cX5_allBroughtBy 19 = .ok (.iinc 2 1, 3) := by decide +kernel
theorem dX5_allBroughtBy_22 : decode cX5_allBroughtBy 22 = .ok (.goto (-20), 3) := by decide +kernel
theorem dX5_allBroughtBy_25 : decode cX5_allBroughtBy 25 = .ok (.return_, 1) := by decide +kernel
theorem dX5_setBringer_0 : decode cX5_setBringer 0 = .ok (.iload_n 1, 1) := by decide +kernel
theorem dX5_setBringer_1 : decode cX5_setBringer 1 = .ok (.ifCond .lt 19, 3) := by decide +kernel
theorem dX5_setBringer_4 : decode cX5_setBringer 4 = .ok (.iload_n 1, 1) := by decide +kernel
theorem dX5_setBringer_5 : decode cX5_setBringer 5 = .ok (.aload_n 0, 1) := by decide +kernel
theorem dX5_setBringer_6 : decode cX5_setBringer 6 = .ok (.getfield 20, 3) := by decide +kernel
theorem dX5_setBringer_9 : decode cX5_setBringer 9 = .ok (.arraylength, 1) := by decide +kernel
theorem dX5_setBringer_10 : decode cX5_setBringer 10 = .ok (.if_icmp .ge 10, 3) := by decide +kernel
theorem dX5_setBringer_13 : decode cX5_setBringer 13 = .ok (.aload_n 0, 1) := by decide +kernel
theorem dX5_setBringer_14 : decode cX5_setBringer 14 = .ok (.getfield 20, 3) := by decide +kernel
theorem dX5_setBringer_17 : decode cX5_setBringer 17 = .ok (.iload_n 1, 1) := by decide +kernel
theorem dX5_setBringer_18 : decode cX5_setBringer 18 = .ok (.iload_n 2, 1) := by decide +kernel
theorem dX5_setBringer_19 : decode cX5_setBringer 19 = .ok (.iastore, 1) := by decide +kernel
theorem dX5_setBringer_20 : decode cX5_setBringer 20 = .ok (.return_, 1) := by decide +kernel
theorem dX5_bringerOf_0 : decode cX5_bringerOf 0 = .ok (.iload_n 1, 1) := by decide +kernel
theorem dX5_bringerOf_1 : decode cX5_bringerOf 1 = .ok (.ifCond .lt 21, 3) := by decide +kernel
theorem dX5_bringerOf_4 : decode cX5_bringerOf 4 = .ok (.iload_n 1, 1) := by decide +kernel
theorem dX5_bringerOf_5 : decode cX5_bringerOf 5 = .ok (.aload_n 0, 1) := by decide +kernel
theorem dX5_bringerOf_6 : decode cX5_bringerOf 6 = .ok (.getfield 20, 3) := by decide +kernel
theorem dX5_bringerOf_9 : decode cX5_bringerOf 9 = .ok (.arraylength, 1) := by decide +kernel
theorem dX5_bringerOf_10 : decode cX5_bringerOf 10 = .ok (.if_icmp .ge 12, 3) := by decide +kernel
theorem dX5_bringerOf_13 : decode cX5_bringerOf 13 = .ok (.aload_n 0, 1) := by decide +kernel
theorem dX5_bringerOf_14 : decode cX5_bringerOf 14 = .ok (.getfield 20, 3) := by decide +kernel
theorem dX5_bringerOf_17 : decode cX5_bringerOf 17 = .ok (.iload_n 1, 1) := by decide +kernel
theorem dX5_bringerOf_18 : decode cX5_bringerOf 18 = .ok (.iaload, 1) := by decide +kernel
theorem dX5_bringerOf_19 : decode cX5_bringerOf 19 = .ok (.goto 4, 3) := by decide +kernel
theorem dX5_bringerOf_22 : decode cX5_bringerOf 22 = .ok (.iconst (-1), 1) := by decide +kernel
theorem dX5_bringerOf_23 : decode cX5_bringerOf 23 = .ok (.ireturn, 1) := by decide +kernel
