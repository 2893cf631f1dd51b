theorem dX3_init_0 : decode cX3_init 0 = .ok (.aload_n 0, 1) := by decide +kernel
theorem dX3_init_1 : decode cX3_init 1 = .ok (.invokespecial 3, 3) := by decide +kernel
theorem dX3_init_4 : decode cX3_init 4 = .ok (.iload_n 1, 1) := by decide +kernel
theorem dX3_init_5 : decode cX3_init 5 = .ok (.iconst 0, 1) := by decide +kernel
theorem dX3_init_6 : decode cX3_init 6 = .ok (.invokestatic 9, 3) := by decide +kernel
theorem dX3_init_9 : decode cX3_init 9 = .ok (.istore_n 3, 1) := by decide +kernel
theorem dX3_init_10 : decode cX3_init 10 = .ok (.iload_n 2, 1) := by decide +kernel
theorem dX3_init_11 : decode cX3_init 11 = .ok (.iconst 0, 1) := by decide +kernel
theorem dX3_init_12 : decode cX3_init 12 = .ok (.invokestatic 9, 3) := by decide +kernel
theorem dX3_init_15 : decode cX3_init 15 = .ok (.istore 4, 2) := by decide +kernel
theorem dX3_init_17 : decode cX3_init 17 = .ok (.aload_n 0, 1) := by decide +kernel
theorem dX3_init_18 : decode cX3_init 18 = .ok (.iload_n 3, 1) := by decide +kernel
theorem dX3_init_19 : decode cX3_init 19 = .ok (.newarray .int, 2) := by decide +kernel
theorem dX3_init_21 : decode cX3_init 21 = .ok (.putfield 15, 3) := by decide +kernel
theorem dX3_init_24 : decode cX3_init 24 = .ok (.aload_n 0, 1) := by decide +kernel
theorem dX3_init_25 : decode cX3_init 25 = .ok (.iload_n 3, 1) := by decide +kernel
theorem dX3_init_26 : decode cX3_init 26 = .ok (.iconst 1, 1) := by decide +kernel
theorem dX3_init_27 : decode cX3_init 27 = .ok (.iadd, 1) := by decide +kernel
theorem dX3_init_28 : decode cX3_init 28 = .ok (.newarray .int, 2) := by decide +kernel
theorem dX3_init_30 : decode cX3_init 30 = .ok (.putfield 21, 3) := by decide +kernel
theorem dX3_init_33 : decode cX3_init 33 = .ok (.aload_n 0, 1) := by decide +kernel
theorem dX3_init_34 : decode cX3_init 34 = .ok (.iload_n 3, 1) := by decide +kernel
theorem dX3_init_35 : decode cX3_init 35 = .ok (.iconst 1, 1) := by decide +kernel
theorem dX3_init_36 : decode cX3_init 36 = .ok (.iadd, 1) := by decide +kernel
theorem dX3_init_37 : decode cX3_init 37 = .ok (.newarray .int, 2) := by decide +kernel
theorem dX3_init_39 : decode cX3_init 39 = .ok (.putfield 24, 3) := by decide +kernel
theorem dX3_init_42 : decode cX3_init 42 = .ok (.aload_n 0, 1) := by decide +kernel
theorem dX3_init_43 : decode cX3_init 43 = .ok (.iload 4, 2) := by decide +kernel
theorem dX3_init_45 : decode cX3_init 45 = .ok (.newarray .int, 2) := by decide +kernel
theorem dX3_init_47 : decode cX3_init 47 = .ok (.putfield 27, 3) := by decide +kernel
theorem dX3_init_50 : decode cX3_init 50 = .ok (.aload_n 0, 1) := by decide +kernel
theorem dX3_init_51 : decode cX3_init 51 = .ok (.iload 4, 2) := by decide +kernel
theorem dX3_init_53 : decode cX3_init 53 = .ok (.newarray .int, 2) := by decide +kernel
theorem dX3_init_55 : decode cX3_init 55 = .ok (.putfield 30, 3) := by decide +kernel
theorem dX3_init_58 : decode cX3_init 58 = .ok (.return_, 1) := by decide +kernel
theorem dX3_hunks_0 : decode cX3_hunks 0 = .ok (.aload_n 0, 1) := by decide +kernel
theorem dX3_hunks_1 : decode cX3_hunks 1 = .ok (.getfield 33, 3) := by decide +kernel
theorem dX3_hunks_4 : decode cX3_hunks 4 = .ok (.ireturn, 1) := by decide +kernel
theorem dX3_allGoing_0 : decode cX3_allGoing 0 = .ok (.aload_n 0, 1) := by decide +kernel
theorem dX3_allGoing_1 : decode cX3_allGoing 1 = .ok (.getfield 21, 3) := by decide +kernel
theorem dX3_allGoing_4 : decode cX3_allGoing 4 = .ok (.aload_n 0, 1) := by decide +kernel
theorem dX3_allGoing_5 : decode cX3_allGoing 5 = .ok (.getfield 33, 3) := by decide +kernel
theorem dX3_allGoing_8 : decode cX3_allGoing 8 = .ok (.invokestatic 37, 3) := by decide +kernel
theorem dX3_allGoing_11 : decode cX3_allGoing 11 = .ok (.ireturn, 1) := by decide +kernel
theorem dX3_allComing_0 : decode cX3_allComing 0 = .ok (.aload_n 0, 1) := by decide +kernel
theorem dX3_allComing_1 : decode cX3_allComing 1 = .ok (.getfield 24, 3) := by decide +kernel
theorem dX3_allComing_4 : decode cX3_allComing 4 = .ok (.aload_n 0, 1) := by decide +kernel
theorem dX3_allComing_5 : decode cX3_allComing 5 = .ok (.getfield 33, 3) := by decide +kernel
theorem dX3_allComing_8 : decode cX3_allComing 8 = .ok (.invokestatic 37, 3) := by decide +kernel
theorem dX3_allComing_11 : decode cX3_allComing 11 = .ok (.ireturn, 1) := by decide +kernel
theorem dX3_room_0 : decode cX3_room 0 = .ok (.iconst 2, 1) := by decide +kernel
theorem dX3_room_1 : decode cX3_room 1 = .ok (.aload_n 0, 1) := by decide +kernel
theorem dX3_room_2 : decode cX3_room 2 = .ok (.getfield 33, 3) := by decide +kernel
theorem dX3_room_5 : decode cX3_room 5 = .ok (.imul, 1) := by decide +kernel
theorem dX3_room_6 : decode cX3_room 6 = .ok (.aload_n 0, 1) := by decide +kernel
theorem dX3_room_7 : decode cX3_room 7 = .ok (.invokevirtual 41, 3) := by decide +kernel
theorem dX3_room_10 : decode cX3_room 10 = .ok (.iadd, 1) := by decide +kernel
theorem dX3_room_11 : decode cX3_room 11 = .ok (.iconst 1, 1) := by decide +kernel
theorem dX3_room_12 : decode cX3_room 12 = .ok (.iadd, 1) := by decide +kernel
theorem dX3_room_13 : decode cX3_room 13 = .ok (.ireturn, 1) := by decide +kernel
theorem dX3_begins_0 : decode cX3_begins 0 = .ok (.iload_n 1, 1) := by decide +kernel
theorem dX3_begins_1 : decode cX3_begins 1 = .ok (.ifCond .lt 29, 3) := by decide +kernel
theorem dX3_begins_4 : decode cX3_begins 4 = .ok (.iload_n 1, 1) := by decide +kernel
theorem dX3_begins_5 : decode cX3_begins 5 = .ok (.aload_n 0, 1) := by decide +kernel
theorem dX3_begins_6 : decode cX3_begins 6 = .ok (.getfield 33, 3) := by decide +kernel
theorem dX3_begins_9 : decode cX3_begins 9 = .ok (.if_icmp .ge 21, 3) := by decide +kernel
theorem dX3_begins_12 : decode cX3_begins 12 = .ok (.iload_n 1, 1) := by decide +kernel
theorem dX3_begins_13 : decode cX3_begins 13 = .ok (.aload_n 0, 1) := by decide +kernel
theorem dX3_begins_14 : decode cX3_begins 14 = .ok (.getfield 15, 3) := by decide +kernel
theorem dX3_begins_17 : decode cX3_begins 17 = .ok (.arraylength, 1) := by decide +kernel
theorem dX3_begins_18 : decode cX3_begins 18 = .ok (.if_icmp .ge 12, 3) := by decide +kernel
theorem dX3_begins_21 : decode cX3_begins 21 = .ok (.aload_n 0, 1) := by decide +kernel
theorem dX3_begins_22 : decode cX3_begins 22 = .ok (.getfield 15, 3) := by decide +kernel
theorem dX3_begins_25 : decode cX3_begins 25 = .ok (.iload_n 1, 1) := by decide +kernel
theorem dX3_begins_26 : decode cX3_begins 26 = .ok (.iaload, 1) := by decide +kernel
theorem dX3_begins_27 : decode cX3_begins 27 = .ok (.goto 4, 3) := by decide +kernel
theorem dX3_begins_30 : decode cX3_begins 30 = .ok (.iconst 0, 1) := by decide +kernel
theorem dX3_begins_31 : decode cX3_begins 31 = .ok (.ireturn, 1) := by decide +kernel
theorem dX3_ends_0 : decode cX3_ends 0 = .ok (.aload_n 0, 1) := by decide +kernel
theorem dX3_ends_1 : decode cX3_ends 1 = .ok (.iload_n 1, 1) := by decide +kernel
theorem dX3_ends_2 : decode cX3_ends 2 = .ok (.invokevirtual 45, 3) := by decide +kernel
theorem dX3_ends_5 : decode cX3_ends 5 = .ok (.aload_n 0, 1) := by decide +kernel
theorem dX3_ends_6 : decode cX3_ends 6 = .ok (.iload_n 1, 1) := by decide +kernel
theorem dX3_ends_7 : decode cX3_ends 7 = .ok (.invokevirtual 48, 3) := by decide +kernel
theorem dX3_ends_10 : decode cX3_ends 10 = .ok (.iadd, 1) := by decide +kernel
theorem dX3_ends_11 : decode cX3_ends 11 = .ok (.ireturn, 1) := by decide +kernel
theorem dX3_going_0 : decode cX3_going 0 = .ok (.iload_n 1, 1) := by decide +kernel
theorem dX3_going_1 : decode cX3_going 1 = .ok (.ifCond .lt 40, 3) := by decide +kernel
theorem dX3_going_4 : decode cX3_going 4 = .ok (.iload_n 1, 1) := by decide +kernel
theorem dX3_going_5 : decode cX3_going 5 = .ok (.aload_n 0, 1) := by decide +kernel
theorem dX3_going_6 : decode cX3_going 6 = .ok (.getfield 33, 3) := by decide +kernel
theorem dX3_going_9 : decode cX3_going 9 = .ok (.if_icmp .ge 32, 3) := by decide +kernel
theorem dX3_going_12 : decode cX3_going 12 = .ok (.iload_n 1, 1) := by decide +kernel
theorem dX3_going_13 : decode cX3_going 13 = .ok (.iconst 1, 1) := by decide +kernel
theorem dX3_going_14 : decode cX3_going 14 = .ok (.iadd, 1) := by decide +kernel
theorem dX3_going_15 : decode cX3_going 15 = .ok (.aload_n 0, 1) := by decide +kernel
theorem dX3_going_16 : decode cX3_going 16 = .ok (.getfield 21, 3) := by decide +kernel
theorem dX3_going_19 : decode cX3_going 19 = .ok (.arraylength, 1) := by decide +kernel
theorem dX3_going_20 : decode cX3_going 20 = .ok (.if_icmp .ge 21, 3) := by decide +kernel
theorem dX3_going_23 : decode cX3_going 23 = .ok (.aload_n 0, 1) := by decide +kernel
theorem dX3_going_24 : decode cX3_going 24 = .ok (.getfield 21, 3) := by decide +kernel
theorem dX3_going_27 : decode cX3_going 27 = .ok (.iload_n 1, 1) := by decide +kernel
theorem dX3_going_28 : decode cX3_going 28 = .ok (.iconst 1, 1) := by decide +kernel
theorem dX3_going_29 : decode cX3_going 29 = .ok (.iadd, 1) := by decide +kernel
theorem dX3_going_30 : decode cX3_going 30 = .ok (.iaload, 1) := by decide +kernel
theorem dX3_going_31 : decode cX3_going 31 = .ok (.aload_n 0, 1) := by decide +kernel
theorem dX3_going_32 : decode cX3_going 32 = .ok (.getfield 21, 3) := by decide +kernel
theorem dX3_going_35 : decode cX3_going 35 = .ok (.iload_n 1, 1) := by decide +kernel
theorem dX3_going_36 : decode cX3_going 36 = .ok (.iaload, 1) := by decide +kernel
theorem dX3_going_37 : decode cX3_going 37 = .ok (.isub, 1) := by decide +kernel
theorem dX3_going_38 : decode cX3_going 38 = .ok (.goto 4, 3) := by decide +kernel
theorem dX3_going_41 : decode cX3_going 41 = .ok (.iconst 0, 1) := by decide +kernel
theorem dX3_going_42 : decode cX3_going 42 = .ok (.ireturn, 1) := by decide +kernel
theorem dX3_coming_0 : decode cX3_coming 0 = .ok (.iload_n 1, 1) := by decide +kernel
theorem dX3_coming_1 : decode cX3_coming 1 = .ok (.ifCond .lt 40, 3) := by decide +kernel
theorem dX3_coming_4 : decode cX3_coming 4 = .ok (.iload_n 1, 1) := by decide +kernel
theorem dX3_coming_5 : decode cX3_coming 5 = .ok (.aload_n 0, 1) := by decide +kernel
theorem dX3_coming_6 : decode cX3_coming 6 = .ok (.getfield 33, 3) := by decide +kernel
theorem dX3_coming_9 : decode cX3_coming 9 = .ok (.if_icmp .ge 32, 3) := by decide +kernel
theorem dX3_coming_12 : decode cX3_coming 12 = .ok (.iload_n 1, 1) := by decide +kernel
theorem dX3_coming_13 : decode cX3_coming 13 = .ok (.iconst 1, 1) := by decide +kernel
theorem dX3_coming_14 : decode cX3_coming 14 = .ok (.iadd, 1) := by decide +kernel
theorem dX3_coming_15 : decode cX3_coming 15 = .ok (.aload_n 0, 1) := by decide +kernel
theorem dX3_coming_16 : decode cX3_coming 16 = .ok (.getfield 24, 3) := by decide +kernel
theorem dX3_coming_19 : decode cX3_coming 19 = .ok (.arraylength, 1) := by decide +kernel
theorem dX3_coming_20 : decode cX3_coming 20 = .ok (.if_icmp .ge 21, 3) := by decide +kernel
theorem dX3_coming_23 : decode cX3_coming 23 = .ok (.aload_n 0, 1) := by decide +kernel
theorem dX3_coming_24 : decode cX3_coming 24 = .ok (.getfield 24, 3) := by decide +kernel
theorem dX3_coming_27 : decode cX3_coming 27 = .ok (.iload_n 1, 1) := by decide +kernel
theorem dX3_coming_28 : decode cX3_coming 28 = .ok (.iconst 1, 1) := by decide +kernel
theorem dX3_coming_29 : decode cX3_coming 29 = .ok (.iadd, 1) := by decide +kernel
theorem dX3_coming_30 : decode cX3_coming 30 = .ok (.iaload, 1) := by decide +kernel
theorem dX3_coming_31 : decode cX3_coming 31 = .ok (.aload_n 0, 1) := by decide +kernel
theorem dX3_coming_32 : decode cX3_coming 32 = .ok (.getfield 24, 3) := by decide +kernel
theorem dX3_coming_35 : decode cX3_coming 35 = .ok (.iload_n 1, 1) := by decide +kernel
theorem dX3_coming_36 : decode cX3_coming 36 = .ok (.iaload, 1) := by decide +kernel
theorem dX3_coming_37 : decode cX3_coming 37 = .ok (.isub, 1) := by decide +kernel
theorem dX3_coming_38 : decode cX3_coming 38 = .ok (.goto 4, 3) := by decide +kernel
theorem dX3_coming_41 : decode cX3_coming 41 = .ok (.iconst 0, 1) := by decide +kernel
theorem dX3_coming_42 : decode cX3_coming 42 = .ok (.ireturn, 1) := by decide +kernel
theorem dX3_goingLine_0 : decode cX3_goingLine 0 = .ok (.aload_n 0, 1) := by decide +kernel
theorem dX3_goingLine_1 : decode cX3_goingLine 1 = .ok (.getfield 21, 3) := by decide +kernel
theorem dX3_goingLine_4 : decode cX3_goingLine 4 = .ok (.iload_n 1, 1) := by decide +kernel
theorem dX3_goingLine_5 : decode cX3_goingLine 5 = .ok (.invokestatic 37, 3) := by decide +kernel
theorem dX3_goingLine_8 : decode cX3_goingLine 8 = .ok (.iload_n 2, 1) := by decide +kernel
theorem dX3_goingLine_9 : decode cX3_goingLine 9 = .ok (.iadd, 1) := by decide +kernel
theorem dX3_goingLine_10 : decode cX3_goingLine 10 = .ok (.istore_n 3, 1) := by decide +kernel
theorem dX3_goingLine_11 : decode cX3_goingLine 11 = .ok (.iload_n 2, 1) := by decide +kernel
theorem dX3_goingLine_12 : decode cX3_goingLine 12 = .ok (.ifCond .lt 30, 3) := by decide +kernel
theorem dX3_goingLine_15 : decode cX3_goingLine 15 = .ok (.iload_n 2, 1) := by decide +kernel
theorem dX3_goingLine_16 : decode cX3_goingLine 16 = .ok (.aload_n 0, 1) := by decide +kernel
theorem dX3_goingLine_17 : decode cX3_goingLine 17 = .ok (.iload_n 1, 1) := by decide +kernel
theorem dX3_goingLine_18 : decode cX3_goingLine 18 = .ok (.invokevirtual 48, 3) := by decide +kernel
theorem dX3_goingLine_21 : decode cX3_goingLine 21 = .ok (.if_icmp .ge 21, 3) := by decide +kernel
theorem dX3_goingLine_24 : decode cX3_goingLine 24 = .ok (.iload_n 3, 1) := by decide +kernel
theorem dX3_goingLine_25 : decode cX3_goingLine 25 = .ok (.aload_n 0, 1) := by decide +kernel
theorem dX3_goingLine_26 : decode cX3_goingLine 26 = .ok (.getfield 27, 3) := by decide +kernel
theorem dX3_goingLine_29 : decode cX3_goingLine 29 = .ok (.arraylength, 1) := by decide +kernel
theorem dX3_goingLine_30 : decode cX3_goingLine 30 = .ok (.if_icmp .ge 12, 3) := by decide +kernel
theorem dX3_goingLine_33 : decode cX3_goingLine 33 = .ok (.aload_n 0, 1) := by decide +kernel
theorem dX3_goingLine_34 : decode cX3_goingLine 34 = .ok (.getfield 27, 3) := by decide +kernel
theorem dX3_goingLine_37 : decode cX3_goingLine 37 = .ok (.iload_n 3, 1) := by decide +kernel
theorem dX3_goingLine_38 : decode cX3_goingLine 38 = .ok (.iaload, 1) := by decide +kernel
theorem dX3_goingLine_39 : decode cX3_goingLine 39 = .ok (.goto 4, 3) := by decide +kernel
theorem dX3_goingLine_42 : decode cX3_goingLine 42 = .ok (.iconst (-1), 1) := by decide +kernel
theorem dX3_goingLine_43 : decode cX3_goingLine 43 = .ok (.ireturn, 1) := by decide +kernel
theorem dX3_comingLine_0 : decode cX3_comingLine 0 = .ok (.aload_n 0, 1) := by decide +kernel
theorem dX3_comingLine_1 : decode cX3_comingLine 1 = .ok (.getfield 24, 3) := by decide +kernel
theorem dX3_comingLine_4 : decode cX3_comingLine 4 = .ok (.iload_n 1, 1) := by decide +kernel
theorem dX3_comingLine_5 : decode cX3_comingLine 5 = .ok (.invokestatic 37, 3) := by decide +kernel
theorem dX3_comingLine_8 : decode cX3_comingLine 8 = .ok (.iload_n 2, 1) := by decide +kernel
theorem dX3_comingLine_9 : decode cX3_comingLine 9 = .ok (.iadd, 1) := by decide +kernel
theorem dX3_comingLine_10 : decode cX3_comingLine 10 = .ok (.istore_n 3, 1) := by decide +kernel
theorem dX3_comingLine_11 : decode cX3_comingLine 11 = .ok (.iload_n 2, 1) := by decide +kernel
theorem dX3_comingLine_12 : decode cX3_comingLine 12 = .ok (.ifCond .lt 30, 3) := by decide +kernel
theorem dX3_comingLine_15 : decode cX3_comingLine 15 = .ok (.iload_n 2, 1) := by decide +kernel
theorem dX3_comingLine_16 : decode cX3_comingLine 16 = .ok (.aload_n 0, 1) := by decide +kernel
theorem dX3_comingLine_17 : decode cX3_comingLine 17 = .ok (.iload_n 1, 1) := by decide +kernel
theorem dX3_comingLine_18 : decode cX3_comingLine 18 = .ok (.invokevirtual 51, 3) := by decide +kernel
theorem dX3_comingLine_21 : decode cX3_comingLine 21 = .ok (.if_icmp .ge 21, 3) := by decide +kernel
theorem dX3_comingLine_24 : decode cX3_comingLine 24 = .ok (.iload_n 3, 1) := by decide +kernel
theorem dX3_comingLine_25 : decode cX3_comingLine 25 = .ok (.aload_n 0, 1) := by decide +kernel
theorem dX3_comingLine_26 : decode cX3_comingLine 26 = .ok (.getfield 30, 3) := by decide +kernel
theorem dX3_comingLine_29 : decode cX3_comingLine 29 = .ok (.arraylength, 1) := by decide +kernel
theorem dX3_comingLine_30 : decode cX3_comingLine 30 = .ok (.if_icmp .ge 12, 3) := by decide +kernel
theorem dX3_comingLine_33 : decode cX3_comingLine 33 = .ok (.aload_n 0, 1) := by decide +kernel
theorem dX3_comingLine_34 : decode cX3_comingLine 34 = .ok (.getfield 30, 3) := by decide +kernel
theorem dX3_comingLine_37 : decode cX3_comingLine 37 = .ok (.iload_n 3, 1) := by decide +kernel
theorem dX3_comingLine_38 : decode cX3_comingLine 38 = .ok (.iaload, 1) := by decide +kernel
theorem dX3_comingLine_39 : decode cX3_comingLine 39 = .ok (.goto 4, 3) := by decide +kernel
theorem dX3_comingLine_42 : decode cX3_comingLine 42 = .ok (.iconst (-1), 1) := by decide +kernel
theorem dX3_comingLine_43 : decode cX3_comingLine 43 = .ok (.ireturn, 1) := by decide +kernel
theorem dX3_shiftBefore_0 : decode cX3_shiftBefore 0 = .ok (.iload_n 1, 1) := by decide +kernel
theorem dX3_shiftBefore_1 : decode cX3_shiftBefore 1 = .ok (.ifCond .lt 25, 3) := by decide +kernel
theorem dX3_shiftBefore_4 : decode cX3_shiftBefore 4 = .ok (.iload_n 1, 1) := by decide +kernel
theorem dX3_shiftBefore_5 : decode cX3_shiftBefore 5 = .ok (.aload_n 0, 1) := by decide +kernel
theorem dX3_shiftBefore_6 : decode cX3_shiftBefore 6 = .ok (.getfield 24, 3) := by decide +kernel
theorem dX3_shiftBefore_9 : decode cX3_shiftBefore 9 = .ok (.arraylength, 1) := by decide +kernel
theorem dX3_shiftBefore_10 : decode cX3_shiftBefore 10 = .ok (.if_icmp .ge 16, 3) := by decide +kernel
theorem dX3_shiftBefore_13 : decode cX3_shiftBefore 13 = .ok (.iload_n 1, 1) := by decide +kernel
theorem dX3_shiftBefore_14 : decode cX3_shiftBefore 14 = .ok (.aload_n 0, 1) := by decide +kernel
theorem dX3_shiftBefore_15 : decode cX3_shiftBefore 15 = .ok (.getfield 21, 3) := by decide +kernel
theorem dX3_shiftBefore_18 : decode cX3_shiftBefore 18 = .ok (.arraylength, 1) := by decide +kernel
theorem dX3_shiftBefore_19 : decode cX3_shiftBefore 19 = .ok (.if_icmp .ge 7, 3) := by decide +kernel
theorem dX3_shiftBefore_22 : decode cX3_shiftBefore 22 = .ok (.iconst 1, 1) := by decide +kernel
theorem dX3_shiftBefore_23 : decode cX3_shiftBefore 23 = .ok (.goto 4, 3) := by decide +kernel
theorem dX3_shiftBefore_26 : decode cX3_shiftBefore 26 = .ok (.iconst 0, 1) := by decide +kernel
theorem dX3_shiftBefore_27 : decode cX3_shiftBefore 27 = .ok (.istore_n 2, 1) := by decide +kernel
theorem dX3_shiftBefore_28 : decode cX3_shiftBefore 28 = .ok (.iload_n 2, 1) := by decide +kernel
theorem dX3_shiftBefore_29 : decode cX3_shiftBefore 29 = .ok (.ifCond .eq 19, 3) := by decide +kernel
theorem dX3_shiftBefore_32 : decode cX3_shiftBefore 32 = .ok (.aload_n 0, 1) := by decide +kernel
theorem dX3_shiftBefore_33 : decode cX3_shiftBefore 33 = .ok (.getfield 24, 3) := by decide +kernel
theorem dX3_shiftBefore_36 : decode cX3_shiftBefore 36 = .ok (.iload_n 1, 1) := by decide +kernel
theorem dX3_shiftBefore_37 : decode cX3_shiftBefore 37 = .ok (.iaload, 1) := by decide +kernel
theorem dX3_shiftBefore_38 : decode cX3_shiftBefore 38 = .ok (.aload_n 0, 1) := by decide +kernel
theorem dX3_shiftBefore_39 : decode cX3_shiftBefore 39 = .ok (.getfield 21, 3) := by decide +kernel
theorem dX3_shiftBefore_42 : decode cX3_shiftBefore 42 = .ok (.iload_n 1, 1) := by decide +kernel
theorem dX3_shiftBefore_43 : decode cX3_shiftBefore 43 = .ok (.iaload, 1) := by decide +kernel
theorem dX3_shiftBefore_44 : decode cX3_shiftBefore 44 = .ok (.isub, 1) := by decide +kernel
theorem dX3_shiftBefore_45 : decode cX3_shiftBefore 45 = .ok (.goto 4, 3) := by decide +kernel
theorem dX3_shiftBefore_48 : decode cX3_shiftBefore 48 = .ok (.iconst 0, 1) := by decide +kernel
theorem dX3_shiftBefore_49 : decode cX3_shiftBefore 49 = .ok (.ireturn, 1) := by decide +kernel
theorem dX3_beginsBehind_0 : decode cX3_beginsBehind 0 = .ok (.aload_n 0, 1) := by decide +kernel
theorem dX3_beginsBehind_1 : decode cX3_beginsBehind 1 = .ok (.iload_n 1, 1) := by decide +kernel
theorem dX3_beginsBehind_2 : decode cX3_beginsBehind 2 = .ok (.invokevirtual 45, 3) := by decide +kernel
theorem dX3_beginsBehind_5 : decode cX3_beginsBehind 5 = .ok (.aload_n 0, 1) := by decide +kernel
theorem dX3_beginsBehind_6 : decode cX3_beginsBehind 6 = .ok (.iload_n 1, 1) := by decide +kernel
theorem dX3_beginsBehind_7 : decode cX3_beginsBehind 7 = .ok (.invokevirtual 54, 3) := by decide +kernel
theorem dX3_beginsBehind_10 : decode cX3_beginsBehind 10 = .ok (.iadd, 1) := by decide +kernel
theorem dX3_beginsBehind_11 : decode cX3_beginsBehind 11 = .ok (.ireturn, 1) := by decide +kernel
theorem dX3_endsBehind_0 : decode cX3_endsBehind 0 = .ok (.aload_n 0, 1) := by decide +kernel
theorem dX3_endsBehind_1 : decode cX3_endsBehind 1 = .ok (.iload_n 1, 1) := by decide +kernel
theorem dX3_endsBehind_2 : decode cX3_endsBehind 2 = .ok (.invokevirtual 57, 3) := by decide +kernel
theorem dX3_endsBehind_5 : decode cX3_endsBehind 5 = .ok (.aload_n 0, 1) := by decide +kernel
theorem dX3_endsBehind_6 : decode cX3_endsBehind 6 = .ok (.iload_n 1, 1) := by decide +kernel
theorem dX3_endsBehind_7 : decode cX3_endsBehind 7 = .ok (.invokevirtual 51, 3) := by decide +kernel
theorem dX3_endsBehind_10 : decode cX3_endsBehind 10 = .ok (.iadd, 1) := by decide +kernel
theorem dX3_endsBehind_11 : decode cX3_endsBehind 11 = .ok (.ireturn, 1) := by decide +kernel
theorem dX3_clear_0 : decode cX3_clear 0 = .ok (.aload_n 0, 1) := by decide +kernel
theorem dX3_clear_1 : decode cX3_clear 1 = .ok (.iconst 0, 1) := by decide +kernel
theorem dX3_clear_2 : decode cX3_clear 2 = .ok (.putfield 33, 3) := by decide +kernel
theorem dX3_clear_5 : decode cX3_clear 5 = .ok (.return_, 1) := by decide +kernel
theorem dX3_mayBeginNext_0 : decode cX3_mayBeginNext 0 = .ok (.aload_n 0, 1) := by decide +kernel
theorem dX3_mayBeginNext_1 : decode cX3_mayBeginNext 1 = .ok (.getfield 33, 3) := by decide +kernel
theorem dX3_mayBeginNext_4 : decode cX3_mayBeginNext 4 = .ok (.ifCond .eq 17, 3) := by decide +kernel
theorem dX3_mayBeginNext_7 : decode cX3_mayBeginNext 7 = .ok (.iload_n 1, 1) := by decide +kernel
theorem dX3_mayBeginNext_8 : decode cX3_mayBeginNext 8 = .ok (.aload_n 0, 1) := by decide +kernel
theorem dX3_mayBeginNext_9 : decode cX3_mayBeginNext 9 = .ok (.aload_n 0, 1) := by decide +kernel
theorem dX3_mayBeginNext_10 : decode cX3_mayBeginNext 10 = .ok (.getfield 33, 3) := by decide +kernel
theorem dX3_mayBeginNext_13 : decode cX3_mayBeginNext 13 = .ok (.iconst 1, 1) := by decide +kernel
theorem dX3_mayBeginNext_14 : decode cX3_mayBeginNext 14 = .ok (.isub, 1) := by decide +kernel
theorem dX3_mayBeginNext_15 : decode cX3_mayBeginNext 15 = .ok (.invokevirtual 60, 3) := by decide +kernel
theorem dX3_mayBeginNext_18 : decode cX3_mayBeginNext 18 = .ok (.if_icmp .le 7, 3) := by decide +kernel
theorem dX3_mayBeginNext_21 : decode cX3_mayBeginNext 21 = .ok (.iconst 1, 1) := by decide +kernel
theorem dX3_mayBeginNext_22 : decode cX3_mayBeginNext 22 = .ok (.goto 4, 3) := by decide +kernel
theorem dX3_mayBeginNext_25 : decode cX3_mayBeginNext 25 = .ok (.iconst 0, 1) := by decide +kernel
theorem dX3_mayBeginNext_26 : decode cX3_mayBeginNext 26 = .ok (.ireturn, 1) := by decide +kernel
theorem dX3_begin_0 : decode cX3_begin 0 = .ok (.aload_n 0, 1) := by decide +kernel
theorem dX3_begin_1 : decode cX3_begin 1 = .ok (.getfield 33, 3) := by decide +kernel
theorem dX3_begin_4 : decode cX3_begin 4 = .ok (.ifCond .lt 15, 3) := by decide +kernel
theorem dX3_begin_7 : decode cX3_begin 7 = .ok (.aload_n 0, 1) := by decide +kernel
theorem dX3_begin_8 : decode cX3_begin 8 = .ok (.getfield 33, 3) := by decide +kernel
theorem dX3_begin_11 : decode cX3_begin 11 = .ok (.aload_n 0, 1) := by decide +kernel
theorem dX3_begin_12 : decode cX3_begin 12 = .ok (.getfield 15, 3) := by decide +kernel
theorem dX3_begin_15 : decode cX3_begin 15 = .ok (.arraylength, 1) := by decide +kernel
theorem dX3_begin_16 : decode cX3_begin 16 = .ok (.if_icmp .lt 4, 3) := by decide +kernel
theorem dX3_begin_19 : decode cX3_begin 19 = .ok (.return_, 1) := by decide +kernel
theorem dX3_begin_20 : decode cX3_begin 20 = .ok (.aload_n 0, 1) := by decide +kernel
theorem dX3_begin_21 : decode cX3_begin 21 = .ok (.getfield 15, 3) := by decide +kernel
theorem dX3_begin_24 : decode cX3_begin 24 = .ok (.aload_n 0, 1) := by decide +kernel
theorem dX3_begin_25 : decode cX3_begin 25 = .ok (.getfield 33, 3) := by decide +kernel
theorem dX3_begin_28 : decode cX3_begin 28 = .ok (.iload_n 1, 1) := by decide +kernel
theorem dX3_begin_29 : decode cX3_begin 29 = .ok (.iastore, 1) := by decide +kernel
theorem dX3_begin_30 : decode cX3_begin 30 = .ok (.aload_n 0, 1) := by decide +kernel
theorem dX3_begin_31 : decode cX3_begin 31 = .ok (.getfield 21, 3) := by decide +kernel
theorem dX3_begin_34 : decode cX3_begin 34 = .ok (.aload_n 0, 1) := by decide +kernel
theorem dX3_begin_35 : decode cX3_begin 35 = .ok (.getfield 33, 3) := by decide +kernel
theorem dX3_begin_38 : decode cX3_begin 38 = .ok (.iconst 1, 1) := by decide +kernel
theorem dX3_begin_39 : decode cX3_begin 39 = .ok (.iadd, 1) := by decide +kernel
theorem dX3_begin_40 : decode cX3_begin 40 = .ok (.aload_n 0, 1) := by decide +kernel
theorem dX3_begin_41 : decode cX3_begin 41 = .ok (.getfield 21, 3) := by decide +kernel
theorem dX3_begin_44 : decode cX3_begin 44 = .ok (.aload_n 0, 1) := by decide +kernel
theorem dX3_begin_45 : decode cX3_begin 45 = .ok (.getfield 33, 3) := by decide +kernel
theorem dX3_begin_48 : decode cX3_begin 48 = .ok (.iaload, 1) := by decide +kernel
theorem dX3_begin_49 : decode cX3_begin 49 = .ok (.iastore, 1) := by decide +kernel
theorem dX3_begin_50 : decode cX3_begin 50 = .ok (.aload_n 0, 1) := by decide +kernel
theorem dX3_begin_51 : decode cX3_begin 51 = .ok (.getfield 24, 3) := by decide +kernel
theorem dX3_begin_54 : decode cX3_begin 54 = .ok (.aload_n 0, 1) := by decide +kernel
theorem dX3_begin_55 : decode cX3_begin 55 = .ok (.getfield 33, 3) := by decide +kernel
theorem dX3_begin_58 : decode cX3_begin 58 = .ok (.iconst 1, 1) := by decide +kernel
theorem dX3_begin_59 : decode cX3_begin 59 = .ok (.iadd, 1) := by decide +kernel
theorem dX3_begin_60 : decode cX3_begin 60 = .ok (.aload_n 0, 1) := by decide +kernel
theorem dX3_begin_61 : decode cX3_begin 61 = .ok (.getfield 24, 3) := by decide +kernel
theorem dX3_begin_64 : decode cX3_begin 64 = .ok (.aload_n 0, 1) := by decide +kernel
theorem dX3_begin_65 : decode cX3_begin 65 = .ok (.getfield 33, 3) := by decide +kernel
theorem dX3_begin_68 : decode cX3_begin 68 = .ok (.iaload, 1) := by decide +kernel
theorem dX3_begin_69 : decode cX3_begin 69 = .ok (.iastore, 1) := by decide +kernel
theorem dX3_begin_70 : decode cX3_begin 70 = .ok (.aload_n 0, 1) := by decide +kernel
theorem dX3_begin_71 : decode cX3_begin 71 = .ok (.dup, 1) := by decide +kernel
theorem dX3_begin_72 : decode cX3_begin 72 = .ok (.getfield 33, 3) := by decide +kernel
theorem dX3_begin_75 : decode cX3_begin 75 = .ok (.iconst 1, 1) := by decide +kernel
theorem dX3_begin_76 : decode cX3_begin 76 = .ok (.iadd, 1) := by decide +kernel
theorem dX3_begin_77 : decode cX3_begin 77 = .ok (.putfield 33, 3) := by decide +kernel
theorem dX3_begin_80 : decode cX3_begin 80 = .ok (.return_, 1) := by decide +kernel
theorem dX3_addGoing_0 : decode cX3_addGoing 0 = .ok (.aload_n 0, 1) := by decide +kernel
theorem dX3_addGoing_1 : decode cX3_addGoing 1 = .ok (.aload_n 0, 1) := by decide +kernel
theorem dX3_addGoing_2 : decode cX3_addGoing 2 = .ok (.getfield 21, 3) := by decide +kernel
theorem dX3_addGoing_5 : decode cX3_addGoing 5 = .ok (.aload_n 0, 1) := by decide +kernel
theorem dX3_addGoing_6 : decode cX3_addGoing 6 = .ok (.getfield 27, 3) := by decide +kernel
theorem dX3_addGoing_9 : decode cX3_addGoing 9 = .ok (.iload_n 1, 1) := by decide +kernel
theorem dX3_addGoing_10 : decode cX3_addGoing 10 = .ok (.invokevirtual 63, 3) := by decide +kernel
theorem dX3_addGoing_13 : decode cX3_addGoing 13 = .ok (.return_, 1) := by decide +kernel
theorem dX3_addComing_0 : decode cX3_addComing 0 = .ok (.aload_n 0, 1) := by decide +kernel
theorem dX3_addComing_1 : decode cX3_addComing 1 = .ok (.aload_n 0, 1) := by decide +kernel
theorem dX3_addComing_2 : decode cX3_addComing 2 = .ok (.getfield 24, 3) := by decide +kernel
theorem dX3_addComing_5 : decode cX3_addComing 5 = .ok (.aload_n 0, 1) := by decide +kernel
theorem dX3_addComing_6 : decode cX3_addComing 6 = .ok (.getfield 30, 3) := by decide +kernel
theorem dX3_addComing_9 : decode cX3_addComing 9 = .ok (.iload_n 1, 1) := by decide +kernel
theorem dX3_addComing_10 : decode cX3_addComing 10 = .ok (.invokevirtual 63, 3) := by decide +kernel
theorem dX3_addComing_13 : decode cX3_addComing 13 = .ok (.return_, 1) := by decide +kernel
theorem dX3_addGoingPart_0 : decode cX3_addGoingPart 0 = .ok (.iload_n 2, 1) := by decide +kernel
theorem dX3_addGoingPart_1 : decode cX3_addGoingPart 1 = .ok (.istore 4, 2) := by decide +kernel
theorem dX3_addGoingPart_3 : decode cX3_addGoingPart 3 = .ok (.iload 4, 2) := by decide +kernel
theorem dX3_addGoingPart_5 : decode cX3_addGoingPart 5 = .ok (.iload_n 3, 1) := by decide +kernel
theorem dX3_addGoingPart_6 : decode cX3_addGoingPart 6 = .ok (.if_icmp .ge 19, 3) := by decide +kernel
theorem dX3_addGoingPart_9 : decode cX3_addGoingPart 9 = .ok (.aload_n 0, 1) := by decide +kernel
theorem dX3_addGoingPart_10 : decode cX3_addGoingPart 10 = .ok (.aload_n 1, 1) := by decide +kernel
theorem dX3_addGoingPart_11 : decode cX3_addGoingPart 11 = .ok (.iload 4, 2) := by decide +kernel
theorem dX3_addGoingPart_13 : decode cX3_addGoingPart 13 = .ok (.invokevirtual 67, 3) := by decide +kernel
theorem dX3_addGoingPart_16 : decode cX3_addGoingPart 16 = .ok (.invokevirtual 72, 3) := by decide +kernel
theorem dX3_addGoingPart_19 : decode cX3_addGoingPart 19 = .ok (.iinc 4 1, 3) := by decide +kernel
theorem dX3_addGoingPart_22 : decode cX3_addGoingPart 22 = .ok (.goto (-19), 3) := by decide +kernel
theorem dX3_addGoingPart_25 : decode cX3_addGoingPart 25 = .ok (.return_, 1) := by decide +kernel
theorem dX3_addComingPart_0 : decode cX3_addComingPart 0 = .ok (.iload_n 2, 1) := by decide +kernel
theorem dX3_addComingPart_1 : decode cX3_addComingPart 1 = .ok (.istore 4, 2) := by decide +kernel
theorem dX3_addComingPart_3 : decode cX3_addComingPart 3 = .ok (.iload 4, 2) := by decide +kernel
theorem dX3_addComingPart_5 : decode cX3_addComingPart 5 = .ok (.iload_n 3, 1) := by decide +kernel
theorem dX3_addComingPart_6 : decode cX3_addComingPart 6 = .ok (.if_icmp .ge 19, 3) := by decide +kernel
theorem dX3_addComingPart_9 : decode cX3_addComingPart 9 = .ok (.aload_n 0, 1) := by decide +kernel
theorem dX3_addComingPart_10 : decode cX3_addComingPart 10 = .ok (.aload_n 1, 1) := by decide +kernel
theorem dX3_addComingPart_11 : decode cX3_addComingPart 11 = .ok (.iload 4, 2) := by decide +kernel
theorem dX3_addComingPart_13 : decode cX3_addComingPart 13 = .ok (.invokevirtual 67, 3) := by decide +kernel
theorem dX3_addComingPart_16 : decode cX3_addComingPart 16 = .ok (.invokevirtual 76, 3) := by decide +kernel
theorem dX3_addComingPart_19 : decode cX3_addComingPart 19 = .ok (.iinc 4 1, 3) := by decide +kernel
theorem dX3_addComingPart_22 : decode cX3_addComingPart 22 = .ok (.goto (-19), 3) := by decide +kernel
theorem dX3_addComingPart_25 : decode cX3_addComingPart 25 = .ok (.return_, 1) := by decide +kernel
theorem dX3_leaveOutLast_0 : decode cX3_leaveOutLast 0 = .ok (.aload_n 0, 1) := by decide +kernel
theorem dX3_leaveOutLast_1 : decode cX3_leaveOutLast 1 = .ok (.aload_n 0, 1) := by decide +kernel
theorem dX3_leaveOutLast_2 : decode cX3_leaveOutLast 2 = .ok (.getfield 33, 3) := by decide +kernel
theorem dX3_leaveOutLast_5 : decode cX3_leaveOutLast 5 = .ok (.iconst 1, 1) := by decide +kernel
theorem dX3_leaveOutLast_6 : decode cX3_leaveOutLast 6 = .ok (.isub, 1) := by decide +kernel
theorem dX3_leaveOutLast_7 : decode cX3_leaveOutLast 7 = .ok (.iconst 0, 1) := by decide +kernel
theorem dX3_leaveOutLast_8 : decode cX3_leaveOutLast 8 = .ok (.invokestatic 9, 3) := by decide +kernel
theorem dX3_leaveOutLast_11 : decode cX3_leaveOutLast 11 = .ok (.putfield 33, 3) := by decide +kernel
theorem dX3_leaveOutLast_14 : decode cX3_leaveOutLast 14 = .ok (.return_, 1) := by decide +kernel
theorem dX3_addHunk_0 : decode cX3_addHunk 0 = .ok (.aload_n 0, 1) := by decide +kernel
theorem dX3_addHunk_1 : decode cX3_addHunk 1 = .ok (.iload_n 3, 1) := by decide +kernel
theorem dX3_addHunk_2 : decode cX3_addHunk 2 = .ok (.invokevirtual 79, 3) := by decide +kernel
theorem dX3_addHunk_5 : decode cX3_addHunk 5 = .ok (.aload_n 0, 1) := by decide +kernel
theorem dX3_addHunk_6 : decode cX3_addHunk 6 = .ok (.aload_n 1, 1) := by decide +kernel
theorem dX3_addHunk_7 : decode cX3_addHunk 7 = .ok (.iload_n 2, 1) := by decide +kernel
theorem dX3_addHunk_8 : decode cX3_addHunk 8 = .ok (.invokevirtual 82, 3) := by decide +kernel
theorem dX3_addHunk_11 : decode cX3_addHunk 11 = .ok (.aload_n 0, 1) := by decide +kernel
theorem dX3_addHunk_12 : decode cX3_addHunk 12 = .ok (.aload_n 1, 1) := by decide +kernel
theorem dX3_addHunk_13 : decode cX3_addHunk 13 = .ok (.iload_n 2, 1) := by decide +kernel
theorem dX3_addHunk_14 : decode cX3_addHunk 14 = .ok (.invokevirtual 86, 3) := by decide +kernel
theorem dX3_addHunk_17 : decode cX3_addHunk 17 = .ok (.return_, 1) := by decide +kernel
theorem dX3_addGoingOf_0 : decode cX3_addGoingOf 0 = .ok (.iconst 0, 1) := by decide +kernel
theorem dX3_addGoingOf_1 : decode cX3_addGoingOf 1 = .ok (.istore_n 3, 1) := by decide +kernel
theorem dX3_addGoingOf_2 : decode cX3_addGoingOf 2 = .ok (.iload_n 3, 1) := by decide +kernel
theorem dX3_addGoingOf_3 : decode cX3_addGoingOf 3 = .ok (.aload_n 1, 1) := by decide +kernel
theorem dX3_addGoingOf_4 : decode cX3_addGoingOf 4 = .ok (.iload_n 2, 1) := by decide +kernel
theorem dX3_addGoingOf_5 : decode cX3_addGoingOf 5 = .ok (.invokevirtual 48, 3) := by decide +kernel
theorem dX3_addGoingOf_8 : decode cX3_addGoingOf 8 = .ok (.if_icmp .ge 19, 3) := by decide +kernel
theorem dX3_addGoingOf_11 : decode cX3_addGoingOf 11 = .ok (.aload_n 0, 1) := by decide +kernel
theorem dX3_addGoingOf_12 : decode cX3_addGoingOf 12 = .ok (.aload_n 1, 1) := by decide +kernel
theorem dX3_addGoingOf_13 : decode cX3_addGoingOf 13 = .ok (.iload_n 2, 1) := by decide +kernel
theorem dX3_addGoingOf_14 : decode cX3_addGoingOf 14 = .ok (.iload_n 3, 1) := by decide +kernel
theorem dX3_addGoingOf_15 : decode cX3_addGoingOf 15 = .ok (.invokevirtual 89, 3) := by decide +kernel
theorem dX3_addGoingOf_18 : decode cX3_addGoingOf 18 = .ok (.invokevirtual 72, 3) := by decide +kernel
theorem dX3_addGoingOf_21 : decode cX3_addGoingOf 21 = .ok (.iinc 3 1, 3) := by decide +kernel
theorem dX3_addGoingOf_24 : decode cX3_addGoingOf 24 = .ok (.goto (-22), 3) := by decide +kernel
theorem dX3_addGoingOf_27 : decode cX3_addGoingOf 27 = .ok (.return_, 1) := by decide +kernel
theorem dX3_addComingOf_0 : decode cX3_addComingOf 0 = .ok (.iconst 0, 1) := by decide +kernel
theorem dX3_addComingOf_1 : decode cX3_addComingOf 1 = .ok (.istore_n 3, 1) := by decide +kernel
theorem dX3_addComingOf_2 : decode cX3_addComingOf 2 = .ok (.iload_n 3, 1) := by decide +kernel
theorem dX3_addComingOf_3 : decode cX3_addComingOf 3 = .ok (.aload_n 1, 1) := by decide +kernel
theorem dX3_addComingOf_4 : decode cX3_addComingOf 4 = .ok (.iload_n 2, 1) := by decide +kernel
theorem dX3_addComingOf_5 : decode cX3_addComingOf 5 = .ok (.invokevirtual 51, 3) := by decide +kernel
theorem dX3_addComingOf_8 : decode cX3_addComingOf 8 = .ok (.if_icmp .ge 19, 3) := by decide +kernel
theorem dX3_addComingOf_11 : decode cX3_addComingOf 11 = .ok (.aload_n 0, 1) := by decide +kernel
theorem dX3_addComingOf_12 : decode cX3_addComingOf 12 = .ok (.aload_n 1, 1) := by decide +kernel
theorem dX3_addComingOf_13 : decode cX3_addComingOf 13 = .ok (.iload_n 2, 1) := by decide +kernel
theorem dX3_addComingOf_14 : decode cX3_addComingOf 14 = .ok (.iload_n 3, 1) := by decide +kernel
theorem dX3_addComingOf_15 : decode cX3_addComingOf 15 = .ok (.invokevirtual 92, 3) := by decide +kernel
theorem dX3_addComingOf_18 : decode cX3_addComingOf 18 = .ok (.invokevirtual 76, 3) := by decide +kernel
theorem dX3_addComingOf_21 : decode cX3_addComingOf 21 = .ok (.iinc 3 1, 3) := by decide +kernel
theorem dX3_addComingOf_24 : decode cX3_addComingOf 24 = .ok (.goto (-22), 3) := by decide +kernel
theorem dX3_addComingOf_27 : decode cX3_addComingOf 27 = .ok (.return_, 1) := by decide +kernel
theorem dX3_become_0 : decode cX3_become 0 = .ok (.aload_n 0, 1) := by decide +kernel
theorem dX3_become_1 : decode cX3_become 1 = .ok (.invokevirtual 95, 3) := by decide +kernel
theorem dX3_become_4 : decode cX3_become 4 = .ok (.iconst 0, 1) := by decide +kernel
theorem dX3_become_5 : decode cX3_become 5 = .ok (.istore_n 2, 1) := by decide +kernel
theorem dX3_become_6 : decode cX3_become 6 = .ok (.iload_n 2, 1) := by decide +kernel
theorem dX3_become_7 : decode cX3_become 7 = .ok (.aload_n 1, 1) := by decide +kernel
theorem dX3_become_8 : decode cX3_become 8 = .ok (.invokevirtual 98, 3) := by decide +kernel
theorem dX3_become_11 : decode cX3_become 11 = .ok (.if_icmp .ge 20, 3) := by decide +kernel
theorem dX3_become_14 : decode cX3_become 14 = .ok (.aload_n 0, 1) := by decide +kernel
theorem dX3_become_15 : decode cX3_become 15 = .ok (.aload_n 1, 1) := by decide +kernel
theorem dX3_become_16 : decode cX3_become 16 = .ok (.iload_n 2, 1) := by decide +kernel
theorem dX3_become_17 : decode cX3_become 17 = .ok (.aload_n 1, 1) := by decide +kernel
theorem dX3_become_18 : decode cX3_become 18 = .ok (.iload_n 2, 1) := by decide +kernel
theorem dX3_become_19 : decode cX3_become 19 = .ok (.invokevirtual 45, 3) := by decide +kernel
theorem dX3_become_22 : decode cX3_become 22 = .ok (.invokevirtual 100, 3) := by decide +kernel
theorem dX3_become_25 : decode cX3_become 25 = .ok (.iinc 2 1, 3) := by decide +kernel
theorem dX3_become_28 : decode cX3_become 28 = .ok (.goto (-22), 3) := by decide +kernel
theorem dX3_become_31 : decode cX3_become 31 = .ok (.return_, 1) := by decide +kernel
theorem dX3_becomeTurned_0 : decode cX3_becomeTurned 0 = .ok (.aload_n 0, 1) := by decide +kernel
theorem dX3_becomeTurned_1 : decode cX3_becomeTurned 1 = .ok (.invokevirtual 95, 3) := by decide +kernel
theorem dX3_becomeTurned_4 : decode cX3_becomeTurned 4 = .ok (.iconst 0, 1) := by decide +kernel
theorem dX3_becomeTurned_5 : decode cX3_becomeTurned 5 = .ok (.istore_n 2, 1) := by decide +kernel
theorem dX3_becomeTurned_6 : decode cX3_becomeTurned 6 = .ok (.iload_n 2, 1) := by decide +kernel
theorem dX3_becomeTurned_7 : decode cX3_becomeTurned 7 = .ok (.aload_n 1, 1) := by decide +kernel
theorem dX3_becomeTurned_8 : decode cX3_becomeTurned 8 = .ok (.invokevirtual 98, 3) := by decide +kernel
theorem dX3_becomeTurned_11 : decode cX3_becomeTurned 11 = .ok (.if_icmp .ge 72, 3) := by decide +kernel
theorem dX3_becomeTurned_14 : decode cX3_becomeTurned 14 = .ok (.aload_n 0, 1) := by decide +kernel
theorem dX3_becomeTurned_15 : decode cX3_becomeTurned 15 = .ok (.aload_n 1, 1) := by decide +kernel
theorem dX3_becomeTurned_16 : decode cX3_becomeTurned 16 = .ok (.iload_n 2, 1) := by decide +kernel
theorem dX3_becomeTurned_17 : decode cX3_becomeTurned 17 = .ok (.invokevirtual 57, 3) := by decide +kernel
theorem dX3_becomeTurned_20 : decode cX3_becomeTurned 20 = .ok (.invokevirtual 79, 3) := by decide +kernel
theorem dX3_becomeTurned_23 : decode cX3_becomeTurned 23 = .ok (.iconst 0, 1) := by decide +kernel
theorem dX3_becomeTurned_24 : decode cX3_becomeTurned 24 = .ok (.istore_n 3, 1) := by decide +kernel
theorem dX3_becomeTurned_25 : decode cX3_becomeTurned 25 = .ok (.iload_n 3, 1) := by decide +kernel
theorem dX3_becomeTurned_26 : decode cX3_becomeTurned 26 = .ok (.aload_n 1, 1) := by decide +kernel
theorem dX3_becomeTurned_27 : decode cX3_becomeTurned 27 = .ok (.iload_n 2, 1) := by decide +kernel
theorem dX3_becomeTurned_28 : decode cX3_becomeTurned 28 = .ok (.invokevirtual 51, 3) := by decide +kernel
theorem dX3_becomeTurned_31 : decode cX3_becomeTurned 31 = .ok (.if_icmp .ge 19, 3) := by decide +kernel
theorem dX3_becomeTurned_34 : decode cX3_becomeTurned 34 = .ok (.aload_n 0, 1) := by decide +kernel
theorem dX3_becomeTurned_35 : decode cX3_becomeTurned 35 = .ok (.aload_n 1, 1) := by decide +kernel
theorem dX3_becomeTurned_36 : decode cX3_becomeTurned 36 = .ok (.iload_n 2, 1) := by decide +kernel
theorem dX3_becomeTurned_37 : decode cX3_becomeTurned 37 = .ok (.iload_n 3, 1) := by decide +kernel
theorem dX3_becomeTurned_38 : decode cX3_becomeTurned 38 = .ok (.invokevirtual 92, 3) := by decide +kernel
theorem dX3_becomeTurned_41 : decode cX3_becomeTurned 41 = .ok (.invokevirtual 72, 3) := by decide +kernel
theorem dX3_becomeTurned_44 : decode cX3_becomeTurned 44 = .ok (.iinc 3 1, 3) := by decide +kernel
theorem dX3_becomeTurned_47 : decode cX3_becomeTurned 47 = .ok (.goto (-22), 3) := by decide +kernel
theorem dX3_becomeTurned_50 : decode cX3_becomeTurned 50 = .ok (.iconst 0, 1) := by decide +kernel
theorem dX3_becomeTurned_51 : decode cX3_becomeTurned 51 = .ok (.istore_n 3, 1) := by decide +kernel
theorem dX3_becomeTurned_52 : decode cX3_becomeTurned 52 = .ok (.iload_n 3, 1) := by decide +kernel
theorem dX3_becomeTurned_53 : decode cX3_becomeTurned 53 = .ok (.aload_n 1, 1) := by decide +kernel
theorem dX3_becomeTurned_54 : decode cX3_becomeTurned 54 = .ok (.iload_n 2, 1) := by decide +kernel
theorem dX3_becomeTurned_55 : decode cX3_becomeTurned 55 = .ok (.invokevirtual 48, 3) := by decide +kernel
theorem dX3_becomeTurned_58 : decode cX3_becomeTurned 58 = .ok (.if_icmp .ge 19, 3) := by decide +kernel
theorem dX3_becomeTurned_61 : decode cX3_becomeTurned 61 = .ok (.aload_n 0, 1) := by decide +kernel
theorem dX3_becomeTurned_62 : decode cX3_becomeTurned 62 = .ok (.aload_n 1, 1) := by decide +kernel
theorem dX3_becomeTurned_63 : decode cX3_becomeTurned 63 = .ok (.iload_n 2, 1) := by decide +kernel
theorem dX3_becomeTurned_64 : decode cX3_becomeTurned 64 = .ok (.iload_n 3, 1) := by decide +kernel
theorem dX3_becomeTurned_65 : decode cX3_becomeTurned 65 = .ok (.invokevirtual 89, 3) := by decide +kernel
theorem dX3_becomeTurned_68 : decode cX3_becomeTurned 68 = .ok (.invokevirtual 76, 3) := by decide +kernel
theorem dX3_becomeTurned_71 : decode cX3_becomeTurned 71 = .ok (.iinc 3 1, 3) := by decide +kernel
theorem dX3_becomeTurned_74 : decode cX3_becomeTurned 74 = .ok (.goto (-22), 3) := by decide +kernel
theorem dX3_becomeTurned_77 : decode cX3_becomeTurned 77 = .ok (.iinc 2 1, 3) := by decide +kernel
theorem dX3_becomeTurned_80 : decode cX3_becomeTurned 80 = .ok (.goto (-74), 3) := by decide +kernel
theorem dX3_becomeTurned_83 : decode cX3_becomeTurned 83 = .ok (.return_, 1) := by decide +kernel
theorem dX3_goingAt_0 : decode cX3_goingAt 0 = .ok (.iconst 0, 1) := by decide +kernel
theorem dX3_goingAt_1 : decode cX3_goingAt 1 = .ok (.istore_n 2, 1) := by decide +kernel
theorem dX3_goingAt_2 : decode cX3_goingAt 2 = .ok (.iload_n 2, 1) := by decide +kernel
theorem dX3_goingAt_3 : decode cX3_goingAt 3 = .ok (.aload_n 0, 1) := by decide +kernel
theorem dX3_goingAt_4 : decode cX3_goingAt 4 = .ok (.getfield 33, 3) := by decide +kernel
theorem dX3_goingAt_7 : decode cX3_goingAt 7 = .ok (.if_icmp .ge 37, 3) := by decide +kernel
theorem dX3_goingAt_10 : decode cX3_goingAt 10 = .ok (.iload_n 1, 1) := by decide +kernel
theorem dX3_goingAt_11 : decode cX3_goingAt 11 = .ok (.aload_n 0, 1) := by decide +kernel
theorem dX3_goingAt_12 : decode cX3_goingAt 12 = .ok (.iload_n 2, 1) := by decide +kernel
theorem dX3_goingAt_13 : decode cX3_goingAt 13 = .ok (.invokevirtual 45, 3) := by decide +kernel
theorem dX3_goingAt_16 : decode cX3_goingAt 16 = .ok (.isub, 1) := by decide +kernel
theorem dX3_goingAt_17 : decode cX3_goingAt 17 = .ok (.istore_n 3, 1) := by decide +kernel
theorem dX3_goingAt_18 : decode cX3_goingAt 18 = .ok (.iload_n 3, 1) := by decide +kernel
theorem dX3_goingAt_19 : decode cX3_goingAt 19 = .ok (.ifCond .lt 19, 3) := by decide +kernel
theorem dX3_goingAt_22 : decode cX3_goingAt 22 = .ok (.iload_n 3, 1) := by decide +kernel
theorem dX3_goingAt_23 : decode cX3_goingAt 23 = .ok (.aload_n 0, 1) := by decide +kernel
theorem dX3_goingAt_24 : decode cX3_goingAt 24 = .ok (.iload_n 2, 1) := by decide +kernel
theorem dX3_goingAt_25 : decode cX3_goingAt 25 = .ok (.invokevirtual 48, 3) := by decide +kernel
theorem dX3_goingAt_28 : decode cX3_goingAt 28 = .ok (.if_icmp .ge 10, 3) := by decide +kernel
theorem dX3_goingAt_31 : decode cX3_goingAt 31 = .ok (.aload_n 0, 1) := by decide +kernel
theorem dX3_goingAt_32 : decode cX3_goingAt 32 = .ok (.iload_n 2, 1) := by decide +kernel
theorem dX3_goingAt_33 : decode cX3_goingAt 33 = .ok (.iload_n 3, 1) := by decide +kernel
theorem dX3_goingAt_34 : decode cX3_goingAt 34 = .ok (.invokevirtual 89, 3) := by decide +kernel
theorem dX3_goingAt_37 : decode cX3_goingAt 37 = .ok (.ireturn, 1) := by decide +kernel
theorem dX3_goingAt_38 : decode cX3_goingAt 38 = .ok (.iinc 2 1, 3) := by decide +kernel
theorem dX3_goingAt_41 : decode cX3_goingAt 41 = .ok (.goto (-39), 3) := by decide +kernel
theorem dX3_goingAt_44 : decode cX3_goingAt 44 = .ok (.iconst (-1), 1) := by decide +kernel
theorem dX3_goingAt_45 : decode cX3_goingAt 45 = .ok (.ireturn, 1) := by decide +kernel
theorem dX3_comingAt_0 : decode cX3_comingAt 0 = .ok (.iconst 0, 1) := by decide +kernel
theorem dX3_comingAt_1 : decode cX3_comingAt 1 = .ok (.istore_n 2, 1) := by decide +kernel
theorem dX3_comingAt_2 : decode cX3_comingAt 2 = .ok (.iload_n 2, 1) := by decide +kernel
theorem dX3_comingAt_3 : decode cX3_comingAt 3 = .ok (.aload_n 0, 1) := by decide +kernel
theorem dX3_comingAt_4 : decode cX3_comingAt 4 = .ok (.getfield 33, 3) := by decide +kernel
theorem dX3_comingAt_7 : decode cX3_comingAt 7 = .ok (.if_icmp .ge 37, 3) := by decide +kernel
theorem dX3_comingAt_10 : decode cX3_comingAt 10 = .ok (.iload_n 1, 1) := by decide +kernel
theorem dX3_comingAt_11 : decode cX3_comingAt 11 = .ok (.aload_n 0, 1) := by decide +kernel
theorem dX3_comingAt_12 : decode cX3_comingAt 12 = .ok (.iload_n 2, 1) := by decide +kernel
theorem dX3_comingAt_13 : decode cX3_comingAt 13 = .ok (.invokevirtual 57, 3) := by decide +kernel
theorem dX3_comingAt_16 : decode cX3_comingAt 16 = .ok (.isub, 1) := by decide +kernel
theorem dX3_comingAt_17 : decode cX3_comingAt 17 = .ok (.istore_n 3, 1) := by decide +kernel
theorem dX3_comingAt_18 : decode cX3_comingAt 18 = .ok (.iload_n 3, 1) := by decide +kernel
theorem dX3_comingAt_19 : decode cX3_comingAt 19 = .ok (.ifCond .lt 19, 3) := by decide +kernel
theorem dX3_comingAt_22 : decode cX3_comingAt 22 = .ok (.iload_n 3, 1) := by decide +kernel
theorem dX3_comingAt_23 : decode cX3_comingAt 23 = .ok (.aload_n 0, 1) := by decide +kernel
theorem dX3_comingAt_24 : decode cX3_comingAt 24 = .ok (.iload_n 2, 1) := by decide +kernel
theorem dX3_comingAt_25 : decode cX3_comingAt 25 = .ok (.invokevirtual 51, 3) := by decide +kernel
theorem dX3_comingAt_28 : decode cX3_comingAt 28 = .ok (.if_icmp .ge 10, 3) := by decide +kernel
theorem dX3_comingAt_31 : decode cX3_comingAt 31 = .ok (.aload_n 0, 1) := by decide +kernel
theorem dX3_comingAt_32 : decode cX3_comingAt 32 = .ok (.iload_n 2, 1) := by decide +kernel
theorem dX3_comingAt_33 : decode cX3_comingAt 33 = .ok (.iload_n 3, 1) := by decide +kernel
theorem dX3_comingAt_34 : decode cX3_comingAt 34 = .ok (.invokevirtual 92, 3) := by decide +kernel
theorem dX3_comingAt_37 : decode cX3_comingAt 37 = .ok (.ireturn, 1) := by decide +kernel
theorem dX3_comingAt_38 : decode cX3_comingAt 38 = .ok (.iinc 2 1, 3) := by decide +kernel
theorem dX3_comingAt_41 : decode cX3_comingAt 41 = .ok (.goto (-39), 3) := by decide +kernel
theorem dX3_comingAt_44 : decode cX3_comingAt 44 = .ok (.iconst (-1), 1) := by decide +kernel
theorem dX3_comingAt_45 : decode cX3_comingAt 45 = .ok (.ireturn, 1) := by decide +kernel
theorem dX3_touches_0 : decode cX3_touches 0 = .ok (.iconst 0, 1) := by decide +kernel
theorem dX3_touches_1 : decode cX3_touches 1 = .ok (.istore_n 3, 1) := by decide +kernel
theorem dX3_touches_2 : decode cX3_touches 2 = .ok (.iload_n 3, 1) := by decide +kernel
theorem dX3_touches_3 : decode cX3_touches 3 = .ok (.aload_n 0, 1) := by decide +kernel
theorem dX3_touches_4 : decode cX3_touches 4 = .ok (.getfield 33, 3) := by decide +kernel
theorem dX3_touches_7 : decode cX3_touches 7 = .ok (.if_icmp .ge 29, 3) := by decide +kernel
theorem dX3_touches_10 : decode cX3_touches 10 = .ok (.aload_n 0, 1) := by decide +kernel
theorem dX3_touches_11 : decode cX3_touches 11 = .ok (.iload_n 3, 1) := by decide +kernel
theorem dX3_touches_12 : decode cX3_touches 12 = .ok (.invokevirtual 45, 3) := by decide +kernel
theorem dX3_touches_15 : decode cX3_touches 15 = .ok (.iload_n 2, 1) := by decide +kernel
theorem dX3_touches_16 : decode cX3_touches 16 = .ok (.if_icmp .gt 14, 3) := by decide +kernel
theorem dX3_touches_19 : decode cX3_touches 19 = .ok (.iload_n 1, 1) := by decide +kernel
theorem dX3_touches_20 : decode cX3_touches 20 = .ok (.aload_n 0, 1) := by decide +kernel
theorem dX3_touches_21 : decode cX3_touches 21 = .ok (.iload_n 3, 1) := by decide +kernel
theorem dX3_touches_22 : decode cX3_touches 22 = .ok (.invokevirtual 60, 3) := by decide +kernel
theorem dX3_touches_25 : decode cX3_touches 25 = .ok (.if_icmp .gt 5, 3) := by decide +kernel
theorem dX3_touches_28 : decode cX3_touches 28 = .ok (.iconst 1, 1) := by decide +kernel
theorem dX3_touches_29 : decode cX3_touches 29 = .ok (.ireturn, 1) := by decide +kernel
theorem dX3_touches_30 : decode cX3_touches 30 = .ok (.iinc 3 1, 3) := by decide +kernel
theorem dX3_touches_33 : decode cX3_touches 33 = .ok (.goto (-31), 3) := by decide +kernel
theorem dX3_touches_36 : decode cX3_touches 36 = .ok (.iconst 0, 1) := by decide +kernel
theorem dX3_touches_37 : decode cX3_touches 37 = .ok (.ireturn, 1) := by decide +kernel
theorem dX3_hasAlike_0 : decode cX3_hasAlike 0 = .ok (.iconst 0, 1) := by decide +kernel
theorem dX3_hasAlike_1 : decode cX3_hasAlike 1 = .ok (.istore_n 3, 1) := by decide +kernel
theorem dX3_hasAlike_2 : decode cX3_hasAlike 2 = .ok (.iload_n 3, 1) := by decide +kernel
theorem dX3_hasAlike_3 : decode cX3_hasAlike 3 = .ok (.aload_n 0, 1) := by decide +kernel
theorem dX3_hasAlike_4 : decode cX3_hasAlike 4 = .ok (.getfield 33, 3) := by decide +kernel
theorem dX3_hasAlike_7 : decode cX3_hasAlike 7 = .ok (.if_icmp .ge 21, 3) := by decide +kernel
theorem dX3_hasAlike_10 : decode cX3_hasAlike 10 = .ok (.aload_n 0, 1) := by decide +kernel
theorem dX3_hasAlike_11 : decode cX3_hasAlike 11 = .ok (.iload_n 3, 1) := by decide +kernel
theorem dX3_hasAlike_12 : decode cX3_hasAlike 12 = .ok (.aload_n 1, 1) := by decide +kernel
theorem dX3_hasAlike_13 : decode cX3_hasAlike 13 = .ok (.iload_n 2, 1) := by decide +kernel
theorem dX3_hasAlike_14 : decode cX3_hasAlike 14 = .ok (.invokevirtual 104, 3) := by decide +kernel
theorem dX3_hasAlike_17 : decode cX3_hasAlike 17 = .ok (.ifCond .eq 5, 3) := by decide +kernel
theorem dX3_hasAlike_20 : decode cX3_hasAlike 20 = .ok (.iconst 1, 1) := by decide +kernel
theorem dX3_hasAlike_21 : decode cX3_hasAlike 21 = .ok (.ireturn, 1) := by decide +kernel
theorem dX3_hasAlike_22 : decode cX3_hasAlike 22 = .ok (.iinc 3 1, 3) := by decide +kernel
theorem dX3_hasAlike_25 : decode cX3_hasAlike 25 = .ok (.goto (-23), 3) := by decide +kernel
theorem dX3_hasAlike_28 : decode cX3_hasAlike 28 = .ok (.iconst 0, 1) := by decide +kernel
theorem dX3_hasAlike_29 : decode cX3_hasAlike 29 = .ok (.ireturn, 1) := by decide +kernel
theorem dX3_lastIsIdle_0 : decode cX3_lastIsIdle 0 = .ok (.aload_n 0, 1) := by decide +kernel
theorem dX3_lastIsIdle_1 : decode cX3_lastIsIdle 1 = .ok (.getfield 33, 3) := by decide +kernel
theorem dX3_lastIsIdle_4 : decode cX3_lastIsIdle 4 = .ok (.iconst 1, 1) := by decide +kernel
theorem dX3_lastIsIdle_5 : decode cX3_lastIsIdle 5 = .ok (.isub, 1) := by decide +kernel
theorem dX3_lastIsIdle_6 : decode cX3_lastIsIdle 6 = .ok (.istore_n 1, 1) := by decide +kernel
theorem dX3_lastIsIdle_7 : decode cX3_lastIsIdle 7 = .ok (.aload_n 0, 1) := by decide +kernel
theorem dX3_lastIsIdle_8 : decode cX3_lastIsIdle 8 = .ok (.iload_n 1, 1) := by decide +kernel
theorem dX3_lastIsIdle_9 : decode cX3_lastIsIdle 9 = .ok (.invokevirtual 48, 3) := by decide +kernel
theorem dX3_lastIsIdle_12 : decode cX3_lastIsIdle 12 = .ok (.aload_n 0, 1) := by decide +kernel
theorem dX3_lastIsIdle_13 : decode cX3_lastIsIdle 13 = .ok (.iload_n 1, 1) := by decide +kernel
theorem dX3_lastIsIdle_14 : decode cX3_lastIsIdle 14 = .ok (.invokevirtual 51, 3) := by decide +kernel
theorem dX3_lastIsIdle_17 : decode cX3_lastIsIdle 17 = .ok (.if_icmp .ne 7, 3) := by decide +kernel
theorem dX3_lastIsIdle_20 : decode cX3_lastIsIdle 20 = .ok (.iconst 1, 1) := by decide +kernel
theorem dX3_lastIsIdle_21 : decode cX3_lastIsIdle 21 = .ok (.goto 4, 3) := by decide +kernel
theorem dX3_lastIsIdle_24 : decode cX3_lastIsIdle 24 = .ok (.iconst 0, 1) := by decide +kernel
theorem dX3_lastIsIdle_25 : decode cX3_lastIsIdle 25 = .ok (.istore_n 2, 1) := by decide +kernel
theorem dX3_lastIsIdle_26 : decode cX3_lastIsIdle 26 = .ok (.iconst 0, 1) := by decide +kernel
theorem dX3_lastIsIdle_27 : decode cX3_lastIsIdle 27 = .ok (.istore_n 3, 1) := by decide +kernel
theorem dX3_lastIsIdle_28 : decode cX3_lastIsIdle 28 = .ok (.iload_n 3, 1) := by decide +kernel
theorem dX3_lastIsIdle_29 : decode cX3_lastIsIdle 29 = .ok (.aload_n 0, 1) := by decide +kernel
theorem dX3_lastIsIdle_30 : decode cX3_lastIsIdle 30 = .ok (.iload_n 1, 1) := by decide +kernel
theorem dX3_lastIsIdle_31 : decode cX3_lastIsIdle 31 = .ok (.invokevirtual 48, 3) := by decide +kernel
theorem dX3_lastIsIdle_34 : decode cX3_lastIsIdle 34 = .ok (.if_icmp .ge 34, 3) := by decide +kernel
theorem dX3_lastIsIdle_37 : decode cX3_lastIsIdle 37 = .ok (.iload_n 2, 1) := by decide +kernel
theorem dX3_lastIsIdle_38 : decode cX3_lastIsIdle 38 = .ok (.ifCond .eq 22, 3) := by decide +kernel
theorem dX3_lastIsIdle_41 : decode cX3_lastIsIdle 41 = .ok (.aload_n 0, 1) := by decide +kernel
theorem dX3_lastIsIdle_42 : decode cX3_lastIsIdle 42 = .ok (.iload_n 1, 1) := by decide +kernel
theorem dX3_lastIsIdle_43 : decode cX3_lastIsIdle 43 = .ok (.iload_n 3, 1) := by decide +kernel
theorem dX3_lastIsIdle_44 : decode cX3_lastIsIdle 44 = .ok (.invokevirtual 89, 3) := by decide +kernel
theorem dX3_lastIsIdle_47 : decode cX3_lastIsIdle 47 = .ok (.aload_n 0, 1) := by decide +kernel
theorem dX3_lastIsIdle_48 : decode cX3_lastIsIdle 48 = .ok (.iload_n 1, 1) := by decide +kernel
theorem dX3_lastIsIdle_49 : decode cX3_lastIsIdle 49 = .ok (.iload_n 3, 1) := by decide +kernel
theorem dX3_lastIsIdle_50 : decode cX3_lastIsIdle 50 = .ok (.invokevirtual 92, 3) := by decide +kernel
theorem dX3_lastIsIdle_53 : decode cX3_lastIsIdle 53 = .ok (.if_icmp .ne 7, 3) := by decide +kernel
theorem dX3_lastIsIdle_56 : decode cX3_lastIsIdle 56 = .ok (.iconst 1, 1) := by decide +kernel
theorem dX3_lastIsIdle_57 : decode cX3_lastIsIdle 57 = .ok (.goto 4, 3) := by decide +kernel
theorem dX3_lastIsIdle_60 : decode cX3_lastIsIdle 60 = .ok (.iconst 0, 1) := by decide +kernel
theorem dX3_lastIsIdle_61 : decode cX3_lastIsIdle 61 = .ok (.istore_n 2, 1) := by decide +kernel
theorem dX3_lastIsIdle_62 : decode cX3_lastIsIdle 62 = .ok (.iinc 3 1, 3) := by decide +kernel
theorem dX3_lastIsIdle_65 : decode cX3_lastIsIdle 65 = .ok (.goto (-37), 3) := by decide +kernel
theorem dX3_lastIsIdle_68 : decode cX3_lastIsIdle 68 = .ok (.iload_n 2, 1) := by decide +kernel
theorem dX3_lastIsIdle_69 : decode cX3_lastIsIdle 69 = .ok (.ireturn, 1) := by decide +kernel
theorem dX3_fitsOn_0 : decode cX3_fitsOn 0 = .ok (.iconst 0, 1) := by decide +kernel
theorem dX3_fitsOn_1 : decode cX3_fitsOn 1 = .ok (.istore_n 2, 1) := by decide +kernel
theorem dX3_fitsOn_2 : decode cX3_fitsOn 2 = .ok (.iload_n 2, 1) := by decide +kernel
theorem dX3_fitsOn_3 : decode cX3_fitsOn 3 = .ok (.aload_n 0, 1) := by decide +kernel
theorem dX3_fitsOn_4 : decode cX3_fitsOn 4 = .ok (.getfield 33, 3) := by decide +kernel
theorem dX3_fitsOn_7 : decode cX3_fitsOn 7 = .ok (.if_icmp .ge 25, 3) := by decide +kernel
theorem dX3_fitsOn_10 : decode cX3_fitsOn 10 = .ok (.aload_n 0, 1) := by decide +kernel
theorem dX3_fitsOn_11 : decode cX3_fitsOn 11 = .ok (.aload_n 1, 1) := by decide +kernel
theorem dX3_fitsOn_12 : decode cX3_fitsOn 12 = .ok (.iload_n 2, 1) := by decide +kernel
theorem dX3_fitsOn_13 : decode cX3_fitsOn 13 = .ok (.aload_n 0, 1) := by decide +kernel
theorem dX3_fitsOn_14 : decode cX3_fitsOn 14 = .ok (.iload_n 2, 1) := by decide +kernel
theorem dX3_fitsOn_15 : decode cX3_fitsOn 15 = .ok (.invokevirtual 45, 3) := by decide +kernel
theorem dX3_fitsOn_18 : decode cX3_fitsOn 18 = .ok (.invokevirtual 108, 3) := by decide +kernel
theorem dX3_fitsOn_21 : decode cX3_fitsOn 21 = .ok (.ifCond .ne 5, 3) := by decide +kernel
theorem dX3_fitsOn_24 : decode cX3_fitsOn 24 = .ok (.iconst 0, 1) := by decide +kernel
theorem dX3_fitsOn_25 : decode cX3_fitsOn 25 = .ok (.ireturn, 1) := by decide +kernel
theorem dX3_fitsOn_26 : decode cX3_fitsOn 26 = .ok (.iinc 2 1, 3) := by decide +kernel
theorem dX3_fitsOn_29 : decode cX3_fitsOn 29 = .ok (.goto (-27), 3) := by decide +kernel
theorem dX3_fitsOn_32 : decode cX3_fitsOn 32 = .ok (.iconst 1, 1) := by decide +kernel
theorem dX3_fitsOn_33 : decode cX3_fitsOn 33 = .ok (.ireturn, 1) := by decide +kernel
theorem dX3_layOn_0 : decode cX3_layOn 0 = .ok (.iconst 0, 1) := by decide +kernel
theorem dX3_layOn_1 : decode cX3_layOn 1 = .ok (.istore_n 3, 1) := by decide +kernel
theorem dX3_layOn_2 : decode cX3_layOn 2 = .ok (.aload_n 2, 1) := by decide +kernel
theorem dX3_layOn_3 : decode cX3_layOn 3 = .ok (.invokevirtual 112, 3) := by decide +kernel
theorem dX3_layOn_6 : decode cX3_layOn 6 = .ok (.iconst 0, 1) := by decide +kernel
theorem dX3_layOn_7 : decode cX3_layOn 7 = .ok (.istore 4, 2) := by decide +kernel
theorem dX3_layOn_9 : decode cX3_layOn 9 = .ok (.iload 4, 2) := by decide +kernel
theorem dX3_layOn_11 : decode cX3_layOn 11 = .ok (.aload_n 0, 1) := by decide +kernel
theorem dX3_layOn_12 : decode cX3_layOn 12 = .ok (.getfield 33, 3) := by decide +kernel
theorem dX3_layOn_15 : decode cX3_layOn 15 = .ok (.if_icmp .ge 60, 3) := by decide +kernel
theorem dX3_layOn_18 : decode cX3_layOn 18 = .ok (.aload_n 2, 1) := by decide +kernel
theorem dX3_layOn_19 : decode cX3_layOn 19 = .ok (.aload_n 1, 1) := by decide +kernel
theorem dX3_layOn_20 : decode cX3_layOn 20 = .ok (.iload_n 3, 1) := by decide +kernel
theorem dX3_layOn_21 : decode cX3_layOn 21 = .ok (.aload_n 0, 1) := by decide +kernel
theorem dX3_layOn_22 : decode cX3_layOn 22 = .ok (.iload 4, 2) := by decide +kernel
theorem dX3_layOn_24 : decode cX3_layOn 24 = .ok (.invokevirtual 45, 3) := by decide +kernel
theorem dX3_layOn_27 : decode cX3_layOn 27 = .ok (.invokevirtual 113, 3) := by decide +kernel
theorem dX3_layOn_30 : decode cX3_layOn 30 = .ok (.iconst 0, 1) := by decide +kernel
theorem dX3_layOn_31 : decode cX3_layOn 31 = .ok (.istore 5, 2) := by decide +kernel
theorem dX3_layOn_33 : decode cX3_layOn 33 = .ok (.iload 5, 2) := by decide +kernel
theorem dX3_layOn_35 : decode cX3_layOn 35 = .ok (.aload_n 0, 1) := by decide +kernel
theorem dX3_layOn_36 : decode cX3_layOn 36 = .ok (.iload 4, 2) := by decide +kernel
theorem dX3_layOn_38 : decode cX3_layOn 38 = .ok (.invokevirtual 51, 3) := by decide +kernel
theorem dX3_layOn_41 : decode cX3_layOn 41 = .ok (.if_icmp .ge 21, 3) := by decide +kernel
theorem dX3_layOn_44 : decode cX3_layOn 44 = .ok (.aload_n 2, 1) := by decide +kernel
theorem dX3_layOn_45 : decode cX3_layOn 45 = .ok (.aload_n 0, 1) := by decide +kernel
theorem dX3_layOn_46 : decode cX3_layOn 46 = .ok (.iload 4, 2) := by decide +kernel
theorem dX3_layOn_48 : decode cX3_layOn 48 = .ok (.iload 5, 2) := by decide +kernel
theorem dX3_layOn_50 : decode cX3_layOn 50 = .ok (.invokevirtual 92, 3) := by decide +kernel
theorem dX3_layOn_53 : decode cX3_layOn 53 = .ok (.invokevirtual 117, 3) := by decide +kernel
theorem dX3_layOn_56 : decode cX3_layOn 56 = .ok (.iinc 5 1, 3) := by decide +kernel
theorem dX3_layOn_59 : decode cX3_layOn 59 = .ok (.goto (-26), 3) := by decide +kernel
theorem dX3_layOn_62 : decode cX3_layOn 62 = .ok (.aload_n 0, 1) := by decide +kernel
theorem dX3_layOn_63 : decode cX3_layOn 63 = .ok (.iload 4, 2) := by decide +kernel
theorem dX3_layOn_65 : decode cX3_layOn 65 = .ok (.invokevirtual 60, 3) := by decide +kernel
theorem dX3_layOn_68 : decode cX3_layOn 68 = .ok (.istore_n 3, 1) := by decide +kernel
theorem dX3_layOn_69 : decode cX3_layOn 69 = .ok (.iinc 4 1, 3) := by decide +kernel
theorem dX3_layOn_72 : decode cX3_layOn 72 = .ok (.goto (-63), 3) := by decide +kernel
theorem dX3_layOn_75 : decode cX3_layOn 75 = .ok (.aload_n 2, 1) := by decide +kernel
theorem dX3_layOn_76 : decode cX3_layOn 76 = .ok (.aload_n 1, 1) := by decide +kernel
theorem dX3_layOn_77 : decode cX3_layOn 77 = .ok (.iload_n 3, 1) := by decide +kernel
theorem dX3_layOn_78 : decode cX3_layOn 78 = .ok (.aload_n 1, 1) := by decide +kernel
theorem dX3_layOn_79 : decode cX3_layOn 79 = .ok (.invokevirtual 120, 3) := by decide +kernel
theorem dX3_layOn_82 : decode cX3_layOn 82 = .ok (.invokevirtual 113, 3) := by decide +kernel
theorem dX3_layOn_85 : decode cX3_layOn 85 = .ok (.return_, 1) := by decide +kernel
theorem dX3_layLooselyOn_0 : decode cX3_layLooselyOn 0 = .ok (.iconst 0, 1) := by decide +kernel
theorem dX3_layLooselyOn_1 : decode cX3_layLooselyOn 1 = .ok (.istore_n 2, 1) := by decide +kernel
theorem dX3_layLooselyOn_2 : decode cX3_layLooselyOn 2 = .ok (.iconst 0, 1) := by decide +kernel
theorem dX3_layLooselyOn_3 : decode cX3_layLooselyOn 3 = .ok (.istore_n 3, 1) := by decide +kernel
theorem dX3_layLooselyOn_4 : decode cX3_layLooselyOn 4 = .ok (.iconst 0, 1) := by decide +kernel
theorem dX3_layLooselyOn_5 : decode cX3_layLooselyOn 5 = .ok (.istore 4, 2) := by decide +kernel
theorem dX3_layLooselyOn_7 : decode cX3_layLooselyOn 7 = .ok (.iconst 0, 1) := by decide +kernel
theorem dX3_layLooselyOn_8 : decode cX3_layLooselyOn 8 = .ok (.istore 5, 2) := by decide +kernel
theorem dX3_layLooselyOn_10 : decode cX3_layLooselyOn 10 = .ok (.iload 5, 2) := by decide +kernel
theorem dX3_layLooselyOn_12 : decode cX3_layLooselyOn 12 = .ok (.aload_n 0, 1) := by decide +kernel
theorem dX3_layLooselyOn_13 : decode cX3_layLooselyOn 13 = .ok (.getfield 33, 3) := by decide +kernel
theorem dX3_layLooselyOn_16 : decode cX3_layLooselyOn 16 = .ok (.if_icmp .ge 95, 3) := by decide +kernel
theorem dX3_layLooselyOn_19 : decode cX3_layLooselyOn 19 = .ok (.aload_n 0, 1) := by decide +kernel
theorem dX3_layLooselyOn_20 : decode cX3_layLooselyOn 20 = .ok (.iload 5, 2) := by decide +kernel
theorem dX3_layLooselyOn_22 : decode cX3_layLooselyOn 22 = .ok (.invokevirtual 45, 3) := by decide +kernel
theorem dX3_layLooselyOn_25 : decode cX3_layLooselyOn 25 = .ok (.iload_n 2, 1) := by decide +kernel
theorem dX3_layLooselyOn_26 : decode cX3_layLooselyOn 26 = .ok (.iadd, 1) := by decide +kernel
theorem dX3_layLooselyOn_27 : decode cX3_layLooselyOn 27 = .ok (.istore 6, 2) := by decide +kernel
theorem dX3_layLooselyOn_29 : decode cX3_layLooselyOn 29 = .ok (.aload_n 0, 1) := by decide +kernel
theorem dX3_layLooselyOn_30 : decode cX3_layLooselyOn 30 = .ok (.aload_n 1, 1) := by decide +kernel
theorem dX3_layLooselyOn_31 : decode cX3_layLooselyOn 31 = .ok (.iload 5, 2) := by decide +kernel
theorem dX3_layLooselyOn_33 : decode cX3_layLooselyOn 33 = .ok (.iload 6, 2) := by decide +kernel
theorem dX3_layLooselyOn_35 : decode cX3_layLooselyOn 35 = .ok (.iload_n 3, 1) := by decide +kernel
theorem dX3_layLooselyOn_36 : decode cX3_layLooselyOn 36 = .ok (.invokevirtual 123, 3) := by decide +kernel
theorem dX3_layLooselyOn_39 : decode cX3_layLooselyOn 39 = .ok (.istore 7, 2) := by decide +kernel
theorem dX3_layLooselyOn_41 : decode cX3_layLooselyOn 41 = .ok (.iload 7, 2) := by decide +kernel
theorem dX3_layLooselyOn_43 : decode cX3_layLooselyOn 43 = .ok (.iconst (-1), 1) := by decide +kernel
theorem dX3_layLooselyOn_44 : decode cX3_layLooselyOn 44 = .ok (.if_icmp .ne 5, 3) := by decide +kernel
theorem dX3_layLooselyOn_47 : decode cX3_layLooselyOn 47 = .ok (.iconst (-1), 1) := by decide +kernel
theorem dX3_layLooselyOn_48 : decode cX3_layLooselyOn 48 = .ok (.ireturn, 1) := by decide +kernel
theorem dX3_layLooselyOn_49 : decode cX3_layLooselyOn 49 = .ok (.aload_n 0, 1) := by decide +kernel
theorem dX3_layLooselyOn_50 : decode cX3_layLooselyOn 50 = .ok (.aload_n 1, 1) := by decide +kernel
theorem dX3_layLooselyOn_51 : decode cX3_layLooselyOn 51 = .ok (.iload 5, 2) := by decide +kernel
theorem dX3_layLooselyOn_53 : decode cX3_layLooselyOn 53 = .ok (.iload 7, 2) := by decide +kernel
theorem dX3_layLooselyOn_55 : decode cX3_layLooselyOn 55 = .ok (.invokevirtual 127, 3) := by decide +kernel
theorem dX3_layLooselyOn_58 : decode cX3_layLooselyOn 58 = .ok (.iload 4, 2) := by decide +kernel
theorem dX3_layLooselyOn_60 : decode cX3_layLooselyOn 60 = .ok (.iload 7, 2) := by decide +kernel
theorem dX3_layLooselyOn_62 : decode cX3_layLooselyOn 62 = .ok (.iload 6, 2) := by decide +kernel
theorem dX3_layLooselyOn_64 : decode cX3_layLooselyOn 64 = .ok (.isub, 1) := by decide +kernel
theorem dX3_layLooselyOn_65 : decode cX3_layLooselyOn 65 = .ok (.invokestatic 130, 3) := by decide +kernel
theorem dX3_layLooselyOn_68 : decode cX3_layLooselyOn 68 = .ok (.iadd, 1) := by decide +kernel
theorem dX3_layLooselyOn_69 : decode cX3_layLooselyOn 69 = .ok (.istore 4, 2) := by decide +kernel
theorem dX3_layLooselyOn_71 : decode cX3_layLooselyOn 71 = .ok (.iload_n 2, 1) := by decide +kernel
theorem dX3_layLooselyOn_72 : decode cX3_layLooselyOn 72 = .ok (.iload 7, 2) := by decide +kernel
theorem dX3_layLooselyOn_74 : decode cX3_layLooselyOn 74 = .ok (.iload 6, 2) := by decide +kernel
theorem dX3_layLooselyOn_76 : decode cX3_layLooselyOn 76 = .ok (.isub, 1) := by decide +kernel
theorem dX3_layLooselyOn_77 : decode cX3_layLooselyOn 77 = .ok (.aload_n 0, 1) := by decide +kernel
theorem dX3_layLooselyOn_78 : decode cX3_layLooselyOn 78 = .ok (.iload 5, 2) := by decide +kernel
theorem dX3_layLooselyOn_80 : decode cX3_layLooselyOn 80 = .ok (.invokevirtual 51, 3) := by decide +kernel
theorem dX3_layLooselyOn_83 : decode cX3_layLooselyOn 83 = .ok (.iadd, 1) := by decide +kernel
theorem dX3_layLooselyOn_84 : decode cX3_layLooselyOn 84 = .ok (.aload_n 0, 1) := by decide +kernel
theorem dX3_layLooselyOn_85 : decode cX3_layLooselyOn 85 = .ok (.iload 5, 2) := by decide +kernel
theorem dX3_layLooselyOn_87 : decode cX3_layLooselyOn 87 = .ok (.invokevirtual 48, 3) := by decide +kernel
theorem dX3_layLooselyOn_90 : decode cX3_layLooselyOn 90 = .ok (.isub, 1) := by decide +kernel
theorem dX3_layLooselyOn_91 : decode cX3_layLooselyOn 91 = .ok (.iadd, 1) := by decide +kernel
theorem dX3_layLooselyOn_92 : decode cX3_layLooselyOn 92 = .ok (.istore_n 2, 1) := by decide +kernel
theorem dX3_layLooselyOn_93 : decode cX3_layLooselyOn 93 = .ok (.iload 7, 2) := by decide +kernel
theorem dX3_layLooselyOn_95 : decode cX3_layLooselyOn 95 = .ok (.aload_n 0, 1) := by decide +kernel
theorem dX3_layLooselyOn_96 : decode cX3_layLooselyOn 96 = .ok (.iload 5, 2) := by decide +kernel
theorem dX3_layLooselyOn_98 : decode cX3_layLooselyOn 98 = .ok (.invokevirtual 51, 3) := by decide +kernel
theorem dX3_layLooselyOn_101 : decode cX3_layLooselyOn 101 = .ok (.iadd, 1) := by decide +kernel
theorem dX3_layLooselyOn_102 : decode cX3_layLooselyOn 102 = .ok (.iconst 1, 1) := by decide +kernel
theorem dX3_layLooselyOn_103 : decode cX3_layLooselyOn 103 = .ok (.iadd, 1) := by decide +kernel
theorem dX3_layLooselyOn_104 : decode cX3_layLooselyOn 104 = .ok (.istore_n 3, 1) := by decide +kernel
theorem dX3_layLooselyOn_105 : decode cX3_layLooselyOn 105 = .ok (.iinc 5 1, 3) := by decide +kernel
theorem dX3_layLooselyOn_108 : decode cX3_layLooselyOn 108 = .ok (.goto (-98), 3) := by decide +kernel
theorem dX3_layLooselyOn_111 : decode cX3_layLooselyOn 111 = .ok (.iload 4, 2) := by decide +kernel
theorem dX3_layLooselyOn_113 : decode cX3_layLooselyOn 113 = .ok (.ireturn, 1) := by decide +kernel
theorem dX3_nearestPlace_0 : decode cX3_nearestPlace 0 = .ok (.iconst (-1), 1) := by decide +kernel
theorem dX3_nearestPlace_1 : decode cX3_nearestPlace 1 = .ok (.istore 5, 2) := by decide +kernel
theorem dX3_nearestPlace_3 : decode cX3_nearestPlace 3 = .ok (.iload 4, 2) := by decide +kernel
theorem dX3_nearestPlace_5 : decode cX3_nearestPlace 5 = .ok (.istore 6, 2) := by decide +kernel
theorem dX3_nearestPlace_7 : decode cX3_nearestPlace 7 = .ok (.iload 6, 2) := by decide +kernel
theorem dX3_nearestPlace_9 : decode cX3_nearestPlace 9 = .ok (.aload_n 1, 1) := by decide +kernel
theorem dX3_nearestPlace_10 : decode cX3_nearestPlace 10 = .ok (.invokevirtual 120, 3) := by decide +kernel
theorem dX3_nearestPlace_13 : decode cX3_nearestPlace 13 = .ok (.if_icmp .gt 59, 3) := by decide +kernel
theorem dX3_nearestPlace_16 : decode cX3_nearestPlace 16 = .ok (.iload 5, 2) := by decide +kernel
theorem dX3_nearestPlace_18 : decode cX3_nearestPlace 18 = .ok (.iconst (-1), 1) := by decide +kernel
theorem dX3_nearestPlace_19 : decode cX3_nearestPlace 19 = .ok (.if_icmp .eq 20, 3) := by decide +kernel
theorem dX3_nearestPlace_22 : decode cX3_nearestPlace 22 = .ok (.iload 6, 2) := by decide +kernel
theorem dX3_nearestPlace_24 : decode cX3_nearestPlace 24 = .ok (.iload_n 3, 1) := by decide +kernel
theorem dX3_nearestPlace_25 : decode cX3_nearestPlace 25 = .ok (.isub, 1) := by decide +kernel
theorem dX3_nearestPlace_26 : decode cX3_nearestPlace 26 = .ok (.invokestatic 130, 3) := by decide +kernel
theorem dX3_nearestPlace_29 : decode cX3_nearestPlace 29 = .ok (.iload 5, 2) := by decide +kernel
theorem dX3_nearestPlace_31 : decode cX3_nearestPlace 31 = .ok (.iload_n 3, 1) := by decide +kernel
theorem dX3_nearestPlace_32 : decode cX3_nearestPlace 32 = .ok (.isub, 1) := by decide +kernel
theorem dX3_nearestPlace_33 : decode cX3_nearestPlace 33 = .ok (.invokestatic 130, 3) := by decide +kernel
theorem dX3_nearestPlace_36 : decode cX3_nearestPlace 36 = .ok (.if_icmp .ge 7, 3) := by decide +kernel
theorem dX3_nearestPlace_39 : decode cX3_nearestPlace 39 = .ok (.iconst 1, 1) := by decide +kernel
theorem dX3_nearestPlace_40 : decode cX3_nearestPlace 40 = .ok (.goto 4, 3) := by decide +kernel
theorem dX3_nearestPlace_43 : decode cX3_nearestPlace 43 = .ok (.iconst 0, 1) := by decide +kernel
theorem dX3_nearestPlace_44 : decode cX3_nearestPlace 44 = .ok (.istore 7, 2) := by decide +kernel
theorem dX3_nearestPlace_46 : decode cX3_nearestPlace 46 = .ok (.iload 7, 2) := by decide +kernel
theorem dX3_nearestPlace_48 : decode cX3_nearestPlace 48 = .ok (.ifCond .eq 18, 3) := by decide +kernel
theorem dX3_nearestPlace_51 : decode cX3_nearestPlace 51 = .ok (.aload_n 0, 1) := by decide +kernel
theorem dX3_nearestPlace_52 : decode cX3_nearestPlace 52 = .ok (.aload_n 1, 1) := by decide +kernel
theorem dX3_nearestPlace_53 : decode cX3_nearestPlace 53 = .ok (.iload_n 2, 1) := by decide +kernel
theorem dX3_nearestPlace_54 : decode cX3_nearestPlace 54 = .ok (.iload 6, 2) := by decide +kernel
theorem dX3_nearestPlace_56 : decode cX3_nearestPlace 56 = .ok (.invokevirtual 108, 3) := by decide +kernel
theorem dX3_nearestPlace_59 : decode cX3_nearestPlace 59 = .ok (.ifCond .eq 7, 3) := by decide +kernel
theorem dX3_nearestPlace_62 : decode cX3_nearestPlace 62 = .ok (.iload 6, 2) := by decide +kernel
theorem dX3_nearestPlace_64 : decode cX3_nearestPlace 64 = .ok (.istore 5, 2) := by decide +kernel
theorem dX3_nearestPlace_66 : decode cX3_nearestPlace 66 = .ok (.iinc 6 1, 3) := by decide +kernel
theorem dX3_nearestPlace_69 : decode cX3_nearestPlace 69 = .ok (.goto (-62), 3) := by decide +kernel
theorem dX3_nearestPlace_72 : decode cX3_nearestPlace 72 = .ok (.iload 5, 2) := by decide +kernel
theorem dX3_nearestPlace_74 : decode cX3_nearestPlace 74 = .ok (.ireturn, 1) := by decide +kernel
theorem dX3_replace_0 : decode cX3_replace 0 = .ok (.iconst 0, 1) := by decide +kernel
theorem dX3_replace_1 : decode cX3_replace 1 = .ok (.istore 4, 2) := by decide +kernel
theorem dX3_replace_3 : decode cX3_replace 3 = .ok (.iload 4, 2) := by decide +kernel
theorem dX3_replace_5 : decode cX3_replace 5 = .ok (.aload_n 0, 1) := by decide +kernel
theorem dX3_replace_6 : decode cX3_replace 6 = .ok (.iload_n 2, 1) := by decide +kernel
theorem dX3_replace_7 : decode cX3_replace 7 = .ok (.invokevirtual 48, 3) := by decide +kernel
theorem dX3_replace_10 : decode cX3_replace 10 = .ok (.if_icmp .ge 14, 3) := by decide +kernel
theorem dX3_replace_13 : decode cX3_replace 13 = .ok (.aload_n 1, 1) := by decide +kernel
theorem dX3_replace_14 : decode cX3_replace 14 = .ok (.iload_n 3, 1) := by decide +kernel
theorem dX3_replace_15 : decode cX3_replace 15 = .ok (.invokevirtual 133, 3) := by decide +kernel
theorem dX3_replace_18 : decode cX3_replace 18 = .ok (.iinc 4 1, 3) := by decide +kernel
theorem dX3_replace_21 : decode cX3_replace 21 = .ok (.goto (-18), 3) := by decide +kernel
theorem dX3_replace_24 : decode cX3_replace 24 = .ok (.iconst 0, 1) := by decide +kernel
theorem dX3_replace_25 : decode cX3_replace 25 = .ok (.istore 4, 2) := by decide +kernel
theorem dX3_replace_27 : decode cX3_replace 27 = .ok (.iload 4, 2) := by decide +kernel
theorem dX3_replace_29 : decode cX3_replace 29 = .ok (.aload_n 0, 1) := by decide +kernel
theorem dX3_replace_30 : decode cX3_replace 30 = .ok (.iload_n 2, 1) := by decide +kernel
theorem dX3_replace_31 : decode cX3_replace 31 = .ok (.invokevirtual 51, 3) := by decide +kernel
theorem dX3_replace_34 : decode cX3_replace 34 = .ok (.if_icmp .ge 24, 3) := by decide +kernel
theorem dX3_replace_37 : decode cX3_replace 37 = .ok (.aload_n 1, 1) := by decide +kernel
theorem dX3_replace_38 : decode cX3_replace 38 = .ok (.iload_n 3, 1) := by decide +kernel
theorem dX3_replace_39 : decode cX3_replace 39 = .ok (.iload 4, 2) := by decide +kernel
theorem dX3_replace_41 : decode cX3_replace 41 = .ok (.iadd, 1) := by decide +kernel
theorem dX3_replace_42 : decode cX3_replace 42 = .ok (.aload_n 0, 1) := by decide +kernel
theorem dX3_replace_43 : decode cX3_replace 43 = .ok (.iload_n 2, 1) := by decide +kernel
theorem dX3_replace_44 : decode cX3_replace 44 = .ok (.iload 4, 2) := by decide +kernel
theorem dX3_replace_46 : decode cX3_replace 46 = .ok (.invokevirtual 92, 3) := by decide +kernel
theorem dX3_replace_49 : decode cX3_replace 49 = .ok (.invokevirtual 136, 3) := by decide +kernel
theorem dX3_replace_52 : decode cX3_replace 52 = .ok (.iinc 4 1, 3) := by decide +kernel
theorem dX3_replace_55 : decode cX3_replace 55 = .ok (.goto (-28), 3) := by decide +kernel
theorem dX3_replace_58 : decode cX3_replace 58 = .ok (.return_, 1) := by decide +kernel
theorem dX3_standsAt_0 : decode cX3_standsAt 0 = .ok (.iload_n 3, 1) := by decide +kernel
theorem dX3_standsAt_1 : decode cX3_standsAt 1 = .ok (.aload_n 0, 1) := by decide +kernel
theorem dX3_standsAt_2 : decode cX3_standsAt 2 = .ok (.iload_n 2, 1) := by decide +kernel
theorem dX3_standsAt_3 : decode cX3_standsAt 3 = .ok (.invokevirtual 48, 3) := by decide +kernel
theorem dX3_standsAt_6 : decode cX3_standsAt 6 = .ok (.iadd, 1) := by decide +kernel
theorem dX3_standsAt_7 : decode cX3_standsAt 7 = .ok (.aload_n 1, 1) := by decide +kernel
theorem dX3_standsAt_8 : decode cX3_standsAt 8 = .ok (.invokevirtual 120, 3) := by decide +kernel
theorem dX3_standsAt_11 : decode cX3_standsAt 11 = .ok (.if_icmp .le 5, 3) := by decide +kernel
theorem dX3_standsAt_14 : decode cX3_standsAt 14 = .ok (.iconst 0, 1) := by decide +kernel
theorem dX3_standsAt_15 : decode cX3_standsAt 15 = .ok (.ireturn, 1) := by decide +kernel
theorem dX3_standsAt_16 : decode cX3_standsAt 16 = .ok (.iconst 0, 1) := by decide +kernel
theorem dX3_standsAt_17 : decode cX3_standsAt 17 = .ok (.istore 4, 2) := by decide +kernel
theorem dX3_standsAt_19 : decode cX3_standsAt 19 = .ok (.iload 4, 2) := by decide +kernel
theorem dX3_standsAt_21 : decode cX3_standsAt 21 = .ok (.aload_n 0, 1) := by decide +kernel
theorem dX3_standsAt_22 : decode cX3_standsAt 22 = .ok (.iload_n 2, 1) := by decide +kernel
theorem dX3_standsAt_23 : decode cX3_standsAt 23 = .ok (.invokevirtual 48, 3) := by decide +kernel
theorem dX3_standsAt_26 : decode cX3_standsAt 26 = .ok (.if_icmp .ge 29, 3) := by decide +kernel
theorem dX3_standsAt_29 : decode cX3_standsAt 29 = .ok (.aload_n 1, 1) := by decide +kernel
theorem dX3_standsAt_30 : decode cX3_standsAt 30 = .ok (.iload_n 3, 1) := by decide +kernel
theorem dX3_standsAt_31 : decode cX3_standsAt 31 = .ok (.iload 4, 2) := by decide +kernel
theorem dX3_standsAt_33 : decode cX3_standsAt 33 = .ok (.iadd, 1) := by decide +kernel
theorem dX3_standsAt_34 : decode cX3_standsAt 34 = .ok (.invokevirtual 67, 3) := by decide +kernel
theorem dX3_standsAt_37 : decode cX3_standsAt 37 = .ok (.aload_n 0, 1) := by decide +kernel
theorem dX3_standsAt_38 : decode cX3_standsAt 38 = .ok (.iload_n 2, 1) := by decide +kernel
theorem dX3_standsAt_39 : decode cX3_standsAt 39 = .ok (.iload 4, 2) := by decide +kernel
theorem dX3_standsAt_41 : decode cX3_standsAt 41 = .ok (.invokevirtual 89, 3) := by decide +kernel
theorem dX3_standsAt_44 : decode cX3_standsAt 44 = .ok (.if_icmp .eq 5, 3) := by decide +kernel
theorem dX3_standsAt_47 : decode cX3_standsAt 47 = .ok (.iconst 0, 1) := by decide +kernel
theorem dX3_standsAt_48 : decode cX3_standsAt 48 = .ok (.ireturn, 1) := by decide +kernel
theorem dX3_standsAt_49 : decode cX3_standsAt 49 = .ok (.iinc 4 1, 3) := by decide +kernel
theorem dX3_standsAt_52 : decode cX3_standsAt 52 = .ok (.goto (-33), 3) := by decide +kernel
theorem dX3_standsAt_55 : decode cX3_standsAt 55 = .ok (.iconst 1, 1) := by decide +kernel
theorem dX3_standsAt_56 : decode cX3_standsAt 56 = .ok (.ireturn, 1) := by decide +kernel
theorem dX3_isAlike_0 : decode cX3_isAlike 0 = .ok (.aload_n 0, 1) := by decide +kernel
theorem dX3_isAlike_1 : decode cX3_isAlike 1 = .ok (.iload_n 1, 1) := by decide +kernel
theorem dX3_isAlike_2 : decode cX3_isAlike 2 = .ok (.invokevirtual 48, 3) := by decide +kernel
theorem dX3_isAlike_5 : decode cX3_isAlike 5 = .ok (.aload_n 2, 1) := by decide +kernel
theorem dX3_isAlike_6 : decode cX3_isAlike 6 = .ok (.iload_n 3, 1) := by decide +kernel
theorem dX3_isAlike_7 : decode cX3_isAlike 7 = .ok (.invokevirtual 48, 3) := by decide +kernel
theorem dX3_isAlike_10 : decode cX3_isAlike 10 = .ok (.if_icmp .ne 20, 3) := by decide +kernel
theorem dX3_isAlike_13 : decode cX3_isAlike 13 = .ok (.aload_n 0, 1) := by decide +kernel
theorem dX3_isAlike_14 : decode cX3_isAlike 14 = .ok (.iload_n 1, 1) := by decide +kernel
theorem dX3_isAlike_15 : decode cX3_isAlike 15 = .ok (.invokevirtual 51, 3) := by decide +kernel
theorem dX3_isAlike_18 : decode cX3_isAlike 18 = .ok (.aload_n 2, 1) := by decide +kernel
theorem dX3_isAlike_19 : decode cX3_isAlike 19 = .ok (.iload_n 3, 1) := by decide +kernel
theorem dX3_isAlike_20 : decode cX3_isAlike 20 = .ok (.invokevirtual 51, 3) := by decide +kernel
theorem dX3_isAlike_23 : decode cX3_isAlike 23 = .ok (.if_icmp .ne 7, 3) := by decide +kernel
theorem dX3_isAlike_26 : decode cX3_isAlike 26 = .ok (.iconst 1, 1) := by decide +kernel
theorem dX3_isAlike_27 : decode cX3_isAlike 27 = .ok (.goto 4, 3) := by decide +kernel
theorem dX3_isAlike_30 : decode cX3_isAlike 30 = .ok (.iconst 0, 1) := by decide +kernel
theorem dX3_isAlike_31 : decode cX3_isAlike 31 = .ok (.istore 4, 2) := by decide +kernel
theorem dX3_isAlike_33 : decode cX3_isAlike 33 = .ok (.iload 4, 2) := by decide +kernel
theorem dX3_isAlike_35 : decode cX3_isAlike 35 = .ok (.ifCond .eq 20, 3) := by decide +kernel
theorem dX3_isAlike_38 : decode cX3_isAlike 38 = .ok (.aload_n 0, 1) := by decide +kernel
theorem dX3_isAlike_39 : decode cX3_isAlike 39 = .ok (.iload_n 1, 1) := by decide +kernel
theorem dX3_isAlike_40 : decode cX3_isAlike 40 = .ok (.invokevirtual 45, 3) := by decide +kernel
theorem dX3_isAlike_43 : decode cX3_isAlike 43 = .ok (.aload_n 2, 1) := by decide +kernel
theorem dX3_isAlike_44 : decode cX3_isAlike 44 = .ok (.iload_n 3, 1) := by decide +kernel
theorem dX3_isAlike_45 : decode cX3_isAlike 45 = .ok (.invokevirtual 45, 3) := by decide +kernel
theorem dX3_isAlike_48 : decode cX3_isAlike 48 = .ok (.if_icmp .ne 7, 3) := by decide +kernel
theorem dX3_isAlike_51 : decode cX3_isAlike 51 = .ok (.iconst 1, 1) := by decide +kernel
theorem dX3_isAlike_52 : decode cX3_isAlike 52 = .ok (.goto 4, 3) := by decide +kernel
theorem dX3_isAlike_55 : decode cX3_isAlike 55 = .ok (.iconst 0, 1) := by decide +kernel
theorem dX3_isAlike_56 : decode cX3_isAlike 56 = .ok (.istore 5, 2) := by decide +kernel
theorem dX3_isAlike_58 : decode cX3_isAlike 58 = .ok (.iconst 0, 1) := by decide +kernel
theorem dX3_isAlike_59 : decode cX3_isAlike 59 = .ok (.istore 6, 2) := by decide +kernel
theorem dX3_isAlike_61 : decode cX3_isAlike 61 = .ok (.iload 5, 2) := by decide +kernel
theorem dX3_isAlike_63 : decode cX3_isAlike 63 = .ok (.ifCond .eq 43, 3) := by decide +kernel
theorem dX3_isAlike_66 : decode cX3_isAlike 66 = .ok (.iload 6, 2) := by decide +kernel
theorem dX3_isAlike_68 : decode cX3_isAlike 68 = .ok (.aload_n 0, 1) := by decide +kernel
theorem dX3_isAlike_69 : decode cX3_isAlike 69 = .ok (.iload_n 1, 1) := by decide +kernel
theorem dX3_isAlike_70 : decode cX3_isAlike 70 = .ok (.invokevirtual 48, 3) := by decide +kernel
theorem dX3_isAlike_73 : decode cX3_isAlike 73 = .ok (.if_icmp .ge 33, 3) := by decide +kernel
theorem dX3_isAlike_76 : decode cX3_isAlike 76 = .ok (.aload_n 0, 1) := by decide +kernel
theorem dX3_isAlike_77 : decode cX3_isAlike 77 = .ok (.iload_n 1, 1) := by decide +kernel
theorem dX3_isAlike_78 : decode cX3_isAlike 78 = .ok (.iload 6, 2) := by decide +kernel
theorem dX3_isAlike_80 : decode cX3_isAlike 80 = .ok (.invokevirtual 89, 3) := by decide +kernel
theorem dX3_isAlike_83 : decode cX3_isAlike 83 = .ok (.aload_n 2, 1) := by decide +kernel
theorem dX3_isAlike_84 : decode cX3_isAlike 84 = .ok (.iload_n 3, 1) := by decide +kernel
theorem dX3_isAlike_85 : decode cX3_isAlike 85 = .ok (.iload 6, 2) := by decide +kernel
theorem dX3_isAlike_87 : decode cX3_isAlike 87 = .ok (.invokevirtual 89, 3) := by decide +kernel
theorem dX3_isAlike_90 : decode cX3_isAlike 90 = .ok (.if_icmp .ne 7, 3) := by decide +kernel
theorem dX3_isAlike_93 : decode cX3_isAlike 93 = .ok (.iconst 1, 1) := by decide +kernel
theorem dX3_isAlike_94 : decode cX3_isAlike 94 = .ok (.goto 4, 3) := by decide +kernel
theorem dX3_isAlike_97 : decode cX3_isAlike 97 = .ok (.iconst 0, 1) := by decide +kernel
theorem dX3_isAlike_98 : decode cX3_isAlike 98 = .ok (.istore 5, 2) := by decide +kernel
theorem dX3_isAlike_100 : decode cX3_isAlike 100 = .ok (.iinc 6 1, 3) := by decide +kernel
theorem dX3_isAlike_103 : decode cX3_isAlike 103 = .ok (.goto (-42), 3) := by decide +kernel
theorem dX3_isAlike_106 : decode cX3_isAlike 106 = .ok (.iconst 0, 1) := by decide +kernel
theorem dX3_isAlike_107 : decode cX3_isAlike 107 = .ok (.istore 6, 2) := by decide +kernel
theorem dX3_isAlike_109 : decode cX3_isAlike 109 = .ok (.iload 5, 2) := by decide +kernel
theorem dX3_isAlike_111 : decode cX3_isAlike 111 = .ok (.ifCond .eq 43, 3) := by decide +kernel
theorem dX3_isAlike_114 : decode cX3_isAlike 114 = .ok (.iload 6, 2) := by decide +kernel
theorem dX3_isAlike_116 : decode cX3_isAlike 116 = .ok (.aload_n 0, 1) := by decide +kernel
theorem dX3_isAlike_117 : decode cX3_isAlike 117 = .ok (.iload_n 1, 1) := by decide +kernel
theorem dX3_isAlike_118 : decode cX3_isAlike 118 = .ok (.invokevirtual 51, 3) := by decide +kernel
theorem dX3_isAlike_121 : decode cX3_isAlike 121 = .ok (.if_icmp .ge 33, 3) := by decide +kernel
theorem dX3_isAlike_124 : decode cX3_isAlike 124 = .ok (.aload_n 0, 1) := by decide +kernel
theorem dX3_isAlike_125 : decode cX3_isAlike 125 = .ok (.iload_n 1, 1) := by decide +kernel
theorem dX3_isAlike_126 : decode cX3_isAlike 126 = .ok (.iload 6, 2) := by decide +kernel
theorem dX3_isAlike_128 : decode cX3_isAlike 128 = .ok (.invokevirtual 92, 3) := by decide +kernel
theorem dX3_isAlike_131 : decode cX3_isAlike 131 = .ok (.aload_n 2, 1) := by decide +kernel
theorem dX3_isAlike_132 : decode cX3_isAlike 132 = .ok (.iload_n 3, 1) := by decide +kernel
theorem dX3_isAlike_133 : decode cX3_isAlike 133 = .ok (.iload 6, 2) := by decide +kernel
theorem dX3_isAlike_135 : decode cX3_isAlike 135 = .ok (.invokevirtual 92, 3) := by decide +kernel
theorem dX3_isAlike_138 : decode cX3_isAlike 138 = .ok (.if_icmp .ne 7, 3) := by decide +kernel
theorem dX3_isAlike_141 : decode cX3_isAlike 141 = .ok (.iconst 1, 1) := by decide +kernel
theorem dX3_isAlike_142 : decode cX3_isAlike 142 = .ok (.goto 4, 3) := by decide +kernel
theorem dX3_isAlike_145 : decode cX3_isAlike 145 = .ok (.iconst 0, 1) := by decide +kernel
theorem dX3_isAlike_146 : decode cX3_isAlike 146 = .ok (.istore 5, 2) := by decide +kernel
theorem dX3_isAlike_148 : decode cX3_isAlike 148 = .ok (.iinc 6 1, 3) := by decide +kernel
theorem dX3_isAlike_151 : decode cX3_isAlike 151 = .ok (.goto (-42), 3) := by decide +kernel
theorem dX3_isAlike_154 : decode cX3_isAlike 154 = .ok (.iload 5, 2) := by decide +kernel
theorem dX3_isAlike_156 : decode cX3_isAlike 156 = .ok (.ireturn, 1) := by decide +kernel
theorem dX3_addLine_0 : decode cX3_addLine 0 = .ok (.aload_n 0, 1) := by decide +kernel
theorem dX3_addLine_1 : decode cX3_addLine 1 = .ok (.getfield 33, 3) := by decide +kernel
theorem dX3_addLine_4 : decode cX3_addLine 4 = .ok (.ifCond .le 12, 3) := by decide +kernel
theorem dX3_addLine_7 : decode cX3_addLine 7 = .ok (.aload_n 0, 1) := by decide +kernel
theorem dX3_addLine_8 : decode cX3_addLine 8 = .ok (.getfield 33, 3) := by decide +kernel
theorem dX3_addLine_11 : decode cX3_addLine 11 = .ok (.aload_n 1, 1) := by decide +kernel
theorem dX3_addLine_12 : decode cX3_addLine 12 = .ok (.arraylength, 1) := by decide +kernel
theorem dX3_addLine_13 : decode cX3_addLine 13 = .ok (.if_icmp .lt 4, 3) := by decide +kernel
theorem dX3_addLine_16 : decode cX3_addLine 16 = .ok (.return_, 1) := by decide +kernel
theorem dX3_addLine_17 : decode cX3_addLine 17 = .ok (.aload_n 1, 1) := by decide +kernel
theorem dX3_addLine_18 : decode cX3_addLine 18 = .ok (.aload_n 0, 1) := by decide +kernel
theorem dX3_addLine_19 : decode cX3_addLine 19 = .ok (.getfield 33, 3) := by decide +kernel
theorem dX3_addLine_22 : decode cX3_addLine 22 = .ok (.iaload, 1) := by decide +kernel
theorem dX3_addLine_23 : decode cX3_addLine 23 = .ok (.istore 4, 2) := by decide +kernel
theorem dX3_addLine_25 : decode cX3_addLine 25 = .ok (.iload 4, 2) := by decide +kernel
theorem dX3_addLine_27 : decode cX3_addLine 27 = .ok (.ifCond .lt 25, 3) := by decide +kernel
theorem dX3_addLine_30 : decode cX3_addLine 30 = .ok (.iload 4, 2) := by decide +kernel
theorem dX3_addLine_32 : decode cX3_addLine 32 = .ok (.aload_n 2, 1) := by decide +kernel
theorem dX3_addLine_33 : decode cX3_addLine 33 = .ok (.arraylength, 1) := by decide +kernel
theorem dX3_addLine_34 : decode cX3_addLine 34 = .ok (.if_icmp .ge 18, 3) := by decide +kernel
theorem dX3_addLine_37 : decode cX3_addLine 37 = .ok (.aload_n 2, 1) := by decide +kernel
theorem dX3_addLine_38 : decode cX3_addLine 38 = .ok (.iload 4, 2) := by decide +kernel
theorem dX3_addLine_40 : decode cX3_addLine 40 = .ok (.iload_n 3, 1) := by decide +kernel
theorem dX3_addLine_41 : decode cX3_addLine 41 = .ok (.iastore, 1) := by decide +kernel
theorem dX3_addLine_42 : decode cX3_addLine 42 = .ok (.aload_n 1, 1) := by decide +kernel
theorem dX3_addLine_43 : decode cX3_addLine 43 = .ok (.aload_n 0, 1) := by decide +kernel
theorem dX3_addLine_44 : decode cX3_addLine 44 = .ok (.getfield 33, 3) := by decide +kernel
theorem dX3_addLine_47 : decode cX3_addLine 47 = .ok (.iload 4, 2) := by decide +kernel
theorem dX3_addLine_49 : decode cX3_addLine 49 = .ok (.iconst 1, 1) := by decide +kernel
theorem dX3_addLine_50 : decode cX3_addLine 50 = .ok (.iadd, 1) := by decide +kernel
theorem dX3_addLine_51 : decode cX3_addLine 51 = .ok (.iastore, 1) := by decide +kernel
theorem dX3_addLine_52 : decode cX3_addLine 52 = .ok (.return_, 1) := by decide +kernel
theorem dX3_start_0 : decode cX3_start 0 = .ok (.iload_n 1, 1) := by decide +kernel
theorem dX3_start_1 : decode cX3_start 1 = .ok (.ifCond .lt 15, 3) := by decide +kernel
theorem dX3_start_4 : decode cX3_start 4 = .ok (.iload_n 1, 1) := by decide +kernel
theorem dX3_start_5 : decode cX3_start 5 = .ok (.aload_n 0, 1) := by decide +kernel
theorem dX3_start_6 : decode cX3_start 6 = .ok (.arraylength, 1) := by decide +kernel
theorem dX3_start_7 : decode cX3_start 7 = .ok (.if_icmp .ge 9, 3) := by decide +kernel
theorem dX3_start_10 : decode cX3_start 10 = .ok (.aload_n 0, 1) := by decide +kernel
theorem dX3_start_11 : decode cX3_start 11 = .ok (.iload_n 1, 1) := by decide +kernel
theorem dX3_start_12 : decode cX3_start 12 = .ok (.iaload, 1) := by decide +kernel
theorem dX3_start_13 : decode cX3_start 13 = .ok (.goto 4, 3) := by decide +kernel
theorem dX3_start_16 : decode cX3_start 16 = .ok (.iconst 0, 1) := by decide +kernel
theorem dX3_start_17 : decode cX3_start 17 = .ok (.ireturn, 1) := by decide +kernel
