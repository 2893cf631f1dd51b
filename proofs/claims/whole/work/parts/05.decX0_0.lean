theorem dX0_init_0 : decode cX0_init 0 = .ok (.aload_n 0, 1) := by decide +kernel
theorem dX0_init_1 : decode cX0_init 1 = .ok (.invokespecial 3, 3) := by decide +kernel
theorem dX0_init_4 : decode cX0_init 4 = .ok (.return_, 1) := by decide +kernel
theorem dX0_agree_0 : decode cX0_agree 0 = .ok (.iconst 0, 1) := by decide +kernel
theorem dX0_agree_1 : decode cX0_agree 1 = .ok (.istore_n 3, 1) := by decide +kernel
theorem dX0_agree_2 : decode cX0_agree 2 = .ok (.iload_n 3, 1) := by decide +kernel
theorem dX0_agree_3 : decode cX0_agree 3 = .ok (.aload_n 1, 1) := by decide +kernel
theorem dX0_agree_4 : decode cX0_agree 4 = .ok (.invokevirtual 9, 3) := by decide +kernel
theorem dX0_agree_7 : decode cX0_agree 7 = .ok (.if_icmp .ge 62, 3) := by decide +kernel
theorem dX0_agree_10 : decode cX0_agree 10 = .ok (.iconst 0, 1) := by decide +kernel
theorem dX0_agree_11 : decode cX0_agree 11 = .ok (.istore 4, 2) := by decide +kernel
theorem dX0_agree_13 : decode cX0_agree 13 = .ok (.iload 4, 2) := by decide +kernel
theorem dX0_agree_15 : decode cX0_agree 15 = .ok (.aload_n 1, 1) := by decide +kernel
theorem dX0_agree_16 : decode cX0_agree 16 = .ok (.iload_n 3, 1) := by decide +kernel
theorem dX0_agree_17 : decode cX0_agree 17 = .ok (.invokevirtual 15, 3) := by decide +kernel
theorem dX0_agree_20 : decode cX0_agree 20 = .ok (.if_icmp .ge 43, 3) := by decide +kernel
theorem dX0_agree_23 : decode cX0_agree 23 = .ok (.aload_n 2, 1) := by decide +kernel
theorem dX0_agree_24 : decode cX0_agree 24 = .ok (.aload_n 1, 1) := by decide +kernel
theorem dX0_agree_25 : decode cX0_agree 25 = .ok (.iload_n 3, 1) := by decide +kernel
theorem dX0_agree_26 : decode cX0_agree 26 = .ok (.invokevirtual 19, 3) := by decide +kernel
theorem dX0_agree_29 : decode cX0_agree 29 = .ok (.iload 4, 2) := by decide +kernel
theorem dX0_agree_31 : decode cX0_agree 31 = .ok (.iadd, 1) := by decide +kernel
theorem dX0_agree_32 : decode cX0_agree 32 = .ok (.invokevirtual 22, 3) := by decide +kernel
theorem dX0_agree_35 : decode cX0_agree 35 = .ok (.istore 5, 2) := by decide +kernel
theorem dX0_agree_37 : decode cX0_agree 37 = .ok (.iload 5, 2) := by decide +kernel
theorem dX0_agree_39 : decode cX0_agree 39 = .ok (.iconst (-1), 1) := by decide +kernel
theorem dX0_agree_40 : decode cX0_agree 40 = .ok (.if_icmp .eq 17, 3) := by decide +kernel
theorem dX0_agree_43 : decode cX0_agree 43 = .ok (.iload 5, 2) := by decide +kernel
theorem dX0_agree_45 : decode cX0_agree 45 = .ok (.aload_n 1, 1) := by decide +kernel
theorem dX0_agree_46 : decode cX0_agree 46 = .ok (.iload_n 3, 1) := by decide +kernel
theorem dX0_agree_47 : decode cX0_agree 47 = .ok (.iload 4, 2) := by decide +kernel
theorem dX0_agree_49 : decode cX0_agree 49 = .ok (.invokevirtual 25, 3) := by decide +kernel
theorem dX0_agree_52 : decode cX0_agree 52 = .ok (.if_icmp .eq 5, 3) := by decide +kernel
theorem dX0_agree_55 : decode cX0_agree 55 = .ok (.iconst 0, 1) := by decide +kernel
theorem dX0_agree_56 : decode cX0_agree 56 = .ok (.ireturn, 1) := by decide +kernel
theorem dX0_agree_57 : decode cX0_agree 57 = .ok (.iinc 4 1, 3) := by decide +kernel
theorem dX0_agree_60 : decode cX0_agree 60 = .ok (.goto (-47), 3) := by decide +kernel
theorem dX0_agree_63 : decode cX0_agree 63 = .ok (.iinc 3 1, 3) := by decide +kernel
theorem dX0_agree_66 : decode cX0_agree 66 = .ok (.goto (-64), 3) := by decide +kernel
theorem dX0_agree_69 : decode cX0_agree 69 = .ok (.iconst 1, 1) := by decide +kernel
theorem dX0_agree_70 : decode cX0_agree 70 = .ok (.ireturn, 1) := by decide +kernel
theorem dX0_anyTouch_0 : decode cX0_anyTouch 0 = .ok (.iconst 0, 1) := by decide +kernel
theorem dX0_anyTouch_1 : decode cX0_anyTouch 1 = .ok (.istore_n 3, 1) := by decide +kernel
theorem dX0_anyTouch_2 : decode cX0_anyTouch 2 = .ok (.iload_n 3, 1) := by decide +kernel
theorem dX0_anyTouch_3 : decode cX0_anyTouch 3 = .ok (.aload_n 1, 1) := by decide +kernel
theorem dX0_anyTouch_4 : decode cX0_anyTouch 4 = .ok (.invokevirtual 9, 3) := by decide +kernel
theorem dX0_anyTouch_7 : decode cX0_anyTouch 7 = .ok (.if_icmp .ge 28, 3) := by decide +kernel
theorem dX0_anyTouch_10 : decode cX0_anyTouch 10 = .ok (.aload_n 2, 1) := by decide +kernel
theorem dX0_anyTouch_11 : decode cX0_anyTouch 11 = .ok (.aload_n 1, 1) := by decide +kernel
theorem dX0_anyTouch_12 : decode cX0_anyTouch 12 = .ok (.iload_n 3, 1) := by decide +kernel
theorem dX0_anyTouch_13 : decode cX0_anyTouch 13 = .ok (.invokevirtual 19, 3) := by decide +kernel
theorem dX0_anyTouch_16 : decode cX0_anyTouch 16 = .ok (.aload_n 1, 1) := by decide +kernel
theorem dX0_anyTouch_17 : decode cX0_anyTouch 17 = .ok (.iload_n 3, 1) := by decide +kernel
theorem dX0_anyTouch_18 : decode cX0_anyTouch 18 = .ok (.invokevirtual 29, 3) := by decide +kernel
theorem dX0_anyTouch_21 : decode cX0_anyTouch 21 = .ok (.invokevirtual 32, 3) := by decide +kernel
theorem dX0_anyTouch_24 : decode cX0_anyTouch 24 = .ok (.ifCond .eq 5, 3) := by decide +kernel
theorem dX0_anyTouch_27 : decode cX0_anyTouch 27 = .ok (.iconst 1, 1) := by decide +kernel
theorem dX0_anyTouch_28 : decode cX0_anyTouch 28 = .ok (.ireturn, 1) := by decide +kernel
theorem dX0_anyTouch_29 : decode cX0_anyTouch 29 = .ok (.iinc 3 1, 3) := by decide +kernel
theorem dX0_anyTouch_32 : decode cX0_anyTouch 32 = .ok (.goto (-30), 3) := by decide +kernel
theorem dX0_anyTouch_35 : decode cX0_anyTouch 35 = .ok (.iconst 0, 1) := by decide +kernel
theorem dX0_anyTouch_36 : decode cX0_anyTouch 36 = .ok (.ireturn, 1) := by decide +kernel
theorem dX0_putTogether_0 : decode cX0_putTogether 0 = .ok (.aload_n 3, 1) := by decide +kernel
theorem dX0_putTogether_1 : decode cX0_putTogether 1 = .ok (.invokevirtual 36, 3) := by decide +kernel
theorem dX0_putTogether_4 : decode cX0_putTogether 4 = .ok (.aload_n 0, 1) := by decide +kernel
theorem dX0_putTogether_5 : decode cX0_putTogether 5 = .ok (.iconst 0, 1) := by decide +kernel
theorem dX0_putTogether_6 : decode cX0_putTogether 6 = .ok (.putfield 39, 3) := by decide +kernel
theorem dX0_putTogether_9 : decode cX0_putTogether 9 = .ok (.aload_n 0, 1) := by decide +kernel
theorem dX0_putTogether_10 : decode cX0_putTogether 10 = .ok (.iconst 0, 1) := by decide +kernel
theorem dX0_putTogether_11 : decode cX0_putTogether 11 = .ok (.putfield 45, 3) := by decide +kernel
theorem dX0_putTogether_14 : decode cX0_putTogether 14 = .ok (.iconst 0, 1) := by decide +kernel
theorem dX0_putTogether_15 : decode cX0_putTogether 15 = .ok (.istore 4, 2) := by decide +kernel
theorem dX0_putTogether_17 : decode cX0_putTogether 17 = .ok (.iload 4, 2) := by decide +kernel
theorem dX0_putTogether_19 : decode cX0_putTogether 19 = .ok (.aload_n 1, 1) := by decide +kernel
theorem dX0_putTogether_20 : decode cX0_putTogether 20 = .ok (.invokevirtual 9, 3) := by decide +kernel
theorem dX0_putTogether_23 : decode cX0_putTogether 23 = .ok (.aload_n 2, 1) := by decide +kernel
theorem dX0_putTogether_24 : decode cX0_putTogether 24 = .ok (.invokevirtual 9, 3) := by decide +kernel
theorem dX0_putTogether_27 : decode cX0_putTogether 27 = .ok (.iadd, 1) := by decide +kernel
theorem dX0_putTogether_28 : decode cX0_putTogether 28 = .ok (.if_icmp .ge 79, 3) := by decide +kernel
theorem dX0_putTogether_31 : decode cX0_putTogether 31 = .ok (.aload_n 0, 1) := by decide +kernel
theorem dX0_putTogether_32 : decode cX0_putTogether 32 = .ok (.getfield 39, 3) := by decide +kernel
theorem dX0_putTogether_35 : decode cX0_putTogether 35 = .ok (.aload_n 1, 1) := by decide +kernel
theorem dX0_putTogether_36 : decode cX0_putTogether 36 = .ok (.invokevirtual 9, 3) := by decide +kernel
theorem dX0_putTogether_39 : decode cX0_putTogether 39 = .ok (.if_icmp .lt 14, 3) := by decide +kernel
theorem dX0_putTogether_42 : decode cX0_putTogether 42 = .ok (.aload_n 0, 1) := by decide +kernel
theorem dX0_putTogether_43 : decode cX0_putTogether 43 = .ok (.getfield 45, 3) := by decide +kernel
theorem dX0_putTogether_46 : decode cX0_putTogether 46 = .ok (.aload_n 2, 1) := by decide +kernel
theorem dX0_putTogether_47 : decode cX0_putTogether 47 = .ok (.invokevirtual 9, 3) := by decide +kernel
theorem dX0_putTogether_50 : decode cX0_putTogether 50 = .ok (.if_icmp .ge 51, 3) := by decide +kernel
theorem dX0_putTogether_53 : decode cX0_putTogether 53 = .ok (.aload_n 0, 1) := by decide +kernel
theorem dX0_putTogether_54 : decode cX0_putTogether 54 = .ok (.aload_n 1, 1) := by decide +kernel
theorem dX0_putTogether_55 : decode cX0_putTogether 55 = .ok (.aload_n 2, 1) := by decide +kernel
theorem dX0_putTogether_56 : decode cX0_putTogether 56 = .ok (.invokevirtual 48, 3) := by decide +kernel
theorem dX0_putTogether_59 : decode cX0_putTogether 59 = .ok (.aload_n 3, 1) := by decide +kernel
theorem dX0_putTogether_60 : decode cX0_putTogether 60 = .ok (.aload_n 0, 1) := by decide +kernel
theorem dX0_putTogether_61 : decode cX0_putTogether 61 = .ok (.getfield 52, 3) := by decide +kernel
theorem dX0_putTogether_64 : decode cX0_putTogether 64 = .ok (.aload_n 1, 1) := by decide +kernel
theorem dX0_putTogether_65 : decode cX0_putTogether 65 = .ok (.aload_n 0, 1) := by decide +kernel
theorem dX0_putTogether_66 : decode cX0_putTogether 66 = .ok (.getfield 55, 3) := by decide +kernel
theorem dX0_putTogether_69 : decode cX0_putTogether 69 = .ok (.invokevirtual 58, 3) := by decide +kernel
theorem dX0_putTogether_72 : decode cX0_putTogether 72 = .ok (.isub, 1) := by decide +kernel
theorem dX0_putTogether_73 : decode cX0_putTogether 73 = .ok (.invokevirtual 61, 3) := by decide +kernel
theorem dX0_putTogether_76 : decode cX0_putTogether 76 = .ok (.aload_n 0, 1) := by decide +kernel
theorem dX0_putTogether_77 : decode cX0_putTogether 77 = .ok (.aload_n 1, 1) := by decide +kernel
theorem dX0_putTogether_78 : decode cX0_putTogether 78 = .ok (.aload_n 2, 1) := by decide +kernel
theorem dX0_putTogether_79 : decode cX0_putTogether 79 = .ok (.aload_n 3, 1) := by decide +kernel
theorem dX0_putTogether_80 : decode cX0_putTogether 80 = .ok (.invokevirtual 65, 3) := by decide +kernel
theorem dX0_putTogether_83 : decode cX0_putTogether 83 = .ok (.aload_n 0, 1) := by decide +kernel
theorem dX0_putTogether_84 : decode cX0_putTogether 84 = .ok (.aload_n 1, 1) := by decide +kernel
theorem dX0_putTogether_85 : decode cX0_putTogether 85 = .ok (.aload_n 2, 1) := by decide +kernel
theorem dX0_putTogether_86 : decode cX0_putTogether 86 = .ok (.aload_n 3, 1) := by decide +kernel
theorem dX0_putTogether_87 : decode cX0_putTogether 87 = .ok (.invokevirtual 69, 3) := by decide +kernel
theorem dX0_putTogether_90 : decode cX0_putTogether 90 = .ok (.aload_n 3, 1) := by decide +kernel
theorem dX0_putTogether_91 : decode cX0_putTogether 91 = .ok (.invokevirtual 72, 3) := by decide +kernel
theorem dX0_putTogether_94 : decode cX0_putTogether 94 = .ok (.ifCond .eq 7, 3) := by decide +kernel
theorem dX0_putTogether_97 : decode cX0_putTogether 97 = .ok (.aload_n 3, 1) := by decide +kernel
theorem dX0_putTogether_98 : decode cX0_putTogether 98 = .ok (.invokevirtual 76, 3) := by decide +kernel
theorem dX0_putTogether_101 : decode cX0_putTogether 101 = .ok (.iinc 4 1, 3) := by decide +kernel
theorem dX0_putTogether_104 : decode cX0_putTogether 104 = .ok (.goto (-87), 3) := by decide +kernel
theorem dX0_putTogether_107 : decode cX0_putTogether 107 = .ok (.return_, 1) := by decide +kernel
theorem dX0_moveAhead_0 : decode cX0_moveAhead 0 = .ok (.iconst 0, 1) := by decide +kernel
theorem dX0_moveAhead_1 : decode cX0_moveAhead 1 = .ok (.istore 4, 2) := by decide +kernel
theorem dX0_moveAhead_3 : decode cX0_moveAhead 3 = .ok (.iload 4, 2) := by decide +kernel
theorem dX0_moveAhead_5 : decode cX0_moveAhead 5 = .ok (.aload_n 2, 1) := by decide +kernel
theorem dX0_moveAhead_6 : decode cX0_moveAhead 6 = .ok (.invokevirtual 9, 3) := by decide +kernel
theorem dX0_moveAhead_9 : decode cX0_moveAhead 9 = .ok (.if_icmp .ge 75, 3) := by decide +kernel
theorem dX0_moveAhead_12 : decode cX0_moveAhead 12 = .ok (.iconst 0, 1) := by decide +kernel
theorem dX0_moveAhead_13 : decode cX0_moveAhead 13 = .ok (.istore 5, 2) := by decide +kernel
theorem dX0_moveAhead_15 : decode cX0_moveAhead 15 = .ok (.iconst 0, 1) := by decide +kernel
theorem dX0_moveAhead_16 : decode cX0_moveAhead 16 = .ok (.istore 6, 2) := by decide +kernel
theorem dX0_moveAhead_18 : decode cX0_moveAhead 18 = .ok (.iload 6, 2) := by decide +kernel
theorem dX0_moveAhead_20 : decode cX0_moveAhead 20 = .ok (.aload_n 1, 1) := by decide +kernel
theorem dX0_moveAhead_21 : decode cX0_moveAhead 21 = .ok (.invokevirtual 9, 3) := by decide +kernel
theorem dX0_moveAhead_24 : decode cX0_moveAhead 24 = .ok (.if_icmp .ge 34, 3) := by decide +kernel
theorem dX0_moveAhead_27 : decode cX0_moveAhead 27 = .ok (.iload 5, 2) := by decide +kernel
theorem dX0_moveAhead_29 : decode cX0_moveAhead 29 = .ok (.aload_n 1, 1) := by decide +kernel
theorem dX0_moveAhead_30 : decode cX0_moveAhead 30 = .ok (.iload 6, 2) := by decide +kernel
theorem dX0_moveAhead_32 : decode cX0_moveAhead 32 = .ok (.invokevirtual 19, 3) := by decide +kernel
theorem dX0_moveAhead_35 : decode cX0_moveAhead 35 = .ok (.aload_n 2, 1) := by decide +kernel
theorem dX0_moveAhead_36 : decode cX0_moveAhead 36 = .ok (.iload 4, 2) := by decide +kernel
theorem dX0_moveAhead_38 : decode cX0_moveAhead 38 = .ok (.invokevirtual 79, 3) := by decide +kernel
theorem dX0_moveAhead_41 : decode cX0_moveAhead 41 = .ok (.if_icmp .ge 7, 3) := by decide +kernel
theorem dX0_moveAhead_44 : decode cX0_moveAhead 44 = .ok (.iconst 1, 1) := by decide +kernel
theorem dX0_moveAhead_45 : decode cX0_moveAhead 45 = .ok (.goto 4, 3) := by decide +kernel
theorem dX0_moveAhead_48 : decode cX0_moveAhead 48 = .ok (.iconst 0, 1) := by decide +kernel
theorem dX0_moveAhead_49 : decode cX0_moveAhead 49 = .ok (.iadd, 1) := by decide +kernel
theorem dX0_moveAhead_50 : decode cX0_moveAhead 50 = .ok (.istore 5, 2) := by decide +kernel
theorem dX0_moveAhead_52 : decode cX0_moveAhead 52 = .ok (.iinc 6 1, 3) := by decide +kernel
theorem dX0_moveAhead_55 : decode cX0_moveAhead 55 = .ok (.goto (-37), 3) := by decide +kernel
theorem dX0_moveAhead_58 : decode cX0_moveAhead 58 = .ok (.aload_n 3, 1) := by decide +kernel
theorem dX0_moveAhead_59 : decode cX0_moveAhead 59 = .ok (.aload_n 2, 1) := by decide +kernel
theorem dX0_moveAhead_60 : decode cX0_moveAhead 60 = .ok (.iload 4, 2) := by decide +kernel
theorem dX0_moveAhead_62 : decode cX0_moveAhead 62 = .ok (.aload_n 2, 1) := by decide +kernel
theorem dX0_moveAhead_63 : decode cX0_moveAhead 63 = .ok (.iload 4, 2) := by decide +kernel
theorem dX0_moveAhead_65 : decode cX0_moveAhead 65 = .ok (.invokevirtual 79, 3) := by decide +kernel
theorem dX0_moveAhead_68 : decode cX0_moveAhead 68 = .ok (.aload_n 1, 1) := by decide +kernel
theorem dX0_moveAhead_69 : decode cX0_moveAhead 69 = .ok (.iload 5, 2) := by decide +kernel
theorem dX0_moveAhead_71 : decode cX0_moveAhead 71 = .ok (.invokevirtual 58, 3) := by decide +kernel
theorem dX0_moveAhead_74 : decode cX0_moveAhead 74 = .ok (.isub, 1) := by decide +kernel
theorem dX0_moveAhead_75 : decode cX0_moveAhead 75 = .ok (.invokevirtual 82, 3) := by decide +kernel
theorem dX0_moveAhead_78 : decode cX0_moveAhead 78 = .ok (.iinc 4 1, 3) := by decide +kernel
theorem dX0_moveAhead_81 : decode cX0_moveAhead 81 = .ok (.goto (-78), 3) := by decide +kernel
theorem dX0_moveAhead_84 : decode cX0_moveAhead 84 = .ok (.return_, 1) := by decide +kernel
theorem dX0_moveBehind_0 : decode cX0_moveBehind 0 = .ok (.iconst 0, 1) := by decide +kernel
theorem dX0_moveBehind_1 : decode cX0_moveBehind 1 = .ok (.istore 4, 2) := by decide +kernel
theorem dX0_moveBehind_3 : decode cX0_moveBehind 3 = .ok (.iload 4, 2) := by decide +kernel
theorem dX0_moveBehind_5 : decode cX0_moveBehind 5 = .ok (.aload_n 1, 1) := by decide +kernel
theorem dX0_moveBehind_6 : decode cX0_moveBehind 6 = .ok (.invokevirtual 9, 3) := by decide +kernel
theorem dX0_moveBehind_9 : decode cX0_moveBehind 9 = .ok (.if_icmp .ge 75, 3) := by decide +kernel
theorem dX0_moveBehind_12 : decode cX0_moveBehind 12 = .ok (.iconst 0, 1) := by decide +kernel
theorem dX0_moveBehind_13 : decode cX0_moveBehind 13 = .ok (.istore 5, 2) := by decide +kernel
theorem dX0_moveBehind_15 : decode cX0_moveBehind 15 = .ok (.iconst 0, 1) := by decide +kernel
theorem dX0_moveBehind_16 : decode cX0_moveBehind 16 = .ok (.istore 6, 2) := by decide +kernel
theorem dX0_moveBehind_18 : decode cX0_moveBehind 18 = .ok (.iload 6, 2) := by decide +kernel
theorem dX0_moveBehind_20 : decode cX0_moveBehind 20 = .ok (.aload_n 2, 1) := by decide +kernel
theorem dX0_moveBehind_21 : decode cX0_moveBehind 21 = .ok (.invokevirtual 9, 3) := by decide +kernel
theorem dX0_moveBehind_24 : decode cX0_moveBehind 24 = .ok (.if_icmp .ge 34, 3) := by decide +kernel
theorem dX0_moveBehind_27 : decode cX0_moveBehind 27 = .ok (.iload 5, 2) := by decide +kernel
theorem dX0_moveBehind_29 : decode cX0_moveBehind 29 = .ok (.aload_n 2, 1) := by decide +kernel
theorem dX0_moveBehind_30 : decode cX0_moveBehind 30 = .ok (.iload 6, 2) := by decide +kernel
theorem dX0_moveBehind_32 : decode cX0_moveBehind 32 = .ok (.invokevirtual 79, 3) := by decide +kernel
theorem dX0_moveBehind_35 : decode cX0_moveBehind 35 = .ok (.aload_n 1, 1) := by decide +kernel
theorem dX0_moveBehind_36 : decode cX0_moveBehind 36 = .ok (.iload 4, 2) := by decide +kernel
theorem dX0_moveBehind_38 : decode cX0_moveBehind 38 = .ok (.invokevirtual 19, 3) := by decide +kernel
theorem dX0_moveBehind_41 : decode cX0_moveBehind 41 = .ok (.if_icmp .ge 7, 3) := by decide +kernel
theorem dX0_moveBehind_44 : decode cX0_moveBehind 44 = .ok (.iconst 1, 1) := by decide +kernel
theorem dX0_moveBehind_45 : decode cX0_moveBehind 45 = .ok (.goto 4, 3) := by decide +kernel
theorem dX0_moveBehind_48 : decode cX0_moveBehind 48 = .ok (.iconst 0, 1) := by decide +kernel
theorem dX0_moveBehind_49 : decode cX0_moveBehind 49 = .ok (.iadd, 1) := by decide +kernel
theorem dX0_moveBehind_50 : decode cX0_moveBehind 50 = .ok (.istore 5, 2) := by decide +kernel
theorem dX0_moveBehind_52 : decode cX0_moveBehind 52 = .ok (.iinc 6 1, 3) := by decide +kernel
theorem dX0_moveBehind_55 : decode cX0_moveBehind 55 = .ok (.goto (-37), 3) := by decide +kernel
theorem dX0_moveBehind_58 : decode cX0_moveBehind 58 = .ok (.aload_n 3, 1) := by decide +kernel
theorem dX0_moveBehind_59 : decode cX0_moveBehind 59 = .ok (.aload_n 1, 1) := by decide +kernel
theorem dX0_moveBehind_60 : decode cX0_moveBehind 60 = .ok (.iload 4, 2) := by decide +kernel
theorem dX0_moveBehind_62 : decode cX0_moveBehind 62 = .ok (.aload_n 1, 1) := by decide +kernel
theorem dX0_moveBehind_63 : decode cX0_moveBehind 63 = .ok (.iload 4, 2) := by decide +kernel
theorem dX0_moveBehind_65 : decode cX0_moveBehind 65 = .ok (.invokevirtual 79, 3) := by decide +kernel
theorem dX0_moveBehind_68 : decode cX0_moveBehind 68 = .ok (.aload_n 2, 1) := by decide +kernel
theorem dX0_moveBehind_69 : decode cX0_moveBehind 69 = .ok (.iload 5, 2) := by decide +kernel
theorem dX0_moveBehind_71 : decode cX0_moveBehind 71 = .ok (.invokevirtual 58, 3) := by decide +kernel
theorem dX0_moveBehind_74 : decode cX0_moveBehind 74 = .ok (.iadd, 1) := by decide +kernel
theorem dX0_moveBehind_75 : decode cX0_moveBehind 75 = .ok (.invokevirtual 82, 3) := by decide +kernel
theorem dX0_moveBehind_78 : decode cX0_moveBehind 78 = .ok (.iinc 4 1, 3) := by decide +kernel
theorem dX0_moveBehind_81 : decode cX0_moveBehind 81 = .ok (.goto (-78), 3) := by decide +kernel
theorem dX0_moveBehind_84 : decode cX0_moveBehind 84 = .ok (.return_, 1) := by decide +kernel
theorem dX0_gather_0 : decode cX0_gather 0 = .ok (.aload_n 0, 1) := by decide +kernel
theorem dX0_gather_1 : decode cX0_gather 1 = .ok (.aload_n 0, 1) := by decide +kernel
theorem dX0_gather_2 : decode cX0_gather 2 = .ok (.getfield 39, 3) := by decide +kernel
theorem dX0_gather_5 : decode cX0_gather 5 = .ok (.putfield 55, 3) := by decide +kernel
theorem dX0_gather_8 : decode cX0_gather 8 = .ok (.aload_n 0, 1) := by decide +kernel
theorem dX0_gather_9 : decode cX0_gather 9 = .ok (.aload_n 0, 1) := by decide +kernel
theorem dX0_gather_10 : decode cX0_gather 10 = .ok (.getfield 45, 3) := by decide +kernel
theorem dX0_gather_13 : decode cX0_gather 13 = .ok (.putfield 86, 3) := by decide +kernel
theorem dX0_gather_16 : decode cX0_gather 16 = .ok (.aload_n 0, 1) := by decide +kernel
theorem dX0_gather_17 : decode cX0_gather 17 = .ok (.getfield 55, 3) := by decide +kernel
theorem dX0_gather_20 : decode cX0_gather 20 = .ok (.aload_n 1, 1) := by decide +kernel
theorem dX0_gather_21 : decode cX0_gather 21 = .ok (.invokevirtual 9, 3) := by decide +kernel
theorem dX0_gather_24 : decode cX0_gather 24 = .ok (.if_icmp .ge 7, 3) := by decide +kernel
theorem dX0_gather_27 : decode cX0_gather 27 = .ok (.iconst 1, 1) := by decide +kernel
theorem dX0_gather_28 : decode cX0_gather 28 = .ok (.goto 4, 3) := by decide +kernel
theorem dX0_gather_31 : decode cX0_gather 31 = .ok (.iconst 0, 1) := by decide +kernel
theorem dX0_gather_32 : decode cX0_gather 32 = .ok (.istore_n 3, 1) := by decide +kernel
theorem dX0_gather_33 : decode cX0_gather 33 = .ok (.aload_n 0, 1) := by decide +kernel
theorem dX0_gather_34 : decode cX0_gather 34 = .ok (.getfield 86, 3) := by decide +kernel
theorem dX0_gather_37 : decode cX0_gather 37 = .ok (.aload_n 2, 1) := by decide +kernel
theorem dX0_gather_38 : decode cX0_gather 38 = .ok (.invokevirtual 9, 3) := by decide +kernel
theorem dX0_gather_41 : decode cX0_gather 41 = .ok (.if_icmp .ge 7, 3) := by decide +kernel
theorem dX0_gather_44 : decode cX0_gather 44 = .ok (.iconst 1, 1) := by decide +kernel
theorem dX0_gather_45 : decode cX0_gather 45 = .ok (.goto 4, 3) := by decide +kernel
theorem dX0_gather_48 : decode cX0_gather 48 = .ok (.iconst 0, 1) := by decide +kernel
theorem dX0_gather_49 : decode cX0_gather 49 = .ok (.istore 4, 2) := by decide +kernel
theorem dX0_gather_51 : decode cX0_gather 51 = .ok (.aload_n 1, 1) := by decide +kernel
theorem dX0_gather_52 : decode cX0_gather 52 = .ok (.aload_n 0, 1) := by decide +kernel
theorem dX0_gather_53 : decode cX0_gather 53 = .ok (.getfield 55, 3) := by decide +kernel
theorem dX0_gather_56 : decode cX0_gather 56 = .ok (.invokevirtual 19, 3) := by decide +kernel
theorem dX0_gather_59 : decode cX0_gather 59 = .ok (.istore 5, 2) := by decide +kernel
theorem dX0_gather_61 : decode cX0_gather 61 = .ok (.aload_n 2, 1) := by decide +kernel
theorem dX0_gather_62 : decode cX0_gather 62 = .ok (.aload_n 0, 1) := by decide +kernel
theorem dX0_gather_63 : decode cX0_gather 63 = .ok (.getfield 86, 3) := by decide +kernel
theorem dX0_gather_66 : decode cX0_gather 66 = .ok (.invokevirtual 79, 3) := by decide +kernel
theorem dX0_gather_69 : decode cX0_gather 69 = .ok (.istore 6, 2) := by decide +kernel
theorem dX0_gather_71 : decode cX0_gather 71 = .ok (.aload_n 0, 1) := by decide +kernel
theorem dX0_gather_72 : decode cX0_gather 72 = .ok (.iload_n 3, 1) := by decide +kernel
theorem dX0_gather_73 : decode cX0_gather 73 = .ok (.ifCond .eq 20, 3) := by decide +kernel
theorem dX0_gather_76 : decode cX0_gather 76 = .ok (.iload 4, 2) := by decide +kernel
theorem dX0_gather_78 : decode cX0_gather 78 = .ok (.ifCond .eq 10, 3) := by decide +kernel
theorem dX0_gather_81 : decode cX0_gather 81 = .ok (.iload 5, 2) := by decide +kernel
theorem dX0_gather_83 : decode cX0_gather 83 = .ok (.iload 6, 2) := by decide +kernel
theorem dX0_gather_85 : decode cX0_gather 85 = .ok (.if_icmp .gt 8, 3) := by decide +kernel
theorem dX0_gather_88 : decode cX0_gather 88 = .ok (.iload 5, 2) := by decide +kernel
theorem dX0_gather_90 : decode cX0_gather 90 = .ok (.goto 5, 3) := by decide +kernel
theorem dX0_gather_93 : decode cX0_gather 93 = .ok (.iload 6, 2) := by decide +kernel
theorem dX0_gather_95 : decode cX0_gather 95 = .ok (.putfield 52, 3) := by decide +kernel
theorem dX0_gather_98 : decode cX0_gather 98 = .ok (.aload_n 0, 1) := by decide +kernel
theorem dX0_gather_99 : decode cX0_gather 99 = .ok (.aload_n 0, 1) := by decide +kernel
theorem dX0_gather_100 : decode cX0_gather 100 = .ok (.getfield 52, 3) := by decide +kernel
theorem dX0_gather_103 : decode cX0_gather 103 = .ok (.putfield 89, 3) := by decide +kernel
theorem dX0_gather_106 : decode cX0_gather 106 = .ok (.iconst 0, 1) := by decide +kernel
theorem dX0_gather_107 : decode cX0_gather 107 = .ok (.istore 7, 2) := by decide +kernel
theorem dX0_gather_109 : decode cX0_gather 109 = .ok (.iload 7, 2) := by decide +kernel
theorem dX0_gather_111 : decode cX0_gather 111 = .ok (.aload_n 1, 1) := by decide +kernel
theorem dX0_gather_112 : decode cX0_gather 112 = .ok (.invokevirtual 9, 3) := by decide +kernel
theorem dX0_gather_115 : decode cX0_gather 115 = .ok (.aload_n 2, 1) := by decide +kernel
theorem dX0_gather_116 : decode cX0_gather 116 = .ok (.invokevirtual 9, 3) := by decide +kernel
theorem dX0_gather_119 : decode cX0_gather 119 = .ok (.iadd, 1) := by decide +kernel
theorem dX0_gather_120 : decode cX0_gather 120 = .ok (.if_icmp .ge 122, 3) := by decide +kernel
theorem dX0_gather_123 : decode cX0_gather 123 = .ok (.aload_n 0, 1) := by decide +kernel
theorem dX0_gather_124 : decode cX0_gather 124 = .ok (.getfield 39, 3) := by decide +kernel
theorem dX0_gather_127 : decode cX0_gather 127 = .ok (.aload_n 1, 1) := by decide +kernel
theorem dX0_gather_128 : decode cX0_gather 128 = .ok (.invokevirtual 9, 3) := by decide +kernel
theorem dX0_gather_131 : decode cX0_gather 131 = .ok (.if_icmp .ge 50, 3) := by decide +kernel
theorem dX0_gather_134 : decode cX0_gather 134 = .ok (.aload_n 1, 1) := by decide +kernel
theorem dX0_gather_135 : decode cX0_gather 135 = .ok (.aload_n 0, 1) := by decide +kernel
theorem dX0_gather_136 : decode cX0_gather 136 = .ok (.getfield 39, 3) := by decide +kernel
theorem dX0_gather_139 : decode cX0_gather 139 = .ok (.invokevirtual 19, 3) := by decide +kernel
theorem dX0_gather_142 : decode cX0_gather 142 = .ok (.aload_n 0, 1) := by decide +kernel
theorem dX0_gather_143 : decode cX0_gather 143 = .ok (.getfield 89, 3) := by decide +kernel
theorem dX0_gather_146 : decode cX0_gather 146 = .ok (.if_icmp .gt 35, 3) := by decide +kernel
theorem dX0_gather_149 : decode cX0_gather 149 = .ok (.aload_n 0, 1) := by decide +kernel
theorem dX0_gather_150 : decode cX0_gather 150 = .ok (.aload_n 0, 1) := by decide +kernel
theorem dX0_gather_151 : decode cX0_gather 151 = .ok (.getfield 89, 3) := by decide +kernel
theorem dX0_gather_154 : decode cX0_gather 154 = .ok (.aload_n 1, 1) := by decide +kernel
theorem dX0_gather_155 : decode cX0_gather 155 = .ok (.aload_n 0, 1) := by decide +kernel
theorem dX0_gather_156 : decode cX0_gather 156 = .ok (.getfield 39, 3) := by decide +kernel
theorem dX0_gather_159 : decode cX0_gather 159 = .ok (.invokevirtual 29, 3) := by decide +kernel
theorem dX0_gather_162 : decode cX0_gather 162 = .ok (.invokestatic 92, 3) := by decide +kernel
theorem dX0_gather_165 : decode cX0_gather 165 = .ok (.putfield 89, 3) := by decide +kernel
theorem dX0_gather_168 : decode cX0_gather 168 = .ok (.aload_n 0, 1) := by decide +kernel
theorem dX0_gather_169 : decode cX0_gather 169 = .ok (.dup, 1) := by decide +kernel
theorem dX0_gather_170 : decode cX0_gather 170 = .ok (.getfield 39, 3) := by decide +kernel
theorem dX0_gather_173 : decode cX0_gather 173 = .ok (.iconst 1, 1) := by decide +kernel
theorem dX0_gather_174 : decode cX0_gather 174 = .ok (.iadd, 1) := by decide +kernel
theorem dX0_gather_175 : decode cX0_gather 175 = .ok (.putfield 39, 3) := by decide +kernel
theorem dX0_gather_178 : decode cX0_gather 178 = .ok (.goto 58, 3) := by decide +kernel
theorem dX0_gather_181 : decode cX0_gather 181 = .ok (.aload_n 0, 1) := by decide +kernel
theorem dX0_gather_182 : decode cX0_gather 182 = .ok (.getfield 45, 3) := by decide +kernel
theorem dX0_gather_185 : decode cX0_gather 185 = .ok (.aload_n 2, 1) := by decide +kernel
theorem dX0_gather_186 : decode cX0_gather 186 = .ok (.invokevirtual 9, 3) := by decide +kernel
theorem dX0_gather_189 : decode cX0_gather 189 = .ok (.if_icmp .ge 47, 3) := by decide +kernel
theorem dX0_gather_192 : decode cX0_gather 192 = .ok (.aload_n 2, 1) := by decide +kernel
theorem dX0_gather_193 : decode cX0_gather 193 = .ok (.aload_n 0, 1) := by decide +kernel
theorem dX0_gather_194 : decode cX0_gather 194 = .ok (.getfield 45, 3) := by decide +kernel
theorem dX0_gather_197 : decode cX0_gather 197 = .ok (.invokevirtual 79, 3) := by decide +kernel
theorem dX0_gather_200 : decode cX0_gather 200 = .ok (.aload_n 0, 1) := by decide +kernel
theorem dX0_gather_201 : decode cX0_gather 201 = .ok (.getfield 89, 3) := by decide +kernel
theorem dX0_gather_204 : decode cX0_gather 204 = .ok (.if_icmp .gt 32, 3) := by decide +kernel
theorem dX0_gather_207 : decode cX0_gather 207 = .ok (.aload_n 0, 1) := by decide +kernel
theorem dX0_gather_208 : decode cX0_gather 208 = .ok (.aload_n 0, 1) := by decide +kernel
theorem dX0_gather_209 : decode cX0_gather 209 = .ok (.getfield 89, 3) := by decide +kernel
theorem dX0_gather_212 : decode cX0_gather 212 = .ok (.aload_n 2, 1) := by decide +kernel
theorem dX0_gather_213 : decode cX0_gather 213 = .ok (.aload_n 0, 1) := by decide +kernel
theorem dX0_gather_214 : decode cX0_gather 214 = .ok (.getfield 45, 3) := by decide +kernel
theorem dX0_gather_217 : decode cX0_gather 217 = .ok (.invokevirtual 97, 3) := by decide +kernel
theorem dX0_gather_220 : decode cX0_gather 220 = .ok (.invokestatic 92, 3) := by decide +kernel
theorem dX0_gather_223 : decode cX0_gather 223 = .ok (.putfield 89, 3) := by decide +kernel
theorem dX0_gather_226 : decode cX0_gather 226 = .ok (.aload_n 0, 1) := by decide +kernel
theorem dX0_gather_227 : decode cX0_gather 227 = .ok (.dup, 1) := by decide +kernel
theorem dX0_gather_228 : decode cX0_gather 228 = .ok (.getfield 45, 3) := by decide +kernel
theorem dX0_gather_231 : decode cX0_gather 231 = .ok (.iconst 1, 1) := by decide +kernel
theorem dX0_gather_232 : decode cX0_gather 232 = .ok (.iadd, 1) := by decide +kernel
theorem dX0_gather_233 : decode cX0_gather 233 = .ok (.putfield 45, 3) := by decide +kernel
theorem dX0_gather_236 : decode cX0_gather 236 = .ok (.iinc 7 1, 3) := by decide +kernel
theorem dX0_gather_239 : decode cX0_gather 239 = .ok (.goto (-130), 3) := by decide +kernel
theorem dX0_gather_242 : decode cX0_gather 242 = .ok (.return_, 1) := by decide +kernel
theorem dX0_writeGoing_0 : decode cX0_writeGoing 0 = .ok (.aload_n 0, 1) := by decide +kernel
theorem dX0_writeGoing_1 : decode cX0_writeGoing 1 = .ok (.getfield 52, 3) := by decide +kernel
theorem dX0_writeGoing_4 : decode cX0_writeGoing 4 = .ok (.istore 4, 2) := by decide +kernel
theorem dX0_writeGoing_6 : decode cX0_writeGoing 6 = .ok (.aload_n 0, 1) := by decide +kernel
theorem dX0_writeGoing_7 : decode cX0_writeGoing 7 = .ok (.getfield 55, 3) := by decide +kernel
theorem dX0_writeGoing_10 : decode cX0_writeGoing 10 = .ok (.istore 5, 2) := by decide +kernel
theorem dX0_writeGoing_12 : decode cX0_writeGoing 12 = .ok (.iload 5, 2) := by decide +kernel
theorem dX0_writeGoing_14 : decode cX0_writeGoing 14 = .ok (.aload_n 0, 1) := by decide +kernel
theorem dX0_writeGoing_15 : decode cX0_writeGoing 15 = .ok (.getfield 39, 3) := by decide +kernel
theorem dX0_writeGoing_18 : decode cX0_writeGoing 18 = .ok (.if_icmp .ge 37, 3) := by decide +kernel
theorem dX0_writeGoing_21 : decode cX0_writeGoing 21 = .ok (.aload_n 2, 1) := by decide +kernel
theorem dX0_writeGoing_22 : decode cX0_writeGoing 22 = .ok (.iload 4, 2) := by decide +kernel
theorem dX0_writeGoing_24 : decode cX0_writeGoing 24 = .ok (.aload_n 1, 1) := by decide +kernel
theorem dX0_writeGoing_25 : decode cX0_writeGoing 25 = .ok (.iload 5, 2) := by decide +kernel
theorem dX0_writeGoing_27 : decode cX0_writeGoing 27 = .ok (.invokevirtual 19, 3) := by decide +kernel
theorem dX0_writeGoing_30 : decode cX0_writeGoing 30 = .ok (.aload_n 3, 1) := by decide +kernel
theorem dX0_writeGoing_31 : decode cX0_writeGoing 31 = .ok (.invokestatic 100, 3) := by decide +kernel
theorem dX0_writeGoing_34 : decode cX0_writeGoing 34 = .ok (.aload_n 3, 1) := by decide +kernel
theorem dX0_writeGoing_35 : decode cX0_writeGoing 35 = .ok (.aload_n 1, 1) := by decide +kernel
theorem dX0_writeGoing_36 : decode cX0_writeGoing 36 = .ok (.iload 5, 2) := by decide +kernel
theorem dX0_writeGoing_38 : decode cX0_writeGoing 38 = .ok (.invokevirtual 104, 3) := by decide +kernel
theorem dX0_writeGoing_41 : decode cX0_writeGoing 41 = .ok (.aload_n 1, 1) := by decide +kernel
theorem dX0_writeGoing_42 : decode cX0_writeGoing 42 = .ok (.iload 5, 2) := by decide +kernel
theorem dX0_writeGoing_44 : decode cX0_writeGoing 44 = .ok (.invokevirtual 29, 3) := by decide +kernel
theorem dX0_writeGoing_47 : decode cX0_writeGoing 47 = .ok (.istore 4, 2) := by decide +kernel
theorem dX0_writeGoing_49 : decode cX0_writeGoing 49 = .ok (.iinc 5 1, 3) := by decide +kernel
theorem dX0_writeGoing_52 : decode cX0_writeGoing 52 = .ok (.goto (-40), 3) := by decide +kernel
theorem dX0_writeGoing_55 : decode cX0_writeGoing 55 = .ok (.aload_n 2, 1) := by decide +kernel
theorem dX0_writeGoing_56 : decode cX0_writeGoing 56 = .ok (.iload 4, 2) := by decide +kernel
theorem dX0_writeGoing_58 : decode cX0_writeGoing 58 = .ok (.aload_n 0, 1) := by decide +kernel
theorem dX0_writeGoing_59 : decode cX0_writeGoing 59 = .ok (.getfield 89, 3) := by decide +kernel
theorem dX0_writeGoing_62 : decode cX0_writeGoing 62 = .ok (.aload_n 3, 1) := by decide +kernel
theorem dX0_writeGoing_63 : decode cX0_writeGoing 63 = .ok (.invokestatic 100, 3) := by decide +kernel
theorem dX0_writeGoing_66 : decode cX0_writeGoing 66 = .ok (.return_, 1) := by decide +kernel
theorem dX0_writeComing_0 : decode cX0_writeComing 0 = .ok (.aload_n 0, 1) := by decide +kernel
theorem dX0_writeComing_1 : decode cX0_writeComing 1 = .ok (.getfield 52, 3) := by decide +kernel
theorem dX0_writeComing_4 : decode cX0_writeComing 4 = .ok (.istore 4, 2) := by decide +kernel
theorem dX0_writeComing_6 : decode cX0_writeComing 6 = .ok (.aload_n 0, 1) := by decide +kernel
theorem dX0_writeComing_7 : decode cX0_writeComing 7 = .ok (.getfield 86, 3) := by decide +kernel
theorem dX0_writeComing_10 : decode cX0_writeComing 10 = .ok (.istore 5, 2) := by decide +kernel
theorem dX0_writeComing_12 : decode cX0_writeComing 12 = .ok (.iload 5, 2) := by decide +kernel
theorem dX0_writeComing_14 : decode cX0_writeComing 14 = .ok (.aload_n 0, 1) := by decide +kernel
theorem dX0_writeComing_15 : decode cX0_writeComing 15 = .ok (.getfield 45, 3) := by decide +kernel
theorem dX0_writeComing_18 : decode cX0_writeComing 18 = .ok (.if_icmp .ge 37, 3) := by decide +kernel
theorem dX0_writeComing_21 : decode cX0_writeComing 21 = .ok (.aload_n 1, 1) := by decide +kernel
theorem dX0_writeComing_22 : decode cX0_writeComing 22 = .ok (.iload 4, 2) := by decide +kernel
theorem dX0_writeComing_24 : decode cX0_writeComing 24 = .ok (.aload_n 2, 1) := by decide +kernel
theorem dX0_writeComing_25 : decode cX0_writeComing 25 = .ok (.iload 5, 2) := by decide +kernel
theorem dX0_writeComing_27 : decode cX0_writeComing 27 = .ok (.invokevirtual 79, 3) := by decide +kernel
theorem dX0_writeComing_30 : decode cX0_writeComing 30 = .ok (.aload_n 3, 1) := by decide +kernel
theorem dX0_writeComing_31 : decode cX0_writeComing 31 = .ok (.invokestatic 108, 3) := by decide +kernel
theorem dX0_writeComing_34 : decode cX0_writeComing 34 = .ok (.aload_n 3, 1) := by decide +kernel
theorem dX0_writeComing_35 : decode cX0_writeComing 35 = .ok (.aload_n 2, 1) := by decide +kernel
theorem dX0_writeComing_36 : decode cX0_writeComing 36 = .ok (.iload 5, 2) := by decide +kernel
theorem dX0_writeComing_38 : decode cX0_writeComing 38 = .ok (.invokevirtual 111, 3) := by decide +kernel
theorem dX0_writeComing_41 : decode cX0_writeComing 41 = .ok (.aload_n 2, 1) := by decide +kernel
theorem dX0_writeComing_42 : decode cX0_writeComing 42 = .ok (.iload 5, 2) := by decide +kernel
theorem dX0_writeComing_44 : decode cX0_writeComing 44 = .ok (.invokevirtual 97, 3) := by decide +kernel
theorem dX0_writeComing_47 : decode cX0_writeComing 47 = .ok (.istore 4, 2) := by decide +kernel
theorem dX0_writeComing_49 : decode cX0_writeComing 49 = .ok (.iinc 5 1, 3) := by decide +kernel
theorem dX0_writeComing_52 : decode cX0_writeComing 52 = .ok (.goto (-40), 3) := by decide +kernel
theorem dX0_writeComing_55 : decode cX0_writeComing 55 = .ok (.aload_n 1, 1) := by decide +kernel
theorem dX0_writeComing_56 : decode cX0_writeComing 56 = .ok (.iload 4, 2) := by decide +kernel
theorem dX0_writeComing_58 : decode cX0_writeComing 58 = .ok (.aload_n 0, 1) := by decide +kernel
theorem dX0_writeComing_59 : decode cX0_writeComing 59 = .ok (.getfield 89, 3) := by decide +kernel
theorem dX0_writeComing_62 : decode cX0_writeComing 62 = .ok (.aload_n 3, 1) := by decide +kernel
theorem dX0_writeComing_63 : decode cX0_writeComing 63 = .ok (.invokestatic 108, 3) := by decide +kernel
theorem dX0_writeComing_66 : decode cX0_writeComing 66 = .ok (.return_, 1) := by decide +kernel
theorem dX0_addTaken_0 : decode cX0_addTaken 0 = .ok (.iload_n 1, 1) := by decide +kernel
theorem dX0_addTaken_1 : decode cX0_addTaken 1 = .ok (.istore 4, 2) := by decide +kernel
theorem dX0_addTaken_3 : decode cX0_addTaken 3 = .ok (.iload 4, 2) := by decide +kernel
theorem dX0_addTaken_5 : decode cX0_addTaken 5 = .ok (.iload_n 2, 1) := by decide +kernel
theorem dX0_addTaken_6 : decode cX0_addTaken 6 = .ok (.if_icmp .ge 19, 3) := by decide +kernel
theorem dX0_addTaken_9 : decode cX0_addTaken 9 = .ok (.aload_n 3, 1) := by decide +kernel
theorem dX0_addTaken_10 : decode cX0_addTaken 10 = .ok (.aload_n 0, 1) := by decide +kernel
theorem dX0_addTaken_11 : decode cX0_addTaken 11 = .ok (.iload 4, 2) := by decide +kernel
theorem dX0_addTaken_13 : decode cX0_addTaken 13 = .ok (.invokevirtual 22, 3) := by decide +kernel
theorem dX0_addTaken_16 : decode cX0_addTaken 16 = .ok (.invokevirtual 114, 3) := by decide +kernel
theorem dX0_addTaken_19 : decode cX0_addTaken 19 = .ok (.iinc 4 1, 3) := by decide +kernel
theorem dX0_addTaken_22 : decode cX0_addTaken 22 = .ok (.goto (-19), 3) := by decide +kernel
theorem dX0_addTaken_25 : decode cX0_addTaken 25 = .ok (.return_, 1) := by decide +kernel
theorem dX0_addBrought_0 : decode cX0_addBrought 0 = .ok (.iload_n 1, 1) := by decide +kernel
theorem dX0_addBrought_1 : decode cX0_addBrought 1 = .ok (.istore 4, 2) := by decide +kernel
theorem dX0_addBrought_3 : decode cX0_addBrought 3 = .ok (.iload 4, 2) := by decide +kernel
theorem dX0_addBrought_5 : decode cX0_addBrought 5 = .ok (.iload_n 2, 1) := by decide +kernel
theorem dX0_addBrought_6 : decode cX0_addBrought 6 = .ok (.if_icmp .ge 19, 3) := by decide +kernel
theorem dX0_addBrought_9 : decode cX0_addBrought 9 = .ok (.aload_n 3, 1) := by decide +kernel
theorem dX0_addBrought_10 : decode cX0_addBrought 10 = .ok (.aload_n 0, 1) := by decide +kernel
theorem dX0_addBrought_11 : decode cX0_addBrought 11 = .ok (.iload 4, 2) := by decide +kernel
theorem dX0_addBrought_13 : decode cX0_addBrought 13 = .ok (.invokevirtual 117, 3) := by decide +kernel
theorem dX0_addBrought_16 : decode cX0_addBrought 16 = .ok (.invokevirtual 120, 3) := by decide +kernel
theorem dX0_addBrought_19 : decode cX0_addBrought 19 = .ok (.iinc 4 1, 3) := by decide +kernel
theorem dX0_addBrought_22 : decode cX0_addBrought 22 = .ok (.goto (-19), 3) := by decide +kernel
theorem dX0_addBrought_25 : decode cX0_addBrought 25 = .ok (.return_, 1) := by decide +kernel
