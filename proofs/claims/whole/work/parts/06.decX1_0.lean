theorem dX1_init_0 : decode cX1_init 0 = .ok (.aload_n 0, 1) := by decide +kernel
theorem dX1_init_1 : decode cX1_init 1 = .ok (.invokespecial 3, 3) := by decide +kernel
theorem dX1_init_4 : decode cX1_init 4 = .ok (.aload_n 0, 1) := by decide +kernel
theorem dX1_init_5 : decode cX1_init 5 = .ok (.sipush 225, 3) := by decide +kernel
theorem dX1_init_8 : decode cX1_init 8 = .ok (.newarray .int, 2) := by decide +kernel
theorem dX1_init_10 : decode cX1_init 10 = .ok (.putfield 11, 3) := by decide +kernel
theorem dX1_init_13 : decode cX1_init 13 = .ok (.aload_n 0, 1) := by decide +kernel
theorem dX1_init_14 : decode cX1_init 14 = .ok (.bipush 14, 2) := by decide +kernel
theorem dX1_init_16 : decode cX1_init 16 = .ok (.newarray .int, 2) := by decide +kernel
theorem dX1_init_18 : decode cX1_init 18 = .ok (.putfield 15, 3) := by decide +kernel
theorem dX1_init_21 : decode cX1_init 21 = .ok (.return_, 1) := by decide +kernel
theorem dX1_find_0 : decode cX1_find 0 = .ok (.aload_n 1, 1) := by decide +kernel
theorem dX1_find_1 : decode cX1_find 1 = .ok (.invokevirtual 18, 3) := by decide +kernel
theorem dX1_find_4 : decode cX1_find 4 = .ok (.istore_n 3, 1) := by decide +kernel
theorem dX1_find_5 : decode cX1_find 5 = .ok (.iload_n 3, 1) := by decide +kernel
theorem dX1_find_6 : decode cX1_find 6 = .ok (.ifCond .lt 42, 3) := by decide +kernel
theorem dX1_find_9 : decode cX1_find 9 = .ok (.aload_n 2, 1) := by decide +kernel
theorem dX1_find_10 : decode cX1_find 10 = .ok (.invokevirtual 18, 3) := by decide +kernel
theorem dX1_find_13 : decode cX1_find 13 = .ok (.istore 4, 2) := by decide +kernel
theorem dX1_find_15 : decode cX1_find 15 = .ok (.iload 4, 2) := by decide +kernel
theorem dX1_find_17 : decode cX1_find 17 = .ok (.ifCond .lt 25, 3) := by decide +kernel
theorem dX1_find_20 : decode cX1_find 20 = .ok (.aload_n 0, 1) := by decide +kernel
theorem dX1_find_21 : decode cX1_find 21 = .ok (.iload_n 3, 1) := by decide +kernel
theorem dX1_find_22 : decode cX1_find 22 = .ok (.iload 4, 2) := by decide +kernel
theorem dX1_find_24 : decode cX1_find 24 = .ok (.aload_n 0, 1) := by decide +kernel
theorem dX1_find_25 : decode cX1_find 25 = .ok (.aload_n 1, 1) := by decide +kernel
theorem dX1_find_26 : decode cX1_find 26 = .ok (.iload_n 3, 1) := by decide +kernel
theorem dX1_find_27 : decode cX1_find 27 = .ok (.aload_n 2, 1) := by decide +kernel
theorem dX1_find_28 : decode cX1_find 28 = .ok (.iload 4, 2) := by decide +kernel
theorem dX1_find_30 : decode cX1_find 30 = .ok (.invokevirtual 24, 3) := by decide +kernel
theorem dX1_find_33 : decode cX1_find 33 = .ok (.invokevirtual 28, 3) := by decide +kernel
theorem dX1_find_36 : decode cX1_find 36 = .ok (.iinc 4 (-1), 3) := by decide +kernel
theorem dX1_find_39 : decode cX1_find 39 = .ok (.goto (-24), 3) := by decide +kernel
theorem dX1_find_42 : decode cX1_find 42 = .ok (.iinc 3 (-1), 3) := by decide +kernel
theorem dX1_find_45 : decode cX1_find 45 = .ok (.goto (-40), 3) := by decide +kernel
theorem dX1_find_48 : decode cX1_find 48 = .ok (.aload_n 0, 1) := by decide +kernel
theorem dX1_find_49 : decode cX1_find 49 = .ok (.aload_n 1, 1) := by decide +kernel
theorem dX1_find_50 : decode cX1_find 50 = .ok (.aload_n 2, 1) := by decide +kernel
theorem dX1_find_51 : decode cX1_find 51 = .ok (.invokevirtual 32, 3) := by decide +kernel
theorem dX1_find_54 : decode cX1_find 54 = .ok (.return_, 1) := by decide +kernel
theorem dX1_mate_0 : decode cX1_mate 0 = .ok (.iload_n 1, 1) := by decide +kernel
theorem dX1_mate_1 : decode cX1_mate 1 = .ok (.ifCond .lt 21, 3) := by decide +kernel
theorem dX1_mate_4 : decode cX1_mate 4 = .ok (.iload_n 1, 1) := by decide +kernel
theorem dX1_mate_5 : decode cX1_mate 5 = .ok (.aload_n 0, 1) := by decide +kernel
theorem dX1_mate_6 : decode cX1_mate 6 = .ok (.getfield 15, 3) := by decide +kernel
theorem dX1_mate_9 : decode cX1_mate 9 = .ok (.arraylength, 1) := by decide +kernel
theorem dX1_mate_10 : decode cX1_mate 10 = .ok (.if_icmp .ge 12, 3) := by decide +kernel
theorem dX1_mate_13 : decode cX1_mate 13 = .ok (.aload_n 0, 1) := by decide +kernel
theorem dX1_mate_14 : decode cX1_mate 14 = .ok (.getfield 15, 3) := by decide +kernel
theorem dX1_mate_17 : decode cX1_mate 17 = .ok (.iload_n 1, 1) := by decide +kernel
theorem dX1_mate_18 : decode cX1_mate 18 = .ok (.iaload, 1) := by decide +kernel
theorem dX1_mate_19 : decode cX1_mate 19 = .ok (.goto 4, 3) := by decide +kernel
theorem dX1_mate_22 : decode cX1_mate 22 = .ok (.iconst (-1), 1) := by decide +kernel
theorem dX1_mate_23 : decode cX1_mate 23 = .ok (.ireturn, 1) := by decide +kernel
theorem dX1_writeHunks_0 : decode cX1_writeHunks 0 = .ok (.iconst 0, 1) := by decide +kernel
theorem dX1_writeHunks_1 : decode cX1_writeHunks 1 = .ok (.istore 4, 2) := by decide +kernel
theorem dX1_writeHunks_3 : decode cX1_writeHunks 3 = .ok (.iconst 0, 1) := by decide +kernel
theorem dX1_writeHunks_4 : decode cX1_writeHunks 4 = .ok (.istore 5, 2) := by decide +kernel
theorem dX1_writeHunks_6 : decode cX1_writeHunks 6 = .ok (.aload_n 3, 1) := by decide +kernel
theorem dX1_writeHunks_7 : decode cX1_writeHunks 7 = .ok (.invokevirtual 36, 3) := by decide +kernel
theorem dX1_writeHunks_10 : decode cX1_writeHunks 10 = .ok (.iconst 0, 1) := by decide +kernel
theorem dX1_writeHunks_11 : decode cX1_writeHunks 11 = .ok (.istore 6, 2) := by decide +kernel
theorem dX1_writeHunks_13 : decode cX1_writeHunks 13 = .ok (.iload 6, 2) := by decide +kernel
theorem dX1_writeHunks_15 : decode cX1_writeHunks 15 = .ok (.aload_n 1, 1) := by decide +kernel
theorem dX1_writeHunks_16 : decode cX1_writeHunks 16 = .ok (.invokevirtual 18, 3) := by decide +kernel
theorem dX1_writeHunks_19 : decode cX1_writeHunks 19 = .ok (.if_icmp .gt 92, 3) := by decide +kernel
theorem dX1_writeHunks_22 : decode cX1_writeHunks 22 = .ok (.iload 6, 2) := by decide +kernel
theorem dX1_writeHunks_24 : decode cX1_writeHunks 24 = .ok (.aload_n 1, 1) := by decide +kernel
theorem dX1_writeHunks_25 : decode cX1_writeHunks 25 = .ok (.invokevirtual 18, 3) := by decide +kernel
theorem dX1_writeHunks_28 : decode cX1_writeHunks 28 = .ok (.if_icmp .ge 12, 3) := by decide +kernel
theorem dX1_writeHunks_31 : decode cX1_writeHunks 31 = .ok (.aload_n 0, 1) := by decide +kernel
theorem dX1_writeHunks_32 : decode cX1_writeHunks 32 = .ok (.iload 6, 2) := by decide +kernel
theorem dX1_writeHunks_34 : decode cX1_writeHunks 34 = .ok (.invokevirtual 41, 3) := by decide +kernel
theorem dX1_writeHunks_37 : decode cX1_writeHunks 37 = .ok (.goto 7, 3) := by decide +kernel
theorem dX1_writeHunks_40 : decode cX1_writeHunks 40 = .ok (.aload_n 2, 1) := by decide +kernel
theorem dX1_writeHunks_41 : decode cX1_writeHunks 41 = .ok (.invokevirtual 18, 3) := by decide +kernel
theorem dX1_writeHunks_44 : decode cX1_writeHunks 44 = .ok (.istore 7, 2) := by decide +kernel
theorem dX1_writeHunks_46 : decode cX1_writeHunks 46 = .ok (.iload 7, 2) := by decide +kernel
theorem dX1_writeHunks_48 : decode cX1_writeHunks 48 = .ok (.iconst (-1), 1) := by decide +kernel
theorem dX1_writeHunks_49 : decode cX1_writeHunks 49 = .ok (.if_icmp .ne 6, 3) := by decide +kernel
theorem dX1_writeHunks_52 : decode cX1_writeHunks 52 = .ok (.goto 53, 3) := by decide +kernel
theorem dX1_writeHunks_55 : decode cX1_writeHunks 55 = .ok (.iload 4, 2) := by decide +kernel
theorem dX1_writeHunks_57 : decode cX1_writeHunks 57 = .ok (.iload 6, 2) := by decide +kernel
theorem dX1_writeHunks_59 : decode cX1_writeHunks 59 = .ok (.if_icmp .lt 10, 3) := by decide +kernel
theorem dX1_writeHunks_62 : decode cX1_writeHunks 62 = .ok (.iload 5, 2) := by decide +kernel
theorem dX1_writeHunks_64 : decode cX1_writeHunks 64 = .ok (.iload 7, 2) := by decide +kernel
theorem dX1_writeHunks_66 : decode cX1_writeHunks 66 = .ok (.if_icmp .ge 27, 3) := by decide +kernel
theorem dX1_writeHunks_69 : decode cX1_writeHunks 69 = .ok (.aload_n 3, 1) := by decide +kernel
theorem dX1_writeHunks_70 : decode cX1_writeHunks 70 = .ok (.iload 4, 2) := by decide +kernel
theorem dX1_writeHunks_72 : decode cX1_writeHunks 72 = .ok (.invokevirtual 45, 3) := by decide +kernel
theorem dX1_writeHunks_75 : decode cX1_writeHunks 75 = .ok (.aload_n 3, 1) := by decide +kernel
theorem dX1_writeHunks_76 : decode cX1_writeHunks 76 = .ok (.aload_n 1, 1) := by decide +kernel
theorem dX1_writeHunks_77 : decode cX1_writeHunks 77 = .ok (.iload 4, 2) := by decide +kernel
theorem dX1_writeHunks_79 : decode cX1_writeHunks 79 = .ok (.iload 6, 2) := by decide +kernel
theorem dX1_writeHunks_81 : decode cX1_writeHunks 81 = .ok (.invokevirtual 49, 3) := by decide +kernel
theorem dX1_writeHunks_84 : decode cX1_writeHunks 84 = .ok (.aload_n 3, 1) := by decide +kernel
theorem dX1_writeHunks_85 : decode cX1_writeHunks 85 = .ok (.aload_n 2, 1) := by decide +kernel
theorem dX1_writeHunks_86 : decode cX1_writeHunks 86 = .ok (.iload 5, 2) := by decide +kernel
theorem dX1_writeHunks_88 : decode cX1_writeHunks 88 = .ok (.iload 7, 2) := by decide +kernel
theorem dX1_writeHunks_90 : decode cX1_writeHunks 90 = .ok (.invokevirtual 53, 3) := by decide +kernel
theorem dX1_writeHunks_93 : decode cX1_writeHunks 93 = .ok (.iload 6, 2) := by decide +kernel
theorem dX1_writeHunks_95 : decode cX1_writeHunks 95 = .ok (.iconst 1, 1) := by decide +kernel
theorem dX1_writeHunks_96 : decode cX1_writeHunks 96 = .ok (.iadd, 1) := by decide +kernel
theorem dX1_writeHunks_97 : decode cX1_writeHunks 97 = .ok (.istore 4, 2) := by decide +kernel
theorem dX1_writeHunks_99 : decode cX1_writeHunks 99 = .ok (.iload 7, 2) := by decide +kernel
theorem dX1_writeHunks_101 : decode cX1_writeHunks 101 = .ok (.iconst 1, 1) := by decide +kernel
theorem dX1_writeHunks_102 : decode cX1_writeHunks 102 = .ok (.iadd, 1) := by decide +kernel
theorem dX1_writeHunks_103 : decode cX1_writeHunks 103 = .ok (.istore 5, 2) := by decide +kernel
theorem dX1_writeHunks_105 : decode cX1_writeHunks 105 = .ok (.iinc 6 1, 3) := by decide +kernel
theorem dX1_writeHunks_108 : decode cX1_writeHunks 108 = .ok (.goto (-95), 3) := by decide +kernel
theorem dX1_writeHunks_111 : decode cX1_writeHunks 111 = .ok (.return_, 1) := by decide +kernel
theorem dX1_reckonMost_0 : decode cX1_reckonMost 0 = .ok (.iload_n 2, 1) := by decide +kernel
theorem dX1_reckonMost_1 : decode cX1_reckonMost 1 = .ok (.aload_n 1, 1) := by decide +kernel
theorem dX1_reckonMost_2 : decode cX1_reckonMost 2 = .ok (.invokevirtual 18, 3) := by decide +kernel
theorem dX1_reckonMost_5 : decode cX1_reckonMost 5 = .ok (.if_icmp .ge 12, 3) := by decide +kernel
theorem dX1_reckonMost_8 : decode cX1_reckonMost 8 = .ok (.iload 4, 2) := by decide +kernel
theorem dX1_reckonMost_10 : decode cX1_reckonMost 10 = .ok (.aload_n 3, 1) := by decide +kernel
theorem dX1_reckonMost_11 : decode cX1_reckonMost 11 = .ok (.invokevirtual 18, 3) := by decide +kernel
theorem dX1_reckonMost_14 : decode cX1_reckonMost 14 = .ok (.if_icmp .lt 5, 3) := by decide +kernel
theorem dX1_reckonMost_17 : decode cX1_reckonMost 17 = .ok (.iconst 0, 1) := by decide +kernel
theorem dX1_reckonMost_18 : decode cX1_reckonMost 18 = .ok (.ireturn, 1) := by decide +kernel
theorem dX1_reckonMost_19 : decode cX1_reckonMost 19 = .ok (.aload_n 1, 1) := by decide +kernel
theorem dX1_reckonMost_20 : decode cX1_reckonMost 20 = .ok (.iload_n 2, 1) := by decide +kernel
theorem dX1_reckonMost_21 : decode cX1_reckonMost 21 = .ok (.invokevirtual 56, 3) := by decide +kernel
theorem dX1_reckonMost_24 : decode cX1_reckonMost 24 = .ok (.aload_n 3, 1) := by decide +kernel
theorem dX1_reckonMost_25 : decode cX1_reckonMost 25 = .ok (.iload 4, 2) := by decide +kernel
theorem dX1_reckonMost_27 : decode cX1_reckonMost 27 = .ok (.invokevirtual 56, 3) := by decide +kernel
theorem dX1_reckonMost_30 : decode cX1_reckonMost 30 = .ok (.if_icmp .ne 17, 3) := by decide +kernel
theorem dX1_reckonMost_33 : decode cX1_reckonMost 33 = .ok (.aload_n 0, 1) := by decide +kernel
theorem dX1_reckonMost_34 : decode cX1_reckonMost 34 = .ok (.iload_n 2, 1) := by decide +kernel
theorem dX1_reckonMost_35 : decode cX1_reckonMost 35 = .ok (.iconst 1, 1) := by decide +kernel
theorem dX1_reckonMost_36 : decode cX1_reckonMost 36 = .ok (.iadd, 1) := by decide +kernel
theorem dX1_reckonMost_37 : decode cX1_reckonMost 37 = .ok (.iload 4, 2) := by decide +kernel
theorem dX1_reckonMost_39 : decode cX1_reckonMost 39 = .ok (.iconst 1, 1) := by decide +kernel
theorem dX1_reckonMost_40 : decode cX1_reckonMost 40 = .ok (.iadd, 1) := by decide +kernel
theorem dX1_reckonMost_41 : decode cX1_reckonMost 41 = .ok (.invokevirtual 59, 3) := by decide +kernel
theorem dX1_reckonMost_44 : decode cX1_reckonMost 44 = .ok (.iconst 1, 1) := by decide +kernel
theorem dX1_reckonMost_45 : decode cX1_reckonMost 45 = .ok (.iadd, 1) := by decide +kernel
theorem dX1_reckonMost_46 : decode cX1_reckonMost 46 = .ok (.ireturn, 1) := by decide +kernel
theorem dX1_reckonMost_47 : decode cX1_reckonMost 47 = .ok (.aload_n 0, 1) := by decide +kernel
theorem dX1_reckonMost_48 : decode cX1_reckonMost 48 = .ok (.iload_n 2, 1) := by decide +kernel
theorem dX1_reckonMost_49 : decode cX1_reckonMost 49 = .ok (.iconst 1, 1) := by decide +kernel
theorem dX1_reckonMost_50 : decode cX1_reckonMost 50 = .ok (.iadd, 1) := by decide +kernel
theorem dX1_reckonMost_51 : decode cX1_reckonMost 51 = .ok (.iload 4, 2) := by decide +kernel
theorem dX1_reckonMost_53 : decode cX1_reckonMost 53 = .ok (.invokevirtual 59, 3) := by decide +kernel
theorem dX1_reckonMost_56 : decode cX1_reckonMost 56 = .ok (.aload_n 0, 1) := by decide +kernel
theorem dX1_reckonMost_57 : decode cX1_reckonMost 57 = .ok (.iload_n 2, 1) := by decide +kernel
theorem dX1_reckonMost_58 : decode cX1_reckonMost 58 = .ok (.iload 4, 2) := by decide +kernel
theorem dX1_reckonMost_60 : decode cX1_reckonMost 60 = .ok (.iconst 1, 1) := by decide +kernel
theorem dX1_reckonMost_61 : decode cX1_reckonMost 61 = .ok (.iadd, 1) := by decide +kernel
theorem dX1_reckonMost_62 : decode cX1_reckonMost 62 = .ok (.invokevirtual 59, 3) := by decide +kernel
theorem dX1_reckonMost_65 : decode cX1_reckonMost 65 = .ok (.invokestatic 63, 3) := by decide +kernel
theorem dX1_reckonMost_68 : decode cX1_reckonMost 68 = .ok (.ireturn, 1) := by decide +kernel
theorem dX1_trace_0 : decode cX1_trace 0 = .ok (.iconst 0, 1) := by decide +kernel
theorem dX1_trace_1 : decode cX1_trace 1 = .ok (.istore_n 3, 1) := by decide +kernel
theorem dX1_trace_2 : decode cX1_trace 2 = .ok (.iconst 0, 1) := by decide +kernel
theorem dX1_trace_3 : decode cX1_trace 3 = .ok (.istore 4, 2) := by decide +kernel
theorem dX1_trace_5 : decode cX1_trace 5 = .ok (.iconst 0, 1) := by decide +kernel
theorem dX1_trace_6 : decode cX1_trace 6 = .ok (.istore 5, 2) := by decide +kernel
theorem dX1_trace_8 : decode cX1_trace 8 = .ok (.iload 5, 2) := by decide +kernel
theorem dX1_trace_10 : decode cX1_trace 10 = .ok (.bipush 28, 2) := by decide +kernel
theorem dX1_trace_12 : decode cX1_trace 12 = .ok (.if_icmp .ge 107, 3) := by decide +kernel
theorem dX1_trace_15 : decode cX1_trace 15 = .ok (.iload_n 3, 1) := by decide +kernel
theorem dX1_trace_16 : decode cX1_trace 16 = .ok (.aload_n 1, 1) := by decide +kernel
theorem dX1_trace_17 : decode cX1_trace 17 = .ok (.invokevirtual 18, 3) := by decide +kernel
theorem dX1_trace_20 : decode cX1_trace 20 = .ok (.if_icmp .ge 99, 3) := by decide +kernel
theorem dX1_trace_23 : decode cX1_trace 23 = .ok (.iload 4, 2) := by decide +kernel
theorem dX1_trace_25 : decode cX1_trace 25 = .ok (.aload_n 2, 1) := by decide +kernel
theorem dX1_trace_26 : decode cX1_trace 26 = .ok (.invokevirtual 18, 3) := by decide +kernel
theorem dX1_trace_29 : decode cX1_trace 29 = .ok (.if_icmp .ge 7, 3) := by decide +kernel
theorem dX1_trace_32 : decode cX1_trace 32 = .ok (.iconst 1, 1) := by decide +kernel
theorem dX1_trace_33 : decode cX1_trace 33 = .ok (.goto 4, 3) := by decide +kernel
theorem dX1_trace_36 : decode cX1_trace 36 = .ok (.iconst 0, 1) := by decide +kernel
theorem dX1_trace_37 : decode cX1_trace 37 = .ok (.istore 6, 2) := by decide +kernel
theorem dX1_trace_39 : decode cX1_trace 39 = .ok (.iload 6, 2) := by decide +kernel
theorem dX1_trace_41 : decode cX1_trace 41 = .ok (.ifCond .eq 33, 3) := by decide +kernel
theorem dX1_trace_44 : decode cX1_trace 44 = .ok (.aload_n 1, 1) := by decide +kernel
theorem dX1_trace_45 : decode cX1_trace 45 = .ok (.iload_n 3, 1) := by decide +kernel
theorem dX1_trace_46 : decode cX1_trace 46 = .ok (.invokevirtual 56, 3) := by decide +kernel
theorem dX1_trace_49 : decode cX1_trace 49 = .ok (.aload_n 2, 1) := by decide +kernel
theorem dX1_trace_50 : decode cX1_trace 50 = .ok (.iload 4, 2) := by decide +kernel
theorem dX1_trace_52 : decode cX1_trace 52 = .ok (.invokevirtual 56, 3) := by decide +kernel
theorem dX1_trace_55 : decode cX1_trace 55 = .ok (.if_icmp .ne 19, 3) := by decide +kernel
theorem dX1_trace_58 : decode cX1_trace 58 = .ok (.aload_n 0, 1) := by decide +kernel
theorem dX1_trace_59 : decode cX1_trace 59 = .ok (.iload_n 3, 1) := by decide +kernel
theorem dX1_trace_60 : decode cX1_trace 60 = .ok (.iload 4, 2) := by decide +kernel
theorem dX1_trace_62 : decode cX1_trace 62 = .ok (.invokevirtual 68, 3) := by decide +kernel
theorem dX1_trace_65 : decode cX1_trace 65 = .ok (.iinc 3 1, 3) := by decide +kernel
theorem dX1_trace_68 : decode cX1_trace 68 = .ok (.iinc 4 1, 3) := by decide +kernel
theorem dX1_trace_71 : decode cX1_trace 71 = .ok (.goto 42, 3) := by decide +kernel
theorem dX1_trace_74 : decode cX1_trace 74 = .ok (.iload 6, 2) := by decide +kernel
theorem dX1_trace_76 : decode cX1_trace 76 = .ok (.ifCond .eq 22, 3) := by decide +kernel
theorem dX1_trace_79 : decode cX1_trace 79 = .ok (.aload_n 0, 1) := by decide +kernel
theorem dX1_trace_80 : decode cX1_trace 80 = .ok (.iload_n 3, 1) := by decide +kernel
theorem dX1_trace_81 : decode cX1_trace 81 = .ok (.iconst 1, 1) := by decide +kernel
theorem dX1_trace_82 : decode cX1_trace 82 = .ok (.iadd, 1) := by decide +kernel
theorem dX1_trace_83 : decode cX1_trace 83 = .ok (.iload 4, 2) := by decide +kernel
theorem dX1_trace_85 : decode cX1_trace 85 = .ok (.invokevirtual 59, 3) := by decide +kernel
theorem dX1_trace_88 : decode cX1_trace 88 = .ok (.aload_n 0, 1) := by decide +kernel
theorem dX1_trace_89 : decode cX1_trace 89 = .ok (.iload_n 3, 1) := by decide +kernel
theorem dX1_trace_90 : decode cX1_trace 90 = .ok (.iload 4, 2) := by decide +kernel
theorem dX1_trace_92 : decode cX1_trace 92 = .ok (.invokevirtual 59, 3) := by decide +kernel
theorem dX1_trace_95 : decode cX1_trace 95 = .ok (.if_icmp .ne 15, 3) := by decide +kernel
theorem dX1_trace_98 : decode cX1_trace 98 = .ok (.aload_n 0, 1) := by decide +kernel
theorem dX1_trace_99 : decode cX1_trace 99 = .ok (.iload_n 3, 1) := by decide +kernel
theorem dX1_trace_100 : decode cX1_trace 100 = .ok (.iconst (-1), 1) := by decide +kernel
theorem dX1_trace_101 : decode cX1_trace 101 = .ok (.invokevirtual 68, 3) := by decide +kernel
theorem dX1_trace_104 : decode cX1_trace 104 = .ok (.iinc 3 1, 3) := by decide +kernel
theorem dX1_trace_107 : decode cX1_trace 107 = .ok (.goto 6, 3) := by decide +kernel
theorem dX1_trace_110 : decode cX1_trace 110 = .ok (.iinc 4 1, 3) := by decide +kernel
theorem dX1_trace_113 : decode cX1_trace 113 = .ok (.iinc 5 1, 3) := by decide +kernel
theorem dX1_trace_116 : decode cX1_trace 116 = .ok (.goto (-108), 3) := by decide +kernel
theorem dX1_trace_119 : decode cX1_trace 119 = .ok (.return_, 1) := by decide +kernel
theorem dX1_setMate_0 : decode cX1_setMate 0 = .ok (.iload_n 1, 1) := by decide +kernel
theorem dX1_setMate_1 : decode cX1_setMate 1 = .ok (.ifCond .lt 19, 3) := by decide +kernel
theorem dX1_setMate_4 : decode cX1_setMate 4 = .ok (.iload_n 1, 1) := by decide +kernel
theorem dX1_setMate_5 : decode cX1_setMate 5 = .ok (.aload_n 0, 1) := by decide +kernel
theorem dX1_setMate_6 : decode cX1_setMate 6 = .ok (.getfield 15, 3) := by decide +kernel
theorem dX1_setMate_9 : decode cX1_setMate 9 = .ok (.arraylength, 1) := by decide +kernel
theorem dX1_setMate_10 : decode cX1_setMate 10 = .ok (.if_icmp .ge 10, 3) := by decide +kernel
theorem dX1_setMate_13 : decode cX1_setMate 13 = .ok (.aload_n 0, 1) := by decide +kernel
theorem dX1_setMate_14 : decode cX1_setMate 14 = .ok (.getfield 15, 3) := by decide +kernel
theorem dX1_setMate_17 : decode cX1_setMate 17 = .ok (.iload_n 1, 1) := by decide +kernel
theorem dX1_setMate_18 : decode cX1_setMate 18 = .ok (.iload_n 2, 1) := by decide +kernel
theorem dX1_setMate_19 : decode cX1_setMate 19 = .ok (.iastore, 1) := by decide +kernel
theorem dX1_setMate_20 : decode cX1_setMate 20 = .ok (.return_, 1) := by decide +kernel
theorem dX1_setMost_0 : decode cX1_setMost 0 = .ok (.iload_n 1, 1) := by decide +kernel
theorem dX1_setMost_1 : decode cX1_setMost 1 = .ok (.bipush 15, 2) := by decide +kernel
theorem dX1_setMost_3 : decode cX1_setMost 3 = .ok (.imul, 1) := by decide +kernel
theorem dX1_setMost_4 : decode cX1_setMost 4 = .ok (.iload_n 2, 1) := by decide +kernel
theorem dX1_setMost_5 : decode cX1_setMost 5 = .ok (.iadd, 1) := by decide +kernel
theorem dX1_setMost_6 : decode cX1_setMost 6 = .ok (.istore 4, 2) := by decide +kernel
theorem dX1_setMost_8 : decode cX1_setMost 8 = .ok (.iload 4, 2) := by decide +kernel
theorem dX1_setMost_10 : decode cX1_setMost 10 = .ok (.ifCond .lt 21, 3) := by decide +kernel
theorem dX1_setMost_13 : decode cX1_setMost 13 = .ok (.iload 4, 2) := by decide +kernel
theorem dX1_setMost_15 : decode cX1_setMost 15 = .ok (.aload_n 0, 1) := by decide +kernel
theorem dX1_setMost_16 : decode cX1_setMost 16 = .ok (.getfield 11, 3) := by decide +kernel
theorem dX1_setMost_19 : decode cX1_setMost 19 = .ok (.arraylength, 1) := by decide +kernel
theorem dX1_setMost_20 : decode cX1_setMost 20 = .ok (.if_icmp .ge 11, 3) := by decide +kernel
theorem dX1_setMost_23 : decode cX1_setMost 23 = .ok (.aload_n 0, 1) := by decide +kernel
theorem dX1_setMost_24 : decode cX1_setMost 24 = .ok (.getfield 11, 3) := by decide +kernel
theorem dX1_setMost_27 : decode cX1_setMost 27 = .ok (.iload 4, 2) := by decide +kernel
theorem dX1_setMost_29 : decode cX1_setMost 29 = .ok (.iload_n 3, 1) := by decide +kernel
theorem dX1_setMost_30 : decode cX1_setMost 30 = .ok (.iastore, 1) := by decide +kernel
theorem dX1_setMost_31 : decode cX1_setMost 31 = .ok (.return_, 1) := by decide +kernel
theorem dX1_mostFrom_0 : decode cX1_mostFrom 0 = .ok (.iload_n 1, 1) := by decide +kernel
theorem dX1_mostFrom_1 : decode cX1_mostFrom 1 = .ok (.bipush 15, 2) := by decide +kernel
theorem dX1_mostFrom_3 : decode cX1_mostFrom 3 = .ok (.imul, 1) := by decide +kernel
theorem dX1_mostFrom_4 : decode cX1_mostFrom 4 = .ok (.iload_n 2, 1) := by decide +kernel
theorem dX1_mostFrom_5 : decode cX1_mostFrom 5 = .ok (.iadd, 1) := by decide +kernel
theorem dX1_mostFrom_6 : decode cX1_mostFrom 6 = .ok (.istore_n 3, 1) := by decide +kernel
theorem dX1_mostFrom_7 : decode cX1_mostFrom 7 = .ok (.iload_n 3, 1) := by decide +kernel
theorem dX1_mostFrom_8 : decode cX1_mostFrom 8 = .ok (.ifCond .lt 21, 3) := by decide +kernel
theorem dX1_mostFrom_11 : decode cX1_mostFrom 11 = .ok (.iload_n 3, 1) := by decide +kernel
theorem dX1_mostFrom_12 : decode cX1_mostFrom 12 = .ok (.aload_n 0, 1) := by decide +kernel
theorem dX1_mostFrom_13 : decode cX1_mostFrom 13 = .ok (.getfield 11, 3) := by decide +kernel
theorem dX1_mostFrom_16 : decode cX1_mostFrom 16 = .ok (.arraylength, 1) := by decide +kernel
theorem dX1_mostFrom_17 : decode cX1_mostFrom 17 = .ok (.if_icmp .ge 12, 3) := by decide +kernel
theorem dX1_mostFrom_20 : decode cX1_mostFrom 20 = .ok (.aload_n 0, 1) := by decide +kernel
theorem dX1_mostFrom_21 : decode cX1_mostFrom 21 = .ok (.getfield 11, 3) := by decide +kernel
theorem dX1_mostFrom_24 : decode cX1_mostFrom 24 = .ok (.iload_n 3, 1) := by decide +kernel
theorem dX1_mostFrom_25 : decode cX1_mostFrom 25 = .ok (.iaload, 1) := by decide +kernel
theorem dX1_mostFrom_26 : decode cX1_mostFrom 26 = .ok (.goto 4, 3) := by decide +kernel
theorem dX1_mostFrom_29 : decode cX1_mostFrom 29 = .ok (.iconst 0, 1) := by decide +kernel
theorem dX1_mostFrom_30 : decode cX1_mostFrom 30 = .ok (.ireturn, 1) := by decide +kernel
