theorem dX6_init_0 : decode cX6_init 0 = .ok (.aload_n 0, 1) := by decide +kernel
theorem dX6_init_1 : decode cX6_init 1 = .ok (.invokespecial 1, 3) := by decide +kernel
theorem dX6_init_4 : decode cX6_init 4 = .ok (.aload_n 0, 1) := by decide +kernel
theorem dX6_init_5 : decode cX6_init 5 = .ok (.new 7, 3) := by decide +kernel
theorem dX6_init_8 : decode cX6_init 8 = .ok (.dup, 1) := by decide +kernel
theorem dX6_init_9 : decode cX6_init 9 = .ok (.bipush 14, 2) := by decide +kernel
theorem dX6_init_11 : decode cX6_init 11 = .ok (.invokespecial 11, 3) := by decide +kernel
theorem dX6_init_14 : decode cX6_init 14 = .ok (.putfield 14, 3) := by decide +kernel
theorem dX6_init_17 : decode cX6_init 17 = .ok (.aload_n 0, 1) := by decide +kernel
theorem dX6_init_18 : decode cX6_init 18 = .ok (.new 7, 3) := by decide +kernel
theorem dX6_init_21 : decode cX6_init 21 = .ok (.dup, 1) := by decide +kernel
theorem dX6_init_22 : decode cX6_init 22 = .ok (.bipush 42, 2) := by decide +kernel
theorem dX6_init_24 : decode cX6_init 24 = .ok (.invokespecial 11, 3) := by decide +kernel
theorem dX6_init_27 : decode cX6_init 27 = .ok (.putfield 18, 3) := by decide +kernel
theorem dX6_init_30 : decode cX6_init 30 = .ok (.aload_n 0, 1) := by decide +kernel
theorem dX6_init_31 : decode cX6_init 31 = .ok (.bipush 10, 2) := by decide +kernel
theorem dX6_init_33 : decode cX6_init 33 = .ok (.anewarray 21, 3) := by decide +kernel
theorem dX6_init_36 : decode cX6_init 36 = .ok (.putfield 23, 3) := by decide +kernel
theorem dX6_init_39 : decode cX6_init 39 = .ok (.aload_n 0, 1) := by decide +kernel
theorem dX6_init_40 : decode cX6_init 40 = .ok (.bipush 12, 2) := by decide +kernel
theorem dX6_init_42 : decode cX6_init 42 = .ok (.anewarray 27, 3) := by decide +kernel
theorem dX6_init_45 : decode cX6_init 45 = .ok (.putfield 29, 3) := by decide +kernel
theorem dX6_init_48 : decode cX6_init 48 = .ok (.aload_n 0, 1) := by decide +kernel
theorem dX6_init_49 : decode cX6_init 49 = .ok (.bipush 100, 2) := by decide +kernel
theorem dX6_init_51 : decode cX6_init 51 = .ok (.newarray .int, 2) := by decide +kernel
theorem dX6_init_53 : decode cX6_init 53 = .ok (.putfield 33, 3) := by decide +kernel
theorem dX6_init_56 : decode cX6_init 56 = .ok (.aload_n 0, 1) := by decide +kernel
theorem dX6_init_57 : decode cX6_init 57 = .ok (.new 37, 3) := by decide +kernel
theorem dX6_init_60 : decode cX6_init 60 = .ok (.dup, 1) := by decide +kernel
theorem dX6_init_61 : decode cX6_init 61 = .ok (.invokespecial 39, 3) := by decide +kernel
theorem dX6_init_64 : decode cX6_init 64 = .ok (.putfield 40, 3) := by decide +kernel
theorem dX6_init_67 : decode cX6_init 67 = .ok (.aload_n 0, 1) := by decide +kernel
theorem dX6_init_68 : decode cX6_init 68 = .ok (.new 27, 3) := by decide +kernel
theorem dX6_init_71 : decode cX6_init 71 = .ok (.dup, 1) := by decide +kernel
theorem dX6_init_72 : decode cX6_init 72 = .ok (.bipush 10, 2) := by decide +kernel
theorem dX6_init_74 : decode cX6_init 74 = .ok (.bipush 14, 2) := by decide +kernel
theorem dX6_init_76 : decode cX6_init 76 = .ok (.invokespecial 44, 3) := by decide +kernel
theorem dX6_init_79 : decode cX6_init 79 = .ok (.putfield 47, 3) := by decide +kernel
theorem dX6_init_82 : decode cX6_init 82 = .ok (.aload_n 0, 1) := by decide +kernel
theorem dX6_init_83 : decode cX6_init 83 = .ok (.new 27, 3) := by decide +kernel
theorem dX6_init_86 : decode cX6_init 86 = .ok (.dup, 1) := by decide +kernel
theorem dX6_init_87 : decode cX6_init 87 = .ok (.bipush 10, 2) := by decide +kernel
theorem dX6_init_89 : decode cX6_init 89 = .ok (.bipush 14, 2) := by decide +kernel
theorem dX6_init_91 : decode cX6_init 91 = .ok (.invokespecial 44, 3) := by decide +kernel
theorem dX6_init_94 : decode cX6_init 94 = .ok (.putfield 51, 3) := by decide +kernel
theorem dX6_init_97 : decode cX6_init 97 = .ok (.aload_n 0, 1) := by decide +kernel
theorem dX6_init_98 : decode cX6_init 98 = .ok (.new 27, 3) := by decide +kernel
theorem dX6_init_101 : decode cX6_init 101 = .ok (.dup, 1) := by decide +kernel
theorem dX6_init_102 : decode cX6_init 102 = .ok (.bipush 20, 2) := by decide +kernel
theorem dX6_init_104 : decode cX6_init 104 = .ok (.bipush 56, 2) := by decide +kernel
theorem dX6_init_106 : decode cX6_init 106 = .ok (.invokespecial 44, 3) := by decide +kernel
theorem dX6_init_109 : decode cX6_init 109 = .ok (.putfield 54, 3) := by decide +kernel
theorem dX6_init_112 : decode cX6_init 112 = .ok (.aload_n 0, 1) := by decide +kernel
theorem dX6_init_113 : decode cX6_init 113 = .ok (.new 57, 3) := by decide +kernel
theorem dX6_init_116 : decode cX6_init 116 = .ok (.dup, 1) := by decide +kernel
theorem dX6_init_117 : decode cX6_init 117 = .ok (.invokespecial 59, 3) := by decide +kernel
theorem dX6_init_120 : decode cX6_init 120 = .ok (.putfield 60, 3) := by decide +kernel
theorem dX6_init_123 : decode cX6_init 123 = .ok (.aload_n 0, 1) := by decide +kernel
theorem dX6_init_124 : decode cX6_init 124 = .ok (.new 64, 3) := by decide +kernel
theorem dX6_init_127 : decode cX6_init 127 = .ok (.dup, 1) := by decide +kernel
theorem dX6_init_128 : decode cX6_init 128 = .ok (.invokespecial 66, 3) := by decide +kernel
theorem dX6_init_131 : decode cX6_init 131 = .ok (.putfield 67, 3) := by decide +kernel
theorem dX6_init_134 : decode cX6_init 134 = .ok (.return_, 1) := by decide +kernel
theorem dX6_line_0 : decode cX6_line 0 = .ok (.iload_n 1, 1) := by decide +kernel
theorem dX6_line_1 : decode cX6_line 1 = .ok (.ifCond .lt 21, 3) := by decide +kernel
theorem dX6_line_4 : decode cX6_line 4 = .ok (.iload_n 1, 1) := by decide +kernel
theorem dX6_line_5 : decode cX6_line 5 = .ok (.aload_n 0, 1) := by decide +kernel
theorem dX6_line_6 : decode cX6_line 6 = .ok (.getfield 14, 3) := by decide +kernel
theorem dX6_line_9 : decode cX6_line 9 = .ok (.invokevirtual 71, 3) := by decide +kernel
theorem dX6_line_12 : decode cX6_line 12 = .ok (.if_icmp .gt 10, 3) := by decide +kernel
theorem dX6_line_15 : decode cX6_line 15 = .ok (.iload_n 2, 1) := by decide +kernel
theorem dX6_line_16 : decode cX6_line 16 = .ok (.invokestatic 75, 3) := by decide +kernel
theorem dX6_line_19 : decode cX6_line 19 = .ok (.ifCond .ne 6, 3) := by decide +kernel
theorem dX6_line_22 : decode cX6_line 22 = .ok (.bipush (-102), 2) := by decide +kernel
theorem dX6_line_24 : decode cX6_line 24 = .ok (.ireturn, 1) := by decide +kernel
theorem dX6_line_25 : decode cX6_line 25 = .ok (.aload_n 0, 1) := by decide +kernel
theorem dX6_line_26 : decode cX6_line 26 = .ok (.getfield 14, 3) := by decide +kernel
theorem dX6_line_29 : decode cX6_line 29 = .ok (.invokevirtual 71, 3) := by decide +kernel
theorem dX6_line_32 : decode cX6_line 32 = .ok (.bipush 14, 2) := by decide +kernel
theorem dX6_line_34 : decode cX6_line 34 = .ok (.if_icmp .lt 6, 3) := by decide +kernel
theorem dX6_line_37 : decode cX6_line 37 = .ok (.bipush (-104), 2) := by decide +kernel
theorem dX6_line_39 : decode cX6_line 39 = .ok (.ireturn, 1) := by decide +kernel
theorem dX6_line_40 : decode cX6_line 40 = .ok (.aload_n 0, 1) := by decide +kernel
theorem dX6_line_41 : decode cX6_line 41 = .ok (.getfield 14, 3) := by decide +kernel
theorem dX6_line_44 : decode cX6_line 44 = .ok (.iload_n 1, 1) := by decide +kernel
theorem dX6_line_45 : decode cX6_line 45 = .ok (.iload_n 2, 1) := by decide +kernel
theorem dX6_line_46 : decode cX6_line 46 = .ok (.invokevirtual 79, 3) := by decide +kernel
theorem dX6_line_49 : decode cX6_line 49 = .ok (.aload_n 0, 1) := by decide +kernel
theorem dX6_line_50 : decode cX6_line 50 = .ok (.getfield 14, 3) := by decide +kernel
theorem dX6_line_53 : decode cX6_line 53 = .ok (.invokevirtual 71, 3) := by decide +kernel
theorem dX6_line_56 : decode cX6_line 56 = .ok (.ireturn, 1) := by decide +kernel
theorem dX6_drop_0 : decode cX6_drop 0 = .ok (.iload_n 1, 1) := by decide +kernel
theorem dX6_drop_1 : decode cX6_drop 1 = .ok (.ifCond .lt 14, 3) := by decide +kernel
theorem dX6_drop_4 : decode cX6_drop 4 = .ok (.iload_n 1, 1) := by decide +kernel
theorem dX6_drop_5 : decode cX6_drop 5 = .ok (.aload_n 0, 1) := by decide +kernel
theorem dX6_drop_6 : decode cX6_drop 6 = .ok (.getfield 14, 3) := by decide +kernel
theorem dX6_drop_9 : decode cX6_drop 9 = .ok (.invokevirtual 71, 3) := by decide +kernel
theorem dX6_drop_12 : decode cX6_drop 12 = .ok (.if_icmp .lt 6, 3) := by decide +kernel
theorem dX6_drop_15 : decode cX6_drop 15 = .ok (.bipush (-101), 2) := by decide +kernel
theorem dX6_drop_17 : decode cX6_drop 17 = .ok (.ireturn, 1) := by decide +kernel
theorem dX6_drop_18 : decode cX6_drop 18 = .ok (.aload_n 0, 1) := by decide +kernel
theorem dX6_drop_19 : decode cX6_drop 19 = .ok (.getfield 14, 3) := by decide +kernel
theorem dX6_drop_22 : decode cX6_drop 22 = .ok (.iload_n 1, 1) := by decide +kernel
theorem dX6_drop_23 : decode cX6_drop 23 = .ok (.invokevirtual 82, 3) := by decide +kernel
theorem dX6_drop_26 : decode cX6_drop 26 = .ok (.istore_n 2, 1) := by decide +kernel
theorem dX6_drop_27 : decode cX6_drop 27 = .ok (.aload_n 0, 1) := by decide +kernel
theorem dX6_drop_28 : decode cX6_drop 28 = .ok (.getfield 14, 3) := by decide +kernel
theorem dX6_drop_31 : decode cX6_drop 31 = .ok (.iload_n 1, 1) := by decide +kernel
theorem dX6_drop_32 : decode cX6_drop 32 = .ok (.invokevirtual 86, 3) := by decide +kernel
theorem dX6_drop_35 : decode cX6_drop 35 = .ok (.iload_n 2, 1) := by decide +kernel
theorem dX6_drop_36 : decode cX6_drop 36 = .ok (.ireturn, 1) := by decide +kernel
theorem dX6_take_0 : decode cX6_take 0 = .ok (.iload_n 1, 1) := by decide +kernel
theorem dX6_take_1 : decode cX6_take 1 = .ok (.iconst (-1), 1) := by decide +kernel
theorem dX6_take_2 : decode cX6_take 2 = .ok (.if_icmp .ne 18, 3) := by decide +kernel
theorem dX6_take_5 : decode cX6_take 5 = .ok (.aload_n 0, 1) := by decide +kernel
theorem dX6_take_6 : decode cX6_take 6 = .ok (.getfield 14, 3) := by decide +kernel
theorem dX6_take_9 : decode cX6_take 9 = .ok (.invokevirtual 89, 3) := by decide +kernel
theorem dX6_take_12 : decode cX6_take 12 = .ok (.aload_n 0, 1) := by decide +kernel
theorem dX6_take_13 : decode cX6_take 13 = .ok (.getfield 14, 3) := by decide +kernel
theorem dX6_take_16 : decode cX6_take 16 = .ok (.invokevirtual 71, 3) := by decide +kernel
theorem dX6_take_19 : decode cX6_take 19 = .ok (.ireturn, 1) := by decide +kernel
theorem dX6_take_20 : decode cX6_take 20 = .ok (.aload_n 0, 1) := by decide +kernel
theorem dX6_take_21 : decode cX6_take 21 = .ok (.iload_n 1, 1) := by decide +kernel
theorem dX6_take_22 : decode cX6_take 22 = .ok (.invokevirtual 92, 3) := by decide +kernel
theorem dX6_take_25 : decode cX6_take 25 = .ok (.astore_n 2, 1) := by decide +kernel
theorem dX6_take_26 : decode cX6_take 26 = .ok (.aload_n 2, 1) := by decide +kernel
theorem dX6_take_27 : decode cX6_take 27 = .ok (.ifnonnull 6, 3) := by decide +kernel
theorem dX6_take_30 : decode cX6_take 30 = .ok (.bipush (-101), 2) := by decide +kernel
theorem dX6_take_32 : decode cX6_take 32 = .ok (.ireturn, 1) := by decide +kernel
theorem dX6_take_33 : decode cX6_take 33 = .ok (.aload_n 0, 1) := by decide +kernel
theorem dX6_take_34 : decode cX6_take 34 = .ok (.getfield 14, 3) := by decide +kernel
theorem dX6_take_37 : decode cX6_take 37 = .ok (.aload_n 2, 1) := by decide +kernel
theorem dX6_take_38 : decode cX6_take 38 = .ok (.getfield 96, 3) := by decide +kernel
theorem dX6_take_41 : decode cX6_take 41 = .ok (.invokevirtual 99, 3) := by decide +kernel
theorem dX6_take_44 : decode cX6_take 44 = .ok (.aload_n 0, 1) := by decide +kernel
theorem dX6_take_45 : decode cX6_take 45 = .ok (.getfield 14, 3) := by decide +kernel
theorem dX6_take_48 : decode cX6_take 48 = .ok (.invokevirtual 71, 3) := by decide +kernel
theorem dX6_take_51 : decode cX6_take 51 = .ok (.ireturn, 1) := by decide +kernel
theorem dX6_desk_0 : decode cX6_desk 0 = .ok (.aload_n 0, 1) := by decide +kernel
theorem dX6_desk_1 : decode cX6_desk 1 = .ok (.getfield 14, 3) := by decide +kernel
theorem dX6_desk_4 : decode cX6_desk 4 = .ok (.iload_n 1, 1) := by decide +kernel
theorem dX6_desk_5 : decode cX6_desk 5 = .ok (.invokevirtual 82, 3) := by decide +kernel
theorem dX6_desk_8 : decode cX6_desk 8 = .ok (.ireturn, 1) := by decide +kernel
theorem dX6_keep_0 : decode cX6_keep 0 = .ok (.aload_n 0, 1) := by decide +kernel
theorem dX6_keep_1 : decode cX6_keep 1 = .ok (.iload_n 1, 1) := by decide +kernel
theorem dX6_keep_2 : decode cX6_keep 2 = .ok (.invokevirtual 103, 3) := by decide +kernel
theorem dX6_keep_5 : decode cX6_keep 5 = .ok (.ifCond .eq 11, 3) := by decide +kernel
theorem dX6_keep_8 : decode cX6_keep 8 = .ok (.aload_n 0, 1) := by decide +kernel
theorem dX6_keep_9 : decode cX6_keep 9 = .ok (.iload_n 2, 1) := by decide +kernel
theorem dX6_keep_10 : decode cX6_keep 10 = .ok (.invokevirtual 103, 3) := by decide +kernel
theorem dX6_keep_13 : decode cX6_keep 13 = .ok (.ifCond .ne 6, 3) := by decide +kernel
theorem dX6_keep_16 : decode cX6_keep 16 = .ok (.bipush (-101), 2) := by decide +kernel
theorem dX6_keep_18 : decode cX6_keep 18 = .ok (.ireturn, 1) := by decide +kernel
theorem dX6_keep_19 : decode cX6_keep 19 = .ok (.iload_n 2, 1) := by decide +kernel
theorem dX6_keep_20 : decode cX6_keep 20 = .ok (.iconst (-1), 1) := by decide +kernel
theorem dX6_keep_21 : decode cX6_keep 21 = .ok (.if_icmp .eq 16, 3) := by decide +kernel
theorem dX6_keep_24 : decode cX6_keep 24 = .ok (.iload_n 1, 1) := by decide +kernel
theorem dX6_keep_25 : decode cX6_keep 25 = .ok (.iload_n 2, 1) := by decide +kernel
theorem dX6_keep_26 : decode cX6_keep 26 = .ok (.if_icmp .eq 8, 3) := by decide +kernel
theorem dX6_keep_29 : decode cX6_keep 29 = .ok (.iload_n 1, 1) := by decide +kernel
theorem dX6_keep_30 : decode cX6_keep 30 = .ok (.iconst (-1), 1) := by decide +kernel
theorem dX6_keep_31 : decode cX6_keep 31 = .ok (.if_icmp .ne 6, 3) := by decide +kernel
theorem dX6_keep_34 : decode cX6_keep 34 = .ok (.bipush (-102), 2) := by decide +kernel
theorem dX6_keep_36 : decode cX6_keep 36 = .ok (.ireturn, 1) := by decide +kernel
theorem dX6_keep_37 : decode cX6_keep 37 = .ok (.aload_n 0, 1) := by decide +kernel
theorem dX6_keep_38 : decode cX6_keep 38 = .ok (.getfield 106, 3) := by decide +kernel
theorem dX6_keep_41 : decode cX6_keep 41 = .ok (.bipush 10, 2) := by decide +kernel
theorem dX6_keep_43 : decode cX6_keep 43 = .ok (.if_icmp .lt 6, 3) := by decide +kernel
theorem dX6_keep_46 : decode cX6_keep 46 = .ok (.bipush (-104), 2) := by decide +kernel
theorem dX6_keep_48 : decode cX6_keep 48 = .ok (.ireturn, 1) := by decide +kernel
theorem dX6_keep_49 : decode cX6_keep 49 = .ok (.new 21, 3) := by decide +kernel
theorem dX6_keep_52 : decode cX6_keep 52 = .ok (.dup, 1) := by decide +kernel
theorem dX6_keep_53 : decode cX6_keep 53 = .ok (.iload_n 1, 1) := by decide +kernel
theorem dX6_keep_54 : decode cX6_keep 54 = .ok (.iload_n 2, 1) := by decide +kernel
theorem dX6_keep_55 : decode cX6_keep 55 = .ok (.invokespecial 110, 3) := by decide +kernel
theorem dX6_keep_58 : decode cX6_keep 58 = .ok (.astore_n 3, 1) := by decide +kernel
theorem dX6_keep_59 : decode cX6_keep 59 = .ok (.aload_n 3, 1) := by decide +kernel
theorem dX6_keep_60 : decode cX6_keep 60 = .ok (.getfield 96, 3) := by decide +kernel
theorem dX6_keep_63 : decode cX6_keep 63 = .ok (.aload_n 0, 1) := by decide +kernel
theorem dX6_keep_64 : decode cX6_keep 64 = .ok (.getfield 14, 3) := by decide +kernel
theorem dX6_keep_67 : decode cX6_keep 67 = .ok (.invokevirtual 99, 3) := by decide +kernel
theorem dX6_keep_70 : decode cX6_keep 70 = .ok (.aload_n 0, 1) := by decide +kernel
theorem dX6_keep_71 : decode cX6_keep 71 = .ok (.getfield 106, 3) := by decide +kernel
theorem dX6_keep_74 : decode cX6_keep 74 = .ok (.istore 4, 2) := by decide +kernel
theorem dX6_keep_76 : decode cX6_keep 76 = .ok (.aload_n 0, 1) := by decide +kernel
theorem dX6_keep_77 : decode cX6_keep 77 = .ok (.getfield 23, 3) := by decide +kernel
theorem dX6_keep_80 : decode cX6_keep 80 = .ok (.iload 4, 2) := by decide +kernel
theorem dX6_keep_82 : decode cX6_keep 82 = .ok (.aload_n 3, 1) := by decide +kernel
theorem dX6_keep_83 : decode cX6_keep 83 = .ok (.aastore, 1) := by decide +kernel
theorem dX6_keep_84 : decode cX6_keep 84 = .ok (.aload_n 0, 1) := by decide +kernel
theorem dX6_keep_85 : decode cX6_keep 85 = .ok (.dup, 1) := by decide +kernel
theorem dX6_keep_86 : decode cX6_keep 86 = .ok (.getfield 106, 3) := by decide +kernel
theorem dX6_keep_89 : decode cX6_keep 89 = .ok (.iconst 1, 1) := by decide +kernel
theorem dX6_keep_90 : decode cX6_keep 90 = .ok (.iadd, 1) := by decide +kernel
theorem dX6_keep_91 : decode cX6_keep 91 = .ok (.putfield 106, 3) := by decide +kernel
theorem dX6_keep_94 : decode cX6_keep 94 = .ok (.aload_n 0, 1) := by decide +kernel
theorem dX6_keep_95 : decode cX6_keep 95 = .ok (.iload 4, 2) := by decide +kernel
theorem dX6_keep_97 : decode cX6_keep 97 = .ok (.invokevirtual 111, 3) := by decide +kernel
theorem dX6_keep_100 : decode cX6_keep 100 = .ok (.aload_n 0, 1) := by decide +kernel
theorem dX6_keep_101 : decode cX6_keep 101 = .ok (.iload 4, 2) := by decide +kernel
theorem dX6_keep_103 : decode cX6_keep 103 = .ok (.aload_n 3, 1) := by decide +kernel
theorem dX6_keep_104 : decode cX6_keep 104 = .ok (.invokevirtual 114, 3) := by decide +kernel
theorem dX6_keep_107 : decode cX6_keep 107 = .ok (.iload 4, 2) := by decide +kernel
theorem dX6_keep_109 : decode cX6_keep 109 = .ok (.ireturn, 1) := by decide +kernel
theorem dX6_text_0 : decode cX6_text 0 = .ok (.aload_n 0, 1) := by decide +kernel
theorem dX6_text_1 : decode cX6_text 1 = .ok (.iload_n 1, 1) := by decide +kernel
theorem dX6_text_2 : decode cX6_text 2 = .ok (.invokevirtual 92, 3) := by decide +kernel
theorem dX6_text_5 : decode cX6_text 5 = .ok (.astore_n 3, 1) := by decide +kernel
theorem dX6_text_6 : decode cX6_text 6 = .ok (.aload_n 3, 1) := by decide +kernel
theorem dX6_text_7 : decode cX6_text 7 = .ok (.ifnonnull 8, 3) := by decide +kernel
theorem dX6_text_10 : decode cX6_text 10 = .ok (.bipush (-101), 2) := by decide +kernel
theorem dX6_text_12 : decode cX6_text 12 = .ok (.goto 11, 3) := by decide +kernel
theorem dX6_text_15 : decode cX6_text 15 = .ok (.aload_n 3, 1) := by decide +kernel
theorem dX6_text_16 : decode cX6_text 16 = .ok (.getfield 96, 3) := by decide +kernel
theorem dX6_text_19 : decode cX6_text 19 = .ok (.iload_n 2, 1) := by decide +kernel
theorem dX6_text_20 : decode cX6_text 20 = .ok (.invokevirtual 82, 3) := by decide +kernel
theorem dX6_text_23 : decode cX6_text 23 = .ok (.ireturn, 1) := by decide +kernel
theorem dX6_about_0 : decode cX6_about 0 = .ok (.aload_n 0, 1) := by decide +kernel
theorem dX6_about_1 : decode cX6_about 1 = .ok (.iload_n 1, 1) := by decide +kernel
theorem dX6_about_2 : decode cX6_about 2 = .ok (.invokevirtual 92, 3) := by decide +kernel
theorem dX6_about_5 : decode cX6_about 5 = .ok (.astore_n 3, 1) := by decide +kernel
theorem dX6_about_6 : decode cX6_about 6 = .ok (.aload_n 3, 1) := by decide +kernel
theorem dX6_about_7 : decode cX6_about 7 = .ok (.ifnonnull 6, 3) := by decide +kernel
theorem dX6_about_10 : decode cX6_about 10 = .ok (.bipush (-101), 2) := by decide +kernel
theorem dX6_about_12 : decode cX6_about 12 = .ok (.ireturn, 1) := by decide +kernel
theorem dX6_about_13 : decode cX6_about 13 = .ok (.iload_n 2, 1) := by decide +kernel
theorem dX6_about_14 : decode cX6_about 14 = .ok (.tableswitch 65 0 4 #[34, 42, 47, 52, 57], 34) := by decide +kernel
theorem dX6_about_48 : decode cX6_about 48 = .ok (.aload_n 3, 1) := by decide +kernel
theorem dX6_about_49 : decode cX6_about 49 = .ok (.getfield 96, 3) := by decide +kernel
theorem dX6_about_52 : decode cX6_about 52 = .ok (.invokevirtual 71, 3) := by decide +kernel
theorem dX6_about_55 : decode cX6_about 55 = .ok (.ireturn, 1) := by decide +kernel
theorem dX6_about_56 : decode cX6_about 56 = .ok (.aload_n 3, 1) := by decide +kernel
theorem dX6_about_57 : decode cX6_about 57 = .ok (.getfield 118, 3) := by decide +kernel
theorem dX6_about_60 : decode cX6_about 60 = .ok (.ireturn, 1) := by decide +kernel
theorem dX6_about_61 : decode cX6_about 61 = .ok (.aload_n 3, 1) := by decide +kernel
theorem dX6_about_62 : decode cX6_about 62 = .ok (.getfield 121, 3) := by decide +kernel
theorem dX6_about_65 : decode cX6_about 65 = .ok (.ireturn, 1) := by decide +kernel
theorem dX6_about_66 : decode cX6_about 66 = .ok (.aload_n 3, 1) := by decide +kernel
theorem dX6_about_67 : decode cX6_about 67 = .ok (.getfield 124, 3) := by decide +kernel
theorem dX6_about_70 : decode cX6_about 70 = .ok (.ireturn, 1) := by decide +kernel
theorem dX6_about_71 : decode cX6_about 71 = .ok (.aload_n 3, 1) := by decide +kernel
theorem dX6_about_72 : decode cX6_about 72 = .ok (.getfield 96, 3) := by decide +kernel
theorem dX6_about_75 : decode cX6_about 75 = .ok (.invokevirtual 127, 3) := by decide +kernel
theorem dX6_about_78 : decode cX6_about 78 = .ok (.ireturn, 1) := by decide +kernel
theorem dX6_about_79 : decode cX6_about 79 = .ok (.bipush (-102), 2) := by decide +kernel
theorem dX6_about_81 : decode cX6_about 81 = .ok (.ireturn, 1) := by decide +kernel
theorem dX6_asked_0 : decode cX6_asked 0 = .ok (.aload_n 0, 1) := by decide +kernel
theorem dX6_asked_1 : decode cX6_asked 1 = .ok (.iload_n 1, 1) := by decide +kernel
theorem dX6_asked_2 : decode cX6_asked 2 = .ok (.invokevirtual 92, 3) := by decide +kernel
theorem dX6_asked_5 : decode cX6_asked 5 = .ok (.astore_n 3, 1) := by decide +kernel
theorem dX6_asked_6 : decode cX6_asked 6 = .ok (.aload_n 3, 1) := by decide +kernel
theorem dX6_asked_7 : decode cX6_asked 7 = .ok (.ifnonnull 6, 3) := by decide +kernel
theorem dX6_asked_10 : decode cX6_asked 10 = .ok (.bipush (-101), 2) := by decide +kernel
theorem dX6_asked_12 : decode cX6_asked 12 = .ok (.ireturn, 1) := by decide +kernel
theorem dX6_asked_13 : decode cX6_asked 13 = .ok (.iload_n 2, 1) := by decide +kernel
theorem dX6_asked_14 : decode cX6_asked 14 = .ok (.ifCond .lt 9, 3) := by decide +kernel
theorem dX6_asked_17 : decode cX6_asked 17 = .ok (.iload_n 2, 1) := by decide +kernel
theorem dX6_asked_18 : decode cX6_asked 18 = .ok (.bipush 9, 2) := by decide +kernel
theorem dX6_asked_20 : decode cX6_asked 20 = .ok (.if_icmp .le 6, 3) := by decide +kernel
theorem dX6_asked_23 : decode cX6_asked 23 = .ok (.bipush (-102), 2) := by decide +kernel
theorem dX6_asked_25 : decode cX6_asked 25 = .ok (.ireturn, 1) := by decide +kernel
theorem dX6_asked_26 : decode cX6_asked 26 = .ok (.aload_n 3, 1) := by decide +kernel
theorem dX6_asked_27 : decode cX6_asked 27 = .ok (.getfield 124, 3) := by decide +kernel
theorem dX6_asked_30 : decode cX6_asked 30 = .ok (.istore 4, 2) := by decide +kernel
theorem dX6_asked_32 : decode cX6_asked 32 = .ok (.aload_n 3, 1) := by decide +kernel
theorem dX6_asked_33 : decode cX6_asked 33 = .ok (.iload_n 2, 1) := by decide +kernel
theorem dX6_asked_34 : decode cX6_asked 34 = .ok (.putfield 124, 3) := by decide +kernel
theorem dX6_asked_37 : decode cX6_asked 37 = .ok (.iload 4, 2) := by decide +kernel
theorem dX6_asked_39 : decode cX6_asked 39 = .ok (.ireturn, 1) := by decide +kernel
theorem dX6_differ_0 : decode cX6_differ 0 = .ok (.aload_n 0, 1) := by decide +kernel
theorem dX6_differ_1 : decode cX6_differ 1 = .ok (.iload_n 1, 1) := by decide +kernel
theorem dX6_differ_2 : decode cX6_differ 2 = .ok (.invokevirtual 92, 3) := by decide +kernel
theorem dX6_differ_5 : decode cX6_differ 5 = .ok (.astore 4, 2) := by decide +kernel
theorem dX6_differ_7 : decode cX6_differ 7 = .ok (.aload_n 0, 1) := by decide +kernel
theorem dX6_differ_8 : decode cX6_differ 8 = .ok (.iload_n 2, 1) := by decide +kernel
theorem dX6_differ_9 : decode cX6_differ 9 = .ok (.invokevirtual 92, 3) := by decide +kernel
theorem dX6_differ_12 : decode cX6_differ 12 = .ok (.astore 5, 2) := by decide +kernel
theorem dX6_differ_14 : decode cX6_differ 14 = .ok (.aload 4, 2) := by decide +kernel
theorem dX6_differ_16 : decode cX6_differ 16 = .ok (.ifnull 8, 3) := by decide +kernel
theorem dX6_differ_19 : decode cX6_differ 19 = .ok (.aload 5, 2) := by decide +kernel
theorem dX6_differ_21 : decode cX6_differ 21 = .ok (.ifnonnull 6, 3) := by decide +kernel
theorem dX6_differ_24 : decode cX6_differ 24 = .ok (.bipush (-101), 2) := by decide +kernel
theorem dX6_differ_26 : decode cX6_differ 26 = .ok (.ireturn, 1) := by decide +kernel
theorem dX6_differ_27 : decode cX6_differ 27 = .ok (.iload_n 3, 1) := by decide +kernel
theorem dX6_differ_28 : decode cX6_differ 28 = .ok (.ifCond .lt 8, 3) := by decide +kernel
theorem dX6_differ_31 : decode cX6_differ 31 = .ok (.iload_n 3, 1) := by decide +kernel
theorem dX6_differ_32 : decode cX6_differ 32 = .ok (.iconst 4, 1) := by decide +kernel
theorem dX6_differ_33 : decode cX6_differ 33 = .ok (.if_icmp .le 6, 3) := by decide +kernel
theorem dX6_differ_36 : decode cX6_differ 36 = .ok (.bipush (-102), 2) := by decide +kernel
theorem dX6_differ_38 : decode cX6_differ 38 = .ok (.ireturn, 1) := by decide +kernel
theorem dX6_differ_39 : decode cX6_differ 39 = .ok (.aload_n 0, 1) := by decide +kernel
theorem dX6_differ_40 : decode cX6_differ 40 = .ok (.aload 4, 2) := by decide +kernel
theorem dX6_differ_42 : decode cX6_differ 42 = .ok (.aload 5, 2) := by decide +kernel
theorem dX6_differ_44 : decode cX6_differ 44 = .ok (.aload_n 0, 1) := by decide +kernel
theorem dX6_differ_45 : decode cX6_differ 45 = .ok (.getfield 47, 3) := by decide +kernel
theorem dX6_differ_48 : decode cX6_differ 48 = .ok (.invokevirtual 130, 3) := by decide +kernel
theorem dX6_differ_51 : decode cX6_differ 51 = .ok (.iload_n 3, 1) := by decide +kernel
theorem dX6_differ_52 : decode cX6_differ 52 = .ok (.ifCond .ne 22, 3) := by decide +kernel
theorem dX6_differ_55 : decode cX6_differ 55 = .ok (.aload 4, 2) := by decide +kernel
theorem dX6_differ_57 : decode cX6_differ 57 = .ok (.getfield 96, 3) := by decide +kernel
theorem dX6_differ_60 : decode cX6_differ 60 = .ok (.invokevirtual 71, 3) := by decide +kernel
theorem dX6_differ_63 : decode cX6_differ 63 = .ok (.aload_n 0, 1) := by decide +kernel
theorem dX6_differ_64 : decode cX6_differ 64 = .ok (.getfield 47, 3) := by decide +kernel
theorem dX6_differ_67 : decode cX6_differ 67 = .ok (.invokevirtual 134, 3) := by decide +kernel
theorem dX6_differ_70 : decode cX6_differ 70 = .ok (.isub, 1) := by decide +kernel
theorem dX6_differ_71 : decode cX6_differ 71 = .ok (.goto 13, 3) := by decide +kernel
theorem dX6_differ_74 : decode cX6_differ 74 = .ok (.aload_n 0, 1) := by decide +kernel
theorem dX6_differ_75 : decode cX6_differ 75 = .ok (.getfield 47, 3) := by decide +kernel
theorem dX6_differ_78 : decode cX6_differ 78 = .ok (.iload_n 3, 1) := by decide +kernel
theorem dX6_differ_79 : decode cX6_differ 79 = .ok (.iconst 1, 1) := by decide +kernel
theorem dX6_differ_80 : decode cX6_differ 80 = .ok (.isub, 1) := by decide +kernel
theorem dX6_differ_81 : decode cX6_differ 81 = .ok (.invokestatic 137, 3) := by decide +kernel
theorem dX6_differ_84 : decode cX6_differ 84 = .ok (.ireturn, 1) := by decide +kernel
theorem dX6_kept_0 : decode cX6_kept 0 = .ok (.aload_n 0, 1) := by decide +kernel
theorem dX6_kept_1 : decode cX6_kept 1 = .ok (.iload_n 1, 1) := by decide +kernel
theorem dX6_kept_2 : decode cX6_kept 2 = .ok (.invokevirtual 92, 3) := by decide +kernel
theorem dX6_kept_5 : decode cX6_kept 5 = .ok (.astore 4, 2) := by decide +kernel
theorem dX6_kept_7 : decode cX6_kept 7 = .ok (.aload_n 0, 1) := by decide +kernel
theorem dX6_kept_8 : decode cX6_kept 8 = .ok (.iload_n 2, 1) := by decide +kernel
theorem dX6_kept_9 : decode cX6_kept 9 = .ok (.invokevirtual 92, 3) := by decide +kernel
theorem dX6_kept_12 : decode cX6_kept 12 = .ok (.astore 5, 2) := by decide +kernel
theorem dX6_kept_14 : decode cX6_kept 14 = .ok (.aload 4, 2) := by decide +kernel
theorem dX6_kept_16 : decode cX6_kept 16 = .ok (.ifnull 24, 3) := by decide +kernel
theorem dX6_kept_19 : decode cX6_kept 19 = .ok (.aload 5, 2) := by decide +kernel
theorem dX6_kept_21 : decode cX6_kept 21 = .ok (.ifnull 19, 3) := by decide +kernel
theorem dX6_kept_24 : decode cX6_kept 24 = .ok (.iload_n 3, 1) := by decide +kernel
theorem dX6_kept_25 : decode cX6_kept 25 = .ok (.ifCond .lt 15, 3) := by decide +kernel
theorem dX6_kept_28 : decode cX6_kept 28 = .ok (.iload_n 3, 1) := by decide +kernel
theorem dX6_kept_29 : decode cX6_kept 29 = .ok (.aload 4, 2) := by decide +kernel
theorem dX6_kept_31 : decode cX6_kept 31 = .ok (.getfield 96, 3) := by decide +kernel
theorem dX6_kept_34 : decode cX6_kept 34 = .ok (.invokevirtual 71, 3) := by decide +kernel
theorem dX6_kept_37 : decode cX6_kept 37 = .ok (.if_icmp .lt 6, 3) := by decide +kernel
theorem dX6_kept_40 : decode cX6_kept 40 = .ok (.bipush (-101), 2) := by decide +kernel
theorem dX6_kept_42 : decode cX6_kept 42 = .ok (.ireturn, 1) := by decide +kernel
theorem dX6_kept_43 : decode cX6_kept 43 = .ok (.aload_n 0, 1) := by decide +kernel
theorem dX6_kept_44 : decode cX6_kept 44 = .ok (.getfield 40, 3) := by decide +kernel
theorem dX6_kept_47 : decode cX6_kept 47 = .ok (.aload 4, 2) := by decide +kernel
theorem dX6_kept_49 : decode cX6_kept 49 = .ok (.getfield 96, 3) := by decide +kernel
theorem dX6_kept_52 : decode cX6_kept 52 = .ok (.aload 5, 2) := by decide +kernel
theorem dX6_kept_54 : decode cX6_kept 54 = .ok (.getfield 96, 3) := by decide +kernel
theorem dX6_kept_57 : decode cX6_kept 57 = .ok (.invokevirtual 141, 3) := by decide +kernel
theorem dX6_kept_60 : decode cX6_kept 60 = .ok (.aload_n 0, 1) := by decide +kernel
theorem dX6_kept_61 : decode cX6_kept 61 = .ok (.getfield 40, 3) := by decide +kernel
theorem dX6_kept_64 : decode cX6_kept 64 = .ok (.iload_n 3, 1) := by decide +kernel
theorem dX6_kept_65 : decode cX6_kept 65 = .ok (.invokevirtual 145, 3) := by decide +kernel
theorem dX6_kept_68 : decode cX6_kept 68 = .ok (.ireturn, 1) := by decide +kernel
theorem dX6_patch_0 : decode cX6_patch 0 = .ok (.aload_n 0, 1) := by decide +kernel
theorem dX6_patch_1 : decode cX6_patch 1 = .ok (.iload_n 1, 1) := by decide +kernel
theorem dX6_patch_2 : decode cX6_patch 2 = .ok (.invokevirtual 92, 3) := by decide +kernel
theorem dX6_patch_5 : decode cX6_patch 5 = .ok (.astore_n 3, 1) := by decide +kernel
theorem dX6_patch_6 : decode cX6_patch 6 = .ok (.aload_n 0, 1) := by decide +kernel
theorem dX6_patch_7 : decode cX6_patch 7 = .ok (.iload_n 2, 1) := by decide +kernel
theorem dX6_patch_8 : decode cX6_patch 8 = .ok (.invokevirtual 92, 3) := by decide +kernel
theorem dX6_patch_11 : decode cX6_patch 11 = .ok (.astore 4, 2) := by decide +kernel
theorem dX6_patch_13 : decode cX6_patch 13 = .ok (.aload_n 3, 1) := by decide +kernel
theorem dX6_patch_14 : decode cX6_patch 14 = .ok (.ifnull 8, 3) := by decide +kernel
theorem dX6_patch_17 : decode cX6_patch 17 = .ok (.aload 4, 2) := by decide +kernel
theorem dX6_patch_19 : decode cX6_patch 19 = .ok (.ifnonnull 6, 3) := by decide +kernel
theorem dX6_patch_22 : decode cX6_patch 22 = .ok (.bipush (-101), 2) := by decide +kernel
theorem dX6_patch_24 : decode cX6_patch 24 = .ok (.ireturn, 1) := by decide +kernel
theorem dX6_patch_25 : decode cX6_patch 25 = .ok (.aload_n 0, 1) := by decide +kernel
theorem dX6_patch_26 : decode cX6_patch 26 = .ok (.iconst 1, 1) := by decide +kernel
theorem dX6_patch_27 : decode cX6_patch 27 = .ok (.invokevirtual 148, 3) := by decide +kernel
theorem dX6_patch_30 : decode cX6_patch 30 = .ok (.ifCond .ne 6, 3) := by decide +kernel
theorem dX6_patch_33 : decode cX6_patch 33 = .ok (.bipush (-104), 2) := by decide +kernel
theorem dX6_patch_35 : decode cX6_patch 35 = .ok (.ireturn, 1) := by decide +kernel
theorem dX6_patch_36 : decode cX6_patch 36 = .ok (.invokestatic 151, 3) := by decide +kernel
theorem dX6_patch_39 : decode cX6_patch 39 = .ok (.astore 5, 2) := by decide +kernel
theorem dX6_patch_41 : decode cX6_patch 41 = .ok (.aload_n 0, 1) := by decide +kernel
theorem dX6_patch_42 : decode cX6_patch 42 = .ok (.aload_n 3, 1) := by decide +kernel
theorem dX6_patch_43 : decode cX6_patch 43 = .ok (.aload 4, 2) := by decide +kernel
theorem dX6_patch_45 : decode cX6_patch 45 = .ok (.aload 5, 2) := by decide +kernel
theorem dX6_patch_47 : decode cX6_patch 47 = .ok (.invokevirtual 130, 3) := by decide +kernel
theorem dX6_patch_50 : decode cX6_patch 50 = .ok (.aload_n 0, 1) := by decide +kernel
theorem dX6_patch_51 : decode cX6_patch 51 = .ok (.aload 5, 2) := by decide +kernel
theorem dX6_patch_53 : decode cX6_patch 53 = .ok (.invokevirtual 155, 3) := by decide +kernel
theorem dX6_patch_56 : decode cX6_patch 56 = .ok (.ireturn, 1) := by decide +kernel
theorem dX6_blank_0 : decode cX6_blank 0 = .ok (.aload_n 0, 1) := by decide +kernel
theorem dX6_blank_1 : decode cX6_blank 1 = .ok (.iconst 1, 1) := by decide +kernel
theorem dX6_blank_2 : decode cX6_blank 2 = .ok (.invokevirtual 148, 3) := by decide +kernel
theorem dX6_blank_5 : decode cX6_blank 5 = .ok (.ifCond .eq 13, 3) := by decide +kernel
theorem dX6_blank_8 : decode cX6_blank 8 = .ok (.aload_n 0, 1) := by decide +kernel
theorem dX6_blank_9 : decode cX6_blank 9 = .ok (.invokestatic 151, 3) := by decide +kernel
theorem dX6_blank_12 : decode cX6_blank 12 = .ok (.invokevirtual 155, 3) := by decide +kernel
theorem dX6_blank_15 : decode cX6_blank 15 = .ok (.goto 5, 3) := by decide +kernel
theorem dX6_blank_18 : decode cX6_blank 18 = .ok (.bipush (-104), 2) := by decide +kernel
theorem dX6_blank_20 : decode cX6_blank 20 = .ok (.ireturn, 1) := by decide +kernel
theorem dX6_hunk_0 : decode cX6_hunk 0 = .ok (.aload_n 0, 1) := by decide +kernel
theorem dX6_hunk_1 : decode cX6_hunk 1 = .ok (.iload_n 1, 1) := by decide +kernel
theorem dX6_hunk_2 : decode cX6_hunk 2 = .ok (.invokevirtual 159, 3) := by decide +kernel
theorem dX6_hunk_5 : decode cX6_hunk 5 = .ok (.astore 5, 2) := by decide +kernel
theorem dX6_hunk_7 : decode cX6_hunk 7 = .ok (.aload 5, 2) := by decide +kernel
theorem dX6_hunk_9 : decode cX6_hunk 9 = .ok (.ifnonnull 6, 3) := by decide +kernel
theorem dX6_hunk_12 : decode cX6_hunk 12 = .ok (.bipush (-101), 2) := by decide +kernel
theorem dX6_hunk_14 : decode cX6_hunk 14 = .ok (.ireturn, 1) := by decide +kernel
theorem dX6_hunk_15 : decode cX6_hunk 15 = .ok (.iload_n 2, 1) := by decide +kernel
theorem dX6_hunk_16 : decode cX6_hunk 16 = .ok (.iload_n 3, 1) := by decide +kernel
theorem dX6_hunk_17 : decode cX6_hunk 17 = .ok (.iload 4, 2) := by decide +kernel
theorem dX6_hunk_19 : decode cX6_hunk 19 = .ok (.invokestatic 163, 3) := by decide +kernel
theorem dX6_hunk_22 : decode cX6_hunk 22 = .ok (.ifCond .eq 12, 3) := by decide +kernel
theorem dX6_hunk_25 : decode cX6_hunk 25 = .ok (.aload 5, 2) := by decide +kernel
theorem dX6_hunk_27 : decode cX6_hunk 27 = .ok (.iload_n 2, 1) := by decide +kernel
theorem dX6_hunk_28 : decode cX6_hunk 28 = .ok (.invokevirtual 167, 3) := by decide +kernel
theorem dX6_hunk_31 : decode cX6_hunk 31 = .ok (.ifCond .ne 6, 3) := by decide +kernel
theorem dX6_hunk_34 : decode cX6_hunk 34 = .ok (.bipush (-102), 2) := by decide +kernel
theorem dX6_hunk_36 : decode cX6_hunk 36 = .ok (.ireturn, 1) := by decide +kernel
theorem dX6_hunk_37 : decode cX6_hunk 37 = .ok (.iload_n 3, 1) := by decide +kernel
theorem dX6_hunk_38 : decode cX6_hunk 38 = .ok (.iconst (-1), 1) := by decide +kernel
theorem dX6_hunk_39 : decode cX6_hunk 39 = .ok (.if_icmp .ne 7, 3) := by decide +kernel
theorem dX6_hunk_42 : decode cX6_hunk 42 = .ok (.iconst 0, 1) := by decide +kernel
theorem dX6_hunk_43 : decode cX6_hunk 43 = .ok (.goto 4, 3) := by decide +kernel
theorem dX6_hunk_46 : decode cX6_hunk 46 = .ok (.iconst 1, 1) := by decide +kernel
theorem dX6_hunk_47 : decode cX6_hunk 47 = .ok (.istore 6, 2) := by decide +kernel
theorem dX6_hunk_49 : decode cX6_hunk 49 = .ok (.iload 4, 2) := by decide +kernel
theorem dX6_hunk_51 : decode cX6_hunk 51 = .ok (.iconst (-1), 1) := by decide +kernel
theorem dX6_hunk_52 : decode cX6_hunk 52 = .ok (.if_icmp .ne 7, 3) := by decide +kernel
theorem dX6_hunk_55 : decode cX6_hunk 55 = .ok (.iconst 0, 1) := by decide +kernel
theorem dX6_hunk_56 : decode cX6_hunk 56 = .ok (.goto 4, 3) := by decide +kernel
theorem dX6_hunk_59 : decode cX6_hunk 59 = .ok (.iconst 1, 1) := by decide +kernel
theorem dX6_hunk_60 : decode cX6_hunk 60 = .ok (.istore 7, 2) := by decide +kernel
theorem dX6_hunk_62 : decode cX6_hunk 62 = .ok (.aload 5, 2) := by decide +kernel
theorem dX6_hunk_64 : decode cX6_hunk 64 = .ok (.invokevirtual 170, 3) := by decide +kernel
theorem dX6_hunk_67 : decode cX6_hunk 67 = .ok (.iconst 1, 1) := by decide +kernel
theorem dX6_hunk_68 : decode cX6_hunk 68 = .ok (.iadd, 1) := by decide +kernel
theorem dX6_hunk_69 : decode cX6_hunk 69 = .ok (.aload 5, 2) := by decide +kernel
theorem dX6_hunk_71 : decode cX6_hunk 71 = .ok (.invokevirtual 134, 3) := by decide +kernel
theorem dX6_hunk_74 : decode cX6_hunk 74 = .ok (.iload 6, 2) := by decide +kernel
theorem dX6_hunk_76 : decode cX6_hunk 76 = .ok (.iadd, 1) := by decide +kernel
theorem dX6_hunk_77 : decode cX6_hunk 77 = .ok (.aload 5, 2) := by decide +kernel
theorem dX6_hunk_79 : decode cX6_hunk 79 = .ok (.invokevirtual 173, 3) := by decide +kernel
theorem dX6_hunk_82 : decode cX6_hunk 82 = .ok (.iload 7, 2) := by decide +kernel
theorem dX6_hunk_84 : decode cX6_hunk 84 = .ok (.iadd, 1) := by decide +kernel
theorem dX6_hunk_85 : decode cX6_hunk 85 = .ok (.invokestatic 176, 3) := by decide +kernel
theorem dX6_hunk_88 : decode cX6_hunk 88 = .ok (.ifCond .ne 6, 3) := by decide +kernel
theorem dX6_hunk_91 : decode cX6_hunk 91 = .ok (.bipush (-104), 2) := by decide +kernel
theorem dX6_hunk_93 : decode cX6_hunk 93 = .ok (.ireturn, 1) := by decide +kernel
theorem dX6_hunk_94 : decode cX6_hunk 94 = .ok (.aload 5, 2) := by decide +kernel
theorem dX6_hunk_96 : decode cX6_hunk 96 = .ok (.iload_n 2, 1) := by decide +kernel
theorem dX6_hunk_97 : decode cX6_hunk 97 = .ok (.invokevirtual 179, 3) := by decide +kernel
theorem dX6_hunk_100 : decode cX6_hunk 100 = .ok (.iload 6, 2) := by decide +kernel
theorem dX6_hunk_102 : decode cX6_hunk 102 = .ok (.iconst 1, 1) := by decide +kernel
theorem dX6_hunk_103 : decode cX6_hunk 103 = .ok (.if_icmp .ne 9, 3) := by decide +kernel
theorem dX6_hunk_106 : decode cX6_hunk 106 = .ok (.aload 5, 2) := by decide +kernel
theorem dX6_hunk_108 : decode cX6_hunk 108 = .ok (.iload_n 3, 1) := by decide +kernel
theorem dX6_hunk_109 : decode cX6_hunk 109 = .ok (.invokevirtual 182, 3) := by decide +kernel
theorem dX6_hunk_112 : decode cX6_hunk 112 = .ok (.iload 7, 2) := by decide +kernel
theorem dX6_hunk_114 : decode cX6_hunk 114 = .ok (.iconst 1, 1) := by decide +kernel
theorem dX6_hunk_115 : decode cX6_hunk 115 = .ok (.if_icmp .ne 10, 3) := by decide +kernel
theorem dX6_hunk_118 : decode cX6_hunk 118 = .ok (.aload 5, 2) := by decide +kernel
theorem dX6_hunk_120 : decode cX6_hunk 120 = .ok (.iload 4, 2) := by decide +kernel
theorem dX6_hunk_122 : decode cX6_hunk 122 = .ok (.invokevirtual 185, 3) := by decide +kernel
theorem dX6_hunk_125 : decode cX6_hunk 125 = .ok (.aload 5, 2) := by decide +kernel
theorem dX6_hunk_127 : decode cX6_hunk 127 = .ok (.invokevirtual 170, 3) := by decide +kernel
theorem dX6_hunk_130 : decode cX6_hunk 130 = .ok (.ireturn, 1) := by decide +kernel
theorem dX6_of_0 : decode cX6_of 0 = .ok (.aload_n 0, 1) := by decide +kernel
theorem dX6_of_1 : decode cX6_of 1 = .ok (.iload_n 1, 1) := by decide +kernel
theorem dX6_of_2 : decode cX6_of 2 = .ok (.invokevirtual 159, 3) := by decide +kernel
theorem dX6_of_5 : decode cX6_of 5 = .ok (.astore_n 3, 1) := by decide +kernel
theorem dX6_of_6 : decode cX6_of 6 = .ok (.aload_n 3, 1) := by decide +kernel
theorem dX6_of_7 : decode cX6_of 7 = .ok (.ifnonnull 6, 3) := by decide +kernel
theorem dX6_of_10 : decode cX6_of 10 = .ok (.bipush (-101), 2) := by decide +kernel
theorem dX6_of_12 : decode cX6_of 12 = .ok (.ireturn, 1) := by decide +kernel
theorem dX6_of_13 : decode cX6_of 13 = .ok (.iload_n 2, 1) := by decide +kernel
theorem dX6_of_14 : decode cX6_of 14 = .ok (.ifCond .lt 8, 3) := by decide +kernel
theorem dX6_of_17 : decode cX6_of 17 = .ok (.iload_n 2, 1) := by decide +kernel
theorem dX6_of_18 : decode cX6_of 18 = .ok (.iconst 3, 1) := by decide +kernel
theorem dX6_of_19 : decode cX6_of 19 = .ok (.if_icmp .le 8, 3) := by decide +kernel
theorem dX6_of_22 : decode cX6_of 22 = .ok (.bipush (-102), 2) := by decide +kernel
theorem dX6_of_24 : decode cX6_of 24 = .ok (.goto 8, 3) := by decide +kernel
theorem dX6_of_27 : decode cX6_of 27 = .ok (.aload_n 3, 1) := by decide +kernel
theorem dX6_of_28 : decode cX6_of 28 = .ok (.iload_n 2, 1) := by decide +kernel
theorem dX6_of_29 : decode cX6_of 29 = .ok (.invokestatic 137, 3) := by decide +kernel
theorem dX6_of_32 : decode cX6_of 32 = .ok (.ireturn, 1) := by decide +kernel
theorem dX6_hunkOf_0 : decode cX6_hunkOf 0 = .ok (.aload_n 0, 1) := by decide +kernel
theorem dX6_hunkOf_1 : decode cX6_hunkOf 1 = .ok (.iload_n 1, 1) := by decide +kernel
theorem dX6_hunkOf_2 : decode cX6_hunkOf 2 = .ok (.invokevirtual 159, 3) := by decide +kernel
theorem dX6_hunkOf_5 : decode cX6_hunkOf 5 = .ok (.astore 4, 2) := by decide +kernel
theorem dX6_hunkOf_7 : decode cX6_hunkOf 7 = .ok (.aload 4, 2) := by decide +kernel
theorem dX6_hunkOf_9 : decode cX6_hunkOf 9 = .ok (.ifnull 16, 3) := by decide +kernel
theorem dX6_hunkOf_12 : decode cX6_hunkOf 12 = .ok (.iload_n 2, 1) := by decide +kernel
theorem dX6_hunkOf_13 : decode cX6_hunkOf 13 = .ok (.ifCond .lt 12, 3) := by decide +kernel
theorem dX6_hunkOf_16 : decode cX6_hunkOf 16 = .ok (.iload_n 2, 1) := by decide +kernel
theorem dX6_hunkOf_17 : decode cX6_hunkOf 17 = .ok (.aload 4, 2) := by decide +kernel
theorem dX6_hunkOf_19 : decode cX6_hunkOf 19 = .ok (.invokevirtual 170, 3) := by decide +kernel
theorem dX6_hunkOf_22 : decode cX6_hunkOf 22 = .ok (.if_icmp .lt 6, 3) := by decide +kernel
theorem dX6_hunkOf_25 : decode cX6_hunkOf 25 = .ok (.bipush (-101), 2) := by decide +kernel
theorem dX6_hunkOf_27 : decode cX6_hunkOf 27 = .ok (.ireturn, 1) := by decide +kernel
theorem dX6_hunkOf_28 : decode cX6_hunkOf 28 = .ok (.iload_n 3, 1) := by decide +kernel
theorem dX6_hunkOf_29 : decode cX6_hunkOf 29 = .ok (.tableswitch 48 0 2 #[27, 34, 41], 27) := by decide +kernel
theorem dX6_hunkOf_56 : decode cX6_hunkOf 56 = .ok (.aload 4, 2) := by decide +kernel
theorem dX6_hunkOf_58 : decode cX6_hunkOf 58 = .ok (.iload_n 2, 1) := by decide +kernel
theorem dX6_hunkOf_59 : decode cX6_hunkOf 59 = .ok (.invokevirtual 188, 3) := by decide +kernel
theorem dX6_hunkOf_62 : decode cX6_hunkOf 62 = .ok (.ireturn, 1) := by decide +kernel
theorem dX6_hunkOf_63 : decode cX6_hunkOf 63 = .ok (.aload 4, 2) := by decide +kernel
theorem dX6_hunkOf_65 : decode cX6_hunkOf 65 = .ok (.iload_n 2, 1) := by decide +kernel
theorem dX6_hunkOf_66 : decode cX6_hunkOf 66 = .ok (.invokevirtual 191, 3) := by decide +kernel
theorem dX6_hunkOf_69 : decode cX6_hunkOf 69 = .ok (.ireturn, 1) := by decide +kernel
theorem dX6_hunkOf_70 : decode cX6_hunkOf 70 = .ok (.aload 4, 2) := by decide +kernel
theorem dX6_hunkOf_72 : decode cX6_hunkOf 72 = .ok (.iload_n 2, 1) := by decide +kernel
theorem dX6_hunkOf_73 : decode cX6_hunkOf 73 = .ok (.invokevirtual 194, 3) := by decide +kernel
theorem dX6_hunkOf_76 : decode cX6_hunkOf 76 = .ok (.ireturn, 1) := by decide +kernel
theorem dX6_hunkOf_77 : decode cX6_hunkOf 77 = .ok (.iload_n 3, 1) := by decide +kernel
theorem dX6_hunkOf_78 : decode cX6_hunkOf 78 = .ok (.bipush 10, 2) := by decide +kernel
theorem dX6_hunkOf_80 : decode cX6_hunkOf 80 = .ok (.if_icmp .lt 20, 3) := by decide +kernel
theorem dX6_hunkOf_83 : decode cX6_hunkOf 83 = .ok (.iload_n 3, 1) := by decide +kernel
theorem dX6_hunkOf_84 : decode cX6_hunkOf 84 = .ok (.bipush 38, 2) := by decide +kernel
theorem dX6_hunkOf_86 : decode cX6_hunkOf 86 = .ok (.if_icmp .ge 14, 3) := by decide +kernel
theorem dX6_hunkOf_89 : decode cX6_hunkOf 89 = .ok (.aload 4, 2) := by decide +kernel
theorem dX6_hunkOf_91 : decode cX6_hunkOf 91 = .ok (.iload_n 2, 1) := by decide +kernel
theorem dX6_hunkOf_92 : decode cX6_hunkOf 92 = .ok (.iload_n 3, 1) := by decide +kernel
theorem dX6_hunkOf_93 : decode cX6_hunkOf 93 = .ok (.bipush 10, 2) := by decide +kernel
theorem dX6_hunkOf_95 : decode cX6_hunkOf 95 = .ok (.isub, 1) := by decide +kernel
theorem dX6_hunkOf_96 : decode cX6_hunkOf 96 = .ok (.invokevirtual 197, 3) := by decide +kernel
theorem dX6_hunkOf_99 : decode cX6_hunkOf 99 = .ok (.ireturn, 1) := by decide +kernel
theorem dX6_hunkOf_100 : decode cX6_hunkOf 100 = .ok (.iload_n 3, 1) := by decide +kernel
theorem dX6_hunkOf_101 : decode cX6_hunkOf 101 = .ok (.bipush 40, 2) := by decide +kernel
theorem dX6_hunkOf_103 : decode cX6_hunkOf 103 = .ok (.if_icmp .lt 20, 3) := by decide +kernel
theorem dX6_hunkOf_106 : decode cX6_hunkOf 106 = .ok (.iload_n 3, 1) := by decide +kernel
theorem dX6_hunkOf_107 : decode cX6_hunkOf 107 = .ok (.bipush 68, 2) := by decide +kernel
theorem dX6_hunkOf_109 : decode cX6_hunkOf 109 = .ok (.if_icmp .ge 14, 3) := by decide +kernel
theorem dX6_hunkOf_112 : decode cX6_hunkOf 112 = .ok (.aload 4, 2) := by decide +kernel
theorem dX6_hunkOf_114 : decode cX6_hunkOf 114 = .ok (.iload_n 2, 1) := by decide +kernel
theorem dX6_hunkOf_115 : decode cX6_hunkOf 115 = .ok (.iload_n 3, 1) := by decide +kernel
theorem dX6_hunkOf_116 : decode cX6_hunkOf 116 = .ok (.bipush 40, 2) := by decide +kernel
theorem dX6_hunkOf_118 : decode cX6_hunkOf 118 = .ok (.isub, 1) := by decide +kernel
theorem dX6_hunkOf_119 : decode cX6_hunkOf 119 = .ok (.invokevirtual 201, 3) := by decide +kernel
theorem dX6_hunkOf_122 : decode cX6_hunkOf 122 = .ok (.ireturn, 1) := by decide +kernel
theorem dX6_hunkOf_123 : decode cX6_hunkOf 123 = .ok (.bipush (-102), 2) := by decide +kernel
theorem dX6_hunkOf_125 : decode cX6_hunkOf 125 = .ok (.ireturn, 1) := by decide +kernel
theorem dX6_fits_0 : decode cX6_fits 0 = .ok (.aload_n 0, 1) := by decide +kernel
theorem dX6_fits_1 : decode cX6_fits 1 = .ok (.iload_n 1, 1) := by decide +kernel
theorem dX6_fits_2 : decode cX6_fits 2 = .ok (.invokevirtual 159, 3) := by decide +kernel
theorem dX6_fits_5 : decode cX6_fits 5 = .ok (.astore_n 2, 1) := by decide +kernel
theorem dX6_fits_6 : decode cX6_fits 6 = .ok (.aload_n 2, 1) := by decide +kernel
theorem dX6_fits_7 : decode cX6_fits 7 = .ok (.ifnonnull 6, 3) := by decide +kernel
theorem dX6_fits_10 : decode cX6_fits 10 = .ok (.bipush (-101), 2) := by decide +kernel
theorem dX6_fits_12 : decode cX6_fits 12 = .ok (.ireturn, 1) := by decide +kernel
theorem dX6_fits_13 : decode cX6_fits 13 = .ok (.aload_n 2, 1) := by decide +kernel
theorem dX6_fits_14 : decode cX6_fits 14 = .ok (.aload_n 0, 1) := by decide +kernel
theorem dX6_fits_15 : decode cX6_fits 15 = .ok (.getfield 14, 3) := by decide +kernel
theorem dX6_fits_18 : decode cX6_fits 18 = .ok (.invokevirtual 204, 3) := by decide +kernel
theorem dX6_fits_21 : decode cX6_fits 21 = .ok (.ifCond .eq 7, 3) := by decide +kernel
theorem dX6_fits_24 : decode cX6_fits 24 = .ok (.iconst 1, 1) := by decide +kernel
theorem dX6_fits_25 : decode cX6_fits 25 = .ok (.goto 4, 3) := by decide +kernel
theorem dX6_fits_28 : decode cX6_fits 28 = .ok (.iconst 0, 1) := by decide +kernel
theorem dX6_fits_29 : decode cX6_fits 29 = .ok (.ireturn, 1) := by decide +kernel
theorem dX6_lay_0 : decode cX6_lay 0 = .ok (.aload_n 0, 1) := by decide +kernel
theorem dX6_lay_1 : decode cX6_lay 1 = .ok (.iload_n 1, 1) := by decide +kernel
theorem dX6_lay_2 : decode cX6_lay 2 = .ok (.invokevirtual 159, 3) := by decide +kernel
theorem dX6_lay_5 : decode cX6_lay 5 = .ok (.astore_n 2, 1) := by decide +kernel
theorem dX6_lay_6 : decode cX6_lay 6 = .ok (.aload_n 2, 1) := by decide +kernel
theorem dX6_lay_7 : decode cX6_lay 7 = .ok (.ifnonnull 6, 3) := by decide +kernel
theorem dX6_lay_10 : decode cX6_lay 10 = .ok (.bipush (-101), 2) := by decide +kernel
theorem dX6_lay_12 : decode cX6_lay 12 = .ok (.ireturn, 1) := by decide +kernel
theorem dX6_lay_13 : decode cX6_lay 13 = .ok (.aload_n 2, 1) := by decide +kernel
theorem dX6_lay_14 : decode cX6_lay 14 = .ok (.aload_n 0, 1) := by decide +kernel
theorem dX6_lay_15 : decode cX6_lay 15 = .ok (.getfield 14, 3) := by decide +kernel
theorem dX6_lay_18 : decode cX6_lay 18 = .ok (.invokevirtual 204, 3) := by decide +kernel
theorem dX6_lay_21 : decode cX6_lay 21 = .ok (.ifCond .ne 6, 3) := by decide +kernel
theorem dX6_lay_24 : decode cX6_lay 24 = .ok (.bipush (-103), 2) := by decide +kernel
theorem dX6_lay_26 : decode cX6_lay 26 = .ok (.ireturn, 1) := by decide +kernel
theorem dX6_lay_27 : decode cX6_lay 27 = .ok (.aload_n 2, 1) := by decide +kernel
theorem dX6_lay_28 : decode cX6_lay 28 = .ok (.aload_n 0, 1) := by decide +kernel
theorem dX6_lay_29 : decode cX6_lay 29 = .ok (.getfield 14, 3) := by decide +kernel
theorem dX6_lay_32 : decode cX6_lay 32 = .ok (.aload_n 0, 1) := by decide +kernel
theorem dX6_lay_33 : decode cX6_lay 33 = .ok (.getfield 18, 3) := by decide +kernel
theorem dX6_lay_36 : decode cX6_lay 36 = .ok (.invokevirtual 208, 3) := by decide +kernel
theorem dX6_lay_39 : decode cX6_lay 39 = .ok (.aload_n 0, 1) := by decide +kernel
theorem dX6_lay_40 : decode cX6_lay 40 = .ok (.invokevirtual 211, 3) := by decide +kernel
theorem dX6_lay_43 : decode cX6_lay 43 = .ok (.ireturn, 1) := by decide +kernel
theorem dX6_loose_0 : decode cX6_loose 0 = .ok (.aload_n 0, 1) := by decide +kernel
theorem dX6_loose_1 : decode cX6_loose 1 = .ok (.iload_n 1, 1) := by decide +kernel
theorem dX6_loose_2 : decode cX6_loose 2 = .ok (.invokevirtual 159, 3) := by decide +kernel
theorem dX6_loose_5 : decode cX6_loose 5 = .ok (.astore_n 2, 1) := by decide +kernel
theorem dX6_loose_6 : decode cX6_loose 6 = .ok (.aload_n 2, 1) := by decide +kernel
theorem dX6_loose_7 : decode cX6_loose 7 = .ok (.ifnonnull 6, 3) := by decide +kernel
theorem dX6_loose_10 : decode cX6_loose 10 = .ok (.bipush (-101), 2) := by decide +kernel
theorem dX6_loose_12 : decode cX6_loose 12 = .ok (.ireturn, 1) := by decide +kernel
theorem dX6_loose_13 : decode cX6_loose 13 = .ok (.aload_n 0, 1) := by decide +kernel
theorem dX6_loose_14 : decode cX6_loose 14 = .ok (.getfield 18, 3) := by decide +kernel
theorem dX6_loose_17 : decode cX6_loose 17 = .ok (.aload_n 0, 1) := by decide +kernel
theorem dX6_loose_18 : decode cX6_loose 18 = .ok (.getfield 14, 3) := by decide +kernel
theorem dX6_loose_21 : decode cX6_loose 21 = .ok (.invokevirtual 99, 3) := by decide +kernel
theorem dX6_loose_24 : decode cX6_loose 24 = .ok (.aload_n 2, 1) := by decide +kernel
theorem dX6_loose_25 : decode cX6_loose 25 = .ok (.aload_n 0, 1) := by decide +kernel
theorem dX6_loose_26 : decode cX6_loose 26 = .ok (.getfield 18, 3) := by decide +kernel
theorem dX6_loose_29 : decode cX6_loose 29 = .ok (.invokevirtual 214, 3) := by decide +kernel
theorem dX6_loose_32 : decode cX6_loose 32 = .ok (.istore_n 3, 1) := by decide +kernel
theorem dX6_loose_33 : decode cX6_loose 33 = .ok (.iload_n 3, 1) := by decide +kernel
theorem dX6_loose_34 : decode cX6_loose 34 = .ok (.iconst (-1), 1) := by decide +kernel
theorem dX6_loose_35 : decode cX6_loose 35 = .ok (.if_icmp .ne 6, 3) := by decide +kernel
theorem dX6_loose_38 : decode cX6_loose 38 = .ok (.bipush (-103), 2) := by decide +kernel
theorem dX6_loose_40 : decode cX6_loose 40 = .ok (.ireturn, 1) := by decide +kernel
theorem dX6_loose_41 : decode cX6_loose 41 = .ok (.aload_n 0, 1) := by decide +kernel
theorem dX6_loose_42 : decode cX6_loose 42 = .ok (.invokevirtual 211, 3) := by decide +kernel
theorem dX6_loose_45 : decode cX6_loose 45 = .ok (.bipush (-104), 2) := by decide +kernel
theorem dX6_loose_47 : decode cX6_loose 47 = .ok (.if_icmp .ne 8, 3) := by decide +kernel
theorem dX6_loose_50 : decode cX6_loose 50 = .ok (.bipush (-104), 2) := by decide +kernel
theorem dX6_loose_52 : decode cX6_loose 52 = .ok (.goto 4, 3) := by decide +kernel
theorem dX6_loose_55 : decode cX6_loose 55 = .ok (.iload_n 3, 1) := by decide +kernel
theorem dX6_loose_56 : decode cX6_loose 56 = .ok (.ireturn, 1) := by decide +kernel
theorem dX6_turn_0 : decode cX6_turn 0 = .ok (.aload_n 0, 1) := by decide +kernel
theorem dX6_turn_1 : decode cX6_turn 1 = .ok (.iload_n 1, 1) := by decide +kernel
theorem dX6_turn_2 : decode cX6_turn 2 = .ok (.invokevirtual 159, 3) := by decide +kernel
theorem dX6_turn_5 : decode cX6_turn 5 = .ok (.astore_n 2, 1) := by decide +kernel
theorem dX6_turn_6 : decode cX6_turn 6 = .ok (.aload_n 2, 1) := by decide +kernel
theorem dX6_turn_7 : decode cX6_turn 7 = .ok (.ifnonnull 6, 3) := by decide +kernel
theorem dX6_turn_10 : decode cX6_turn 10 = .ok (.bipush (-101), 2) := by decide +kernel
theorem dX6_turn_12 : decode cX6_turn 12 = .ok (.ireturn, 1) := by decide +kernel
theorem dX6_turn_13 : decode cX6_turn 13 = .ok (.aload_n 0, 1) := by decide +kernel
theorem dX6_turn_14 : decode cX6_turn 14 = .ok (.iconst 1, 1) := by decide +kernel
theorem dX6_turn_15 : decode cX6_turn 15 = .ok (.invokevirtual 148, 3) := by decide +kernel
theorem dX6_turn_18 : decode cX6_turn 18 = .ok (.ifCond .ne 6, 3) := by decide +kernel
theorem dX6_turn_21 : decode cX6_turn 21 = .ok (.bipush (-104), 2) := by decide +kernel
theorem dX6_turn_23 : decode cX6_turn 23 = .ok (.ireturn, 1) := by decide +kernel
theorem dX6_turn_24 : decode cX6_turn 24 = .ok (.invokestatic 151, 3) := by decide +kernel
theorem dX6_turn_27 : decode cX6_turn 27 = .ok (.astore_n 3, 1) := by decide +kernel
theorem dX6_turn_28 : decode cX6_turn 28 = .ok (.aload_n 3, 1) := by decide +kernel
theorem dX6_turn_29 : decode cX6_turn 29 = .ok (.aload_n 2, 1) := by decide +kernel
theorem dX6_turn_30 : decode cX6_turn 30 = .ok (.invokevirtual 218, 3) := by decide +kernel
theorem dX6_turn_33 : decode cX6_turn 33 = .ok (.aload_n 0, 1) := by decide +kernel
theorem dX6_turn_34 : decode cX6_turn 34 = .ok (.aload_n 3, 1) := by decide +kernel
theorem dX6_turn_35 : decode cX6_turn 35 = .ok (.invokevirtual 155, 3) := by decide +kernel
theorem dX6_turn_38 : decode cX6_turn 38 = .ok (.ireturn, 1) := by decide +kernel
theorem dX6_together_0 : decode cX6_together 0 = .ok (.aload_n 0, 1) := by decide +kernel
theorem dX6_together_1 : decode cX6_together 1 = .ok (.iload_n 1, 1) := by decide +kernel
theorem dX6_together_2 : decode cX6_together 2 = .ok (.invokevirtual 159, 3) := by decide +kernel
theorem dX6_together_5 : decode cX6_together 5 = .ok (.astore_n 3, 1) := by decide +kernel
theorem dX6_together_6 : decode cX6_together 6 = .ok (.aload_n 0, 1) := by decide +kernel
theorem dX6_together_7 : decode cX6_together 7 = .ok (.iload_n 2, 1) := by decide +kernel
theorem dX6_together_8 : decode cX6_together 8 = .ok (.invokevirtual 159, 3) := by decide +kernel
theorem dX6_together_11 : decode cX6_together 11 = .ok (.astore 4, 2) := by decide +kernel
theorem dX6_together_13 : decode cX6_together 13 = .ok (.aload_n 3, 1) := by decide +kernel
theorem dX6_together_14 : decode cX6_together 14 = .ok (.ifnull 8, 3) := by decide +kernel
theorem dX6_together_17 : decode cX6_together 17 = .ok (.aload 4, 2) := by decide +kernel
theorem dX6_together_19 : decode cX6_together 19 = .ok (.ifnonnull 6, 3) := by decide +kernel
theorem dX6_together_22 : decode cX6_together 22 = .ok (.bipush (-101), 2) := by decide +kernel
theorem dX6_together_24 : decode cX6_together 24 = .ok (.ireturn, 1) := by decide +kernel
theorem dX6_together_25 : decode cX6_together 25 = .ok (.aload_n 0, 1) := by decide +kernel
theorem dX6_together_26 : decode cX6_together 26 = .ok (.getfield 60, 3) := by decide +kernel
theorem dX6_together_29 : decode cX6_together 29 = .ok (.aload_n 3, 1) := by decide +kernel
theorem dX6_together_30 : decode cX6_together 30 = .ok (.aload 4, 2) := by decide +kernel
theorem dX6_together_32 : decode cX6_together 32 = .ok (.invokevirtual 222, 3) := by decide +kernel
theorem dX6_together_35 : decode cX6_together 35 = .ok (.ifCond .ne 6, 3) := by decide +kernel
theorem dX6_together_38 : decode cX6_together 38 = .ok (.bipush (-102), 2) := by decide +kernel
theorem dX6_together_40 : decode cX6_together 40 = .ok (.ireturn, 1) := by decide +kernel
theorem dX6_together_41 : decode cX6_together 41 = .ok (.aload_n 0, 1) := by decide +kernel
theorem dX6_together_42 : decode cX6_together 42 = .ok (.getfield 60, 3) := by decide +kernel
theorem dX6_together_45 : decode cX6_together 45 = .ok (.aload_n 3, 1) := by decide +kernel
theorem dX6_together_46 : decode cX6_together 46 = .ok (.aload 4, 2) := by decide +kernel
theorem dX6_together_48 : decode cX6_together 48 = .ok (.aload_n 0, 1) := by decide +kernel
theorem dX6_together_49 : decode cX6_together 49 = .ok (.getfield 54, 3) := by decide +kernel
theorem dX6_together_52 : decode cX6_together 52 = .ok (.invokevirtual 226, 3) := by decide +kernel
theorem dX6_together_55 : decode cX6_together 55 = .ok (.aload_n 0, 1) := by decide +kernel
theorem dX6_together_56 : decode cX6_together 56 = .ok (.iconst 1, 1) := by decide +kernel
theorem dX6_together_57 : decode cX6_together 57 = .ok (.invokevirtual 148, 3) := by decide +kernel
theorem dX6_together_60 : decode cX6_together 60 = .ok (.ifCond .eq 30, 3) := by decide +kernel
theorem dX6_together_63 : decode cX6_together 63 = .ok (.aload_n 0, 1) := by decide +kernel
theorem dX6_together_64 : decode cX6_together 64 = .ok (.getfield 54, 3) := by decide +kernel
theorem dX6_together_67 : decode cX6_together 67 = .ok (.invokevirtual 170, 3) := by decide +kernel
theorem dX6_together_70 : decode cX6_together 70 = .ok (.aload_n 0, 1) := by decide +kernel
theorem dX6_together_71 : decode cX6_together 71 = .ok (.getfield 54, 3) := by decide +kernel
theorem dX6_together_74 : decode cX6_together 74 = .ok (.invokevirtual 134, 3) := by decide +kernel
theorem dX6_together_77 : decode cX6_together 77 = .ok (.aload_n 0, 1) := by decide +kernel
theorem dX6_together_78 : decode cX6_together 78 = .ok (.getfield 54, 3) := by decide +kernel
theorem dX6_together_81 : decode cX6_together 81 = .ok (.invokevirtual 173, 3) := by decide +kernel
theorem dX6_together_84 : decode cX6_together 84 = .ok (.invokestatic 176, 3) := by decide +kernel
theorem dX6_together_87 : decode cX6_together 87 = .ok (.ifCond .ne 6, 3) := by decide +kernel
theorem dX6_together_90 : decode cX6_together 90 = .ok (.bipush (-104), 2) := by decide +kernel
theorem dX6_together_92 : decode cX6_together 92 = .ok (.ireturn, 1) := by decide +kernel
theorem dX6_together_93 : decode cX6_together 93 = .ok (.invokestatic 151, 3) := by decide +kernel
theorem dX6_together_96 : decode cX6_together 96 = .ok (.astore 5, 2) := by decide +kernel
theorem dX6_together_98 : decode cX6_together 98 = .ok (.aload 5, 2) := by decide +kernel
theorem dX6_together_100 : decode cX6_together 100 = .ok (.aload_n 0, 1) := by decide +kernel
theorem dX6_together_101 : decode cX6_together 101 = .ok (.getfield 54, 3) := by decide +kernel
theorem dX6_together_104 : decode cX6_together 104 = .ok (.invokevirtual 230, 3) := by decide +kernel
theorem dX6_together_107 : decode cX6_together 107 = .ok (.aload_n 0, 1) := by decide +kernel
theorem dX6_together_108 : decode cX6_together 108 = .ok (.aload 5, 2) := by decide +kernel
theorem dX6_together_110 : decode cX6_together 110 = .ok (.invokevirtual 155, 3) := by decide +kernel
theorem dX6_together_113 : decode cX6_together 113 = .ok (.ireturn, 1) := by decide +kernel
theorem dX6_swap_0 : decode cX6_swap 0 = .ok (.aload_n 0, 1) := by decide +kernel
theorem dX6_swap_1 : decode cX6_swap 1 = .ok (.iload_n 1, 1) := by decide +kernel
theorem dX6_swap_2 : decode cX6_swap 2 = .ok (.invokevirtual 159, 3) := by decide +kernel
theorem dX6_swap_5 : decode cX6_swap 5 = .ok (.astore_n 3, 1) := by decide +kernel
theorem dX6_swap_6 : decode cX6_swap 6 = .ok (.aload_n 0, 1) := by decide +kernel
theorem dX6_swap_7 : decode cX6_swap 7 = .ok (.iload_n 2, 1) := by decide +kernel
theorem dX6_swap_8 : decode cX6_swap 8 = .ok (.invokevirtual 159, 3) := by decide +kernel
theorem dX6_swap_11 : decode cX6_swap 11 = .ok (.astore 4, 2) := by decide +kernel
theorem dX6_swap_13 : decode cX6_swap 13 = .ok (.aload_n 3, 1) := by decide +kernel
theorem dX6_swap_14 : decode cX6_swap 14 = .ok (.ifnull 8, 3) := by decide +kernel
theorem dX6_swap_17 : decode cX6_swap 17 = .ok (.aload 4, 2) := by decide +kernel
theorem dX6_swap_19 : decode cX6_swap 19 = .ok (.ifnonnull 6, 3) := by decide +kernel
theorem dX6_swap_22 : decode cX6_swap 22 = .ok (.bipush (-101), 2) := by decide +kernel
theorem dX6_swap_24 : decode cX6_swap 24 = .ok (.ireturn, 1) := by decide +kernel
theorem dX6_swap_25 : decode cX6_swap 25 = .ok (.aload_n 0, 1) := by decide +kernel
theorem dX6_swap_26 : decode cX6_swap 26 = .ok (.getfield 60, 3) := by decide +kernel
theorem dX6_swap_29 : decode cX6_swap 29 = .ok (.aload_n 3, 1) := by decide +kernel
theorem dX6_swap_30 : decode cX6_swap 30 = .ok (.aload 4, 2) := by decide +kernel
theorem dX6_swap_32 : decode cX6_swap 32 = .ok (.invokevirtual 232, 3) := by decide +kernel
theorem dX6_swap_35 : decode cX6_swap 35 = .ok (.ifCond .eq 6, 3) := by decide +kernel
theorem dX6_swap_38 : decode cX6_swap 38 = .ok (.bipush (-103), 2) := by decide +kernel
theorem dX6_swap_40 : decode cX6_swap 40 = .ok (.ireturn, 1) := by decide +kernel
theorem dX6_swap_41 : decode cX6_swap 41 = .ok (.aload_n 0, 1) := by decide +kernel
theorem dX6_swap_42 : decode cX6_swap 42 = .ok (.iconst 2, 1) := by decide +kernel
theorem dX6_swap_43 : decode cX6_swap 43 = .ok (.invokevirtual 148, 3) := by decide +kernel
theorem dX6_swap_46 : decode cX6_swap 46 = .ok (.ifCond .ne 6, 3) := by decide +kernel
theorem dX6_swap_49 : decode cX6_swap 49 = .ok (.bipush (-104), 2) := by decide +kernel
theorem dX6_swap_51 : decode cX6_swap 51 = .ok (.ireturn, 1) := by decide +kernel
theorem dX6_swap_52 : decode cX6_swap 52 = .ok (.invokestatic 151, 3) := by decide +kernel
theorem dX6_swap_55 : decode cX6_swap 55 = .ok (.astore 5, 2) := by decide +kernel
theorem dX6_swap_57 : decode cX6_swap 57 = .ok (.aload_n 0, 1) := by decide +kernel
theorem dX6_swap_58 : decode cX6_swap 58 = .ok (.getfield 60, 3) := by decide +kernel
theorem dX6_swap_61 : decode cX6_swap 61 = .ok (.aload_n 3, 1) := by decide +kernel
theorem dX6_swap_62 : decode cX6_swap 62 = .ok (.aload 4, 2) := by decide +kernel
theorem dX6_swap_64 : decode cX6_swap 64 = .ok (.aload 5, 2) := by decide +kernel
theorem dX6_swap_66 : decode cX6_swap 66 = .ok (.invokevirtual 235, 3) := by decide +kernel
theorem dX6_swap_69 : decode cX6_swap 69 = .ok (.invokestatic 151, 3) := by decide +kernel
theorem dX6_swap_72 : decode cX6_swap 72 = .ok (.astore 6, 2) := by decide +kernel
theorem dX6_swap_74 : decode cX6_swap 74 = .ok (.aload_n 0, 1) := by decide +kernel
theorem dX6_swap_75 : decode cX6_swap 75 = .ok (.getfield 60, 3) := by decide +kernel
theorem dX6_swap_78 : decode cX6_swap 78 = .ok (.aload_n 3, 1) := by decide +kernel
theorem dX6_swap_79 : decode cX6_swap 79 = .ok (.aload 4, 2) := by decide +kernel
theorem dX6_swap_81 : decode cX6_swap 81 = .ok (.aload 6, 2) := by decide +kernel
theorem dX6_swap_83 : decode cX6_swap 83 = .ok (.invokevirtual 238, 3) := by decide +kernel
theorem dX6_swap_86 : decode cX6_swap 86 = .ok (.aload_n 0, 1) := by decide +kernel
theorem dX6_swap_87 : decode cX6_swap 87 = .ok (.aload 5, 2) := by decide +kernel
theorem dX6_swap_89 : decode cX6_swap 89 = .ok (.invokevirtual 155, 3) := by decide +kernel
theorem dX6_swap_92 : decode cX6_swap 92 = .ok (.istore 7, 2) := by decide +kernel
theorem dX6_swap_94 : decode cX6_swap 94 = .ok (.aload_n 0, 1) := by decide +kernel
theorem dX6_swap_95 : decode cX6_swap 95 = .ok (.aload 6, 2) := by decide +kernel
theorem dX6_swap_97 : decode cX6_swap 97 = .ok (.invokevirtual 155, 3) := by decide +kernel
theorem dX6_swap_100 : decode cX6_swap 100 = .ok (.pop, 1) := by decide +kernel
theorem dX6_swap_101 : decode cX6_swap 101 = .ok (.iload 7, 2) := by decide +kernel
theorem dX6_swap_103 : decode cX6_swap 103 = .ok (.ireturn, 1) := by decide +kernel
theorem dX6_clash_0 : decode cX6_clash 0 = .ok (.aload_n 0, 1) := by decide +kernel
theorem dX6_clash_1 : decode cX6_clash 1 = .ok (.iload_n 1, 1) := by decide +kernel
theorem dX6_clash_2 : decode cX6_clash 2 = .ok (.iload_n 2, 1) := by decide +kernel
theorem dX6_clash_3 : decode cX6_clash 3 = .ok (.iload_n 3, 1) := by decide +kernel
theorem dX6_clash_4 : decode cX6_clash 4 = .ok (.invokevirtual 241, 3) := by decide +kernel
theorem dX6_clash_7 : decode cX6_clash 7 = .ok (.ifCond .ne 6, 3) := by decide +kernel
theorem dX6_clash_10 : decode cX6_clash 10 = .ok (.bipush (-101), 2) := by decide +kernel
theorem dX6_clash_12 : decode cX6_clash 12 = .ok (.ireturn, 1) := by decide +kernel
theorem dX6_clash_13 : decode cX6_clash 13 = .ok (.aload_n 0, 1) := by decide +kernel
theorem dX6_clash_14 : decode cX6_clash 14 = .ok (.invokevirtual 244, 3) := by decide +kernel
theorem dX6_clash_17 : decode cX6_clash 17 = .ok (.ireturn, 1) := by decide +kernel
theorem dX6_join_0 : decode cX6_join 0 = .ok (.aload_n 0, 1) := by decide +kernel
theorem dX6_join_1 : decode cX6_join 1 = .ok (.iload_n 1, 1) := by decide +kernel
theorem dX6_join_2 : decode cX6_join 2 = .ok (.invokevirtual 92, 3) := by decide +kernel
theorem dX6_join_5 : decode cX6_join 5 = .ok (.astore 4, 2) := by decide +kernel
theorem dX6_join_7 : decode cX6_join 7 = .ok (.aload 4, 2) := by decide +kernel
theorem dX6_join_9 : decode cX6_join 9 = .ok (.ifnull 13, 3) := by decide +kernel
theorem dX6_join_12 : decode cX6_join 12 = .ok (.aload_n 0, 1) := by decide +kernel
theorem dX6_join_13 : decode cX6_join 13 = .ok (.iload_n 1, 1) := by decide +kernel
theorem dX6_join_14 : decode cX6_join 14 = .ok (.iload_n 2, 1) := by decide +kernel
theorem dX6_join_15 : decode cX6_join 15 = .ok (.iload_n 3, 1) := by decide +kernel
theorem dX6_join_16 : decode cX6_join 16 = .ok (.invokevirtual 241, 3) := by decide +kernel
theorem dX6_join_19 : decode cX6_join 19 = .ok (.ifCond .ne 6, 3) := by decide +kernel
theorem dX6_join_22 : decode cX6_join 22 = .ok (.bipush (-101), 2) := by decide +kernel
theorem dX6_join_24 : decode cX6_join 24 = .ok (.ireturn, 1) := by decide +kernel
theorem dX6_join_25 : decode cX6_join 25 = .ok (.aload_n 0, 1) := by decide +kernel
theorem dX6_join_26 : decode cX6_join 26 = .ok (.invokevirtual 244, 3) := by decide +kernel
theorem dX6_join_29 : decode cX6_join 29 = .ok (.ifCond .le 6, 3) := by decide +kernel
theorem dX6_join_32 : decode cX6_join 32 = .ok (.bipush (-103), 2) := by decide +kernel
theorem dX6_join_34 : decode cX6_join 34 = .ok (.ireturn, 1) := by decide +kernel
theorem dX6_join_35 : decode cX6_join 35 = .ok (.aload_n 0, 1) := by decide +kernel
theorem dX6_join_36 : decode cX6_join 36 = .ok (.invokevirtual 247, 3) := by decide +kernel
theorem dX6_join_39 : decode cX6_join 39 = .ok (.aload_n 0, 1) := by decide +kernel
theorem dX6_join_40 : decode cX6_join 40 = .ok (.getfield 54, 3) := by decide +kernel
theorem dX6_join_43 : decode cX6_join 43 = .ok (.aload 4, 2) := by decide +kernel
theorem dX6_join_45 : decode cX6_join 45 = .ok (.getfield 96, 3) := by decide +kernel
theorem dX6_join_48 : decode cX6_join 48 = .ok (.aload_n 0, 1) := by decide +kernel
theorem dX6_join_49 : decode cX6_join 49 = .ok (.getfield 18, 3) := by decide +kernel
theorem dX6_join_52 : decode cX6_join 52 = .ok (.invokevirtual 208, 3) := by decide +kernel
theorem dX6_join_55 : decode cX6_join 55 = .ok (.aload_n 0, 1) := by decide +kernel
theorem dX6_join_56 : decode cX6_join 56 = .ok (.invokevirtual 211, 3) := by decide +kernel
theorem dX6_join_59 : decode cX6_join 59 = .ok (.ireturn, 1) := by decide +kernel
theorem dX6_brought_0 : decode cX6_brought 0 = .ok (.aload_n 0, 1) := by decide +kernel
theorem dX6_brought_1 : decode cX6_brought 1 = .ok (.iload_n 1, 1) := by decide +kernel
theorem dX6_brought_2 : decode cX6_brought 2 = .ok (.invokevirtual 92, 3) := by decide +kernel
theorem dX6_brought_5 : decode cX6_brought 5 = .ok (.astore_n 3, 1) := by decide +kernel
theorem dX6_brought_6 : decode cX6_brought 6 = .ok (.aload_n 3, 1) := by decide +kernel
theorem dX6_brought_7 : decode cX6_brought 7 = .ok (.ifnull 18, 3) := by decide +kernel
theorem dX6_brought_10 : decode cX6_brought 10 = .ok (.iload_n 2, 1) := by decide +kernel
theorem dX6_brought_11 : decode cX6_brought 11 = .ok (.ifCond .lt 14, 3) := by decide +kernel
theorem dX6_brought_14 : decode cX6_brought 14 = .ok (.iload_n 2, 1) := by decide +kernel
theorem dX6_brought_15 : decode cX6_brought 15 = .ok (.aload_n 3, 1) := by decide +kernel
theorem dX6_brought_16 : decode cX6_brought 16 = .ok (.getfield 96, 3) := by decide +kernel
theorem dX6_brought_19 : decode cX6_brought 19 = .ok (.invokevirtual 71, 3) := by decide +kernel
theorem dX6_brought_22 : decode cX6_brought 22 = .ok (.if_icmp .lt 6, 3) := by decide +kernel
theorem dX6_brought_25 : decode cX6_brought 25 = .ok (.bipush (-101), 2) := by decide +kernel
theorem dX6_brought_27 : decode cX6_brought 27 = .ok (.ireturn, 1) := by decide +kernel
theorem dX6_brought_28 : decode cX6_brought 28 = .ok (.aload_n 3, 1) := by decide +kernel
theorem dX6_brought_29 : decode cX6_brought 29 = .ok (.iload_n 2, 1) := by decide +kernel
theorem dX6_brought_30 : decode cX6_brought 30 = .ok (.invokevirtual 250, 3) := by decide +kernel
theorem dX6_brought_33 : decode cX6_brought 33 = .ok (.ireturn, 1) := by decide +kernel
theorem dX6_share_0 : decode cX6_share 0 = .ok (.aload_n 0, 1) := by decide +kernel
theorem dX6_share_1 : decode cX6_share 1 = .ok (.iload_n 1, 1) := by decide +kernel
theorem dX6_share_2 : decode cX6_share 2 = .ok (.invokevirtual 92, 3) := by decide +kernel
theorem dX6_share_5 : decode cX6_share 5 = .ok (.astore_n 3, 1) := by decide +kernel
theorem dX6_share_6 : decode cX6_share 6 = .ok (.aload_n 3, 1) := by decide +kernel
theorem dX6_share_7 : decode cX6_share 7 = .ok (.ifnull 11, 3) := by decide +kernel
theorem dX6_share_10 : decode cX6_share 10 = .ok (.aload_n 0, 1) := by decide +kernel
theorem dX6_share_11 : decode cX6_share 11 = .ok (.iload_n 2, 1) := by decide +kernel
theorem dX6_share_12 : decode cX6_share 12 = .ok (.invokevirtual 92, 3) := by decide +kernel
theorem dX6_share_15 : decode cX6_share 15 = .ok (.ifnonnull 6, 3) := by decide +kernel
theorem dX6_share_18 : decode cX6_share 18 = .ok (.bipush (-101), 2) := by decide +kernel
theorem dX6_share_20 : decode cX6_share 20 = .ok (.ireturn, 1) := by decide +kernel
theorem dX6_share_21 : decode cX6_share 21 = .ok (.iconst 0, 1) := by decide +kernel
theorem dX6_share_22 : decode cX6_share 22 = .ok (.istore 4, 2) := by decide +kernel
theorem dX6_share_24 : decode cX6_share 24 = .ok (.iconst 0, 1) := by decide +kernel
theorem dX6_share_25 : decode cX6_share 25 = .ok (.istore 5, 2) := by decide +kernel
theorem dX6_share_27 : decode cX6_share 27 = .ok (.iload 5, 2) := by decide +kernel
theorem dX6_share_29 : decode cX6_share 29 = .ok (.aload_n 3, 1) := by decide +kernel
theorem dX6_share_30 : decode cX6_share 30 = .ok (.getfield 96, 3) := by decide +kernel
theorem dX6_share_33 : decode cX6_share 33 = .ok (.invokevirtual 71, 3) := by decide +kernel
theorem dX6_share_36 : decode cX6_share 36 = .ok (.if_icmp .ge 22, 3) := by decide +kernel
theorem dX6_share_39 : decode cX6_share 39 = .ok (.aload_n 3, 1) := by decide +kernel
theorem dX6_share_40 : decode cX6_share 40 = .ok (.iload 5, 2) := by decide +kernel
theorem dX6_share_42 : decode cX6_share 42 = .ok (.invokevirtual 250, 3) := by decide +kernel
theorem dX6_share_45 : decode cX6_share 45 = .ok (.iload_n 2, 1) := by decide +kernel
theorem dX6_share_46 : decode cX6_share 46 = .ok (.if_icmp .ne 6, 3) := by decide +kernel
theorem dX6_share_49 : decode cX6_share 49 = .ok (.iinc 4 1, 3) := by decide +kernel
theorem dX6_share_52 : decode cX6_share 52 = .ok (.iinc 5 1, 3) := by decide +kernel
theorem dX6_share_55 : decode cX6_share 55 = .ok (.goto (-28), 3) := by decide +kernel
theorem dX6_share_58 : decode cX6_share 58 = .ok (.iload 4, 2) := by decide +kernel
theorem dX6_share_60 : decode cX6_share 60 = .ok (.ireturn, 1) := by decide +kernel
theorem dX6_store_0 : decode cX6_store 0 = .ok (.iload_n 3, 1) := by decide +kernel
theorem dX6_store_1 : decode cX6_store 1 = .ok (.bipush 10, 2) := by decide +kernel
theorem dX6_store_3 : decode cX6_store 3 = .ok (.if_icmp .lt 13, 3) := by decide +kernel
theorem dX6_store_6 : decode cX6_store 6 = .ok (.iload_n 3, 1) := by decide +kernel
theorem dX6_store_7 : decode cX6_store 7 = .ok (.bipush 16, 2) := by decide +kernel
theorem dX6_store_9 : decode cX6_store 9 = .ok (.if_icmp .ge 7, 3) := by decide +kernel
theorem dX6_store_12 : decode cX6_store 12 = .ok (.iconst 1, 1) := by decide +kernel
theorem dX6_store_13 : decode cX6_store 13 = .ok (.goto 4, 3) := by decide +kernel
theorem dX6_store_16 : decode cX6_store 16 = .ok (.iconst 0, 1) := by decide +kernel
theorem dX6_store_17 : decode cX6_store 17 = .ok (.istore 4, 2) := by decide +kernel
theorem dX6_store_19 : decode cX6_store 19 = .ok (.iload_n 3, 1) := by decide +kernel
theorem dX6_store_20 : decode cX6_store 20 = .ok (.bipush 20, 2) := by decide +kernel
theorem dX6_store_22 : decode cX6_store 22 = .ok (.if_icmp .lt 13, 3) := by decide +kernel
theorem dX6_store_25 : decode cX6_store 25 = .ok (.iload_n 3, 1) := by decide +kernel
theorem dX6_store_26 : decode cX6_store 26 = .ok (.bipush 26, 2) := by decide +kernel
theorem dX6_store_28 : decode cX6_store 28 = .ok (.if_icmp .ge 7, 3) := by decide +kernel
theorem dX6_store_31 : decode cX6_store 31 = .ok (.iconst 1, 1) := by decide +kernel
theorem dX6_store_32 : decode cX6_store 32 = .ok (.goto 4, 3) := by decide +kernel
theorem dX6_store_35 : decode cX6_store 35 = .ok (.iconst 0, 1) := by decide +kernel
theorem dX6_store_36 : decode cX6_store 36 = .ok (.istore 5, 2) := by decide +kernel
theorem dX6_store_38 : decode cX6_store 38 = .ok (.aload_n 0, 1) := by decide +kernel
theorem dX6_store_39 : decode cX6_store 39 = .ok (.iload_n 1, 1) := by decide +kernel
theorem dX6_store_40 : decode cX6_store 40 = .ok (.iload_n 2, 1) := by decide +kernel
theorem dX6_store_41 : decode cX6_store 41 = .ok (.invokevirtual 253, 3) := by decide +kernel
theorem dX6_store_44 : decode cX6_store 44 = .ok (.ifCond .eq 22, 3) := by decide +kernel
theorem dX6_store_47 : decode cX6_store 47 = .ok (.iload_n 3, 1) := by decide +kernel
theorem dX6_store_48 : decode cX6_store 48 = .ok (.ifCond .eq 21, 3) := by decide +kernel
theorem dX6_store_51 : decode cX6_store 51 = .ok (.iload_n 3, 1) := by decide +kernel
theorem dX6_store_52 : decode cX6_store 52 = .ok (.iconst 1, 1) := by decide +kernel
theorem dX6_store_53 : decode cX6_store 53 = .ok (.if_icmp .eq 16, 3) := by decide +kernel
theorem dX6_store_56 : decode cX6_store 56 = .ok (.iload 4, 2) := by decide +kernel
theorem dX6_store_58 : decode cX6_store 58 = .ok (.ifCond .ne 11, 3) := by decide +kernel
theorem dX6_store_61 : decode cX6_store 61 = .ok (.iload 5, 2) := by decide +kernel
theorem dX6_store_63 : decode cX6_store 63 = .ok (.ifCond .ne 6, 3) := by decide +kernel
theorem dX6_store_66 : decode cX6_store 66 = .ok (.bipush (-102), 2) := by decide +kernel
theorem dX6_store_68 : decode cX6_store 68 = .ok (.ireturn, 1) := by decide +kernel
theorem dX6_store_69 : decode cX6_store 69 = .ok (.aload_n 0, 1) := by decide +kernel
theorem dX6_store_70 : decode cX6_store 70 = .ok (.getfield 257, 3) := by decide +kernel
theorem dX6_store_73 : decode cX6_store 73 = .ok (.bipush 30, 2) := by decide +kernel
theorem dX6_store_75 : decode cX6_store 75 = .ok (.if_icmp .lt 6, 3) := by decide +kernel
theorem dX6_store_78 : decode cX6_store 78 = .ok (.bipush (-103), 2) := by decide +kernel
theorem dX6_store_80 : decode cX6_store 80 = .ok (.ireturn, 1) := by decide +kernel
theorem dX6_store_81 : decode cX6_store 81 = .ok (.aload_n 0, 1) := by decide +kernel
theorem dX6_store_82 : decode cX6_store 82 = .ok (.iload_n 1, 1) := by decide +kernel
theorem dX6_store_83 : decode cX6_store 83 = .ok (.iload_n 2, 1) := by decide +kernel
theorem dX6_store_84 : decode cX6_store 84 = .ok (.invokevirtual 260, 3) := by decide +kernel
theorem dX6_store_87 : decode cX6_store 87 = .ok (.iload 4, 2) := by decide +kernel
theorem dX6_store_89 : decode cX6_store 89 = .ok (.ifCond .eq 15, 3) := by decide +kernel
theorem dX6_store_92 : decode cX6_store 92 = .ok (.aload_n 0, 1) := by decide +kernel
theorem dX6_store_93 : decode cX6_store 93 = .ok (.getfield 67, 3) := by decide +kernel
theorem dX6_store_96 : decode cX6_store 96 = .ok (.iload_n 3, 1) := by decide +kernel
theorem dX6_store_97 : decode cX6_store 97 = .ok (.bipush 10, 2) := by decide +kernel
theorem dX6_store_99 : decode cX6_store 99 = .ok (.isub, 1) := by decide +kernel
theorem dX6_store_100 : decode cX6_store 100 = .ok (.invokevirtual 263, 3) := by decide +kernel
theorem dX6_store_103 : decode cX6_store 103 = .ok (.ireturn, 1) := by decide +kernel
theorem dX6_store_104 : decode cX6_store 104 = .ok (.iload 5, 2) := by decide +kernel
theorem dX6_store_106 : decode cX6_store 106 = .ok (.ifCond .eq 15, 3) := by decide +kernel
theorem dX6_store_109 : decode cX6_store 109 = .ok (.aload_n 0, 1) := by decide +kernel
theorem dX6_store_110 : decode cX6_store 110 = .ok (.getfield 67, 3) := by decide +kernel
theorem dX6_store_113 : decode cX6_store 113 = .ok (.iload_n 3, 1) := by decide +kernel
theorem dX6_store_114 : decode cX6_store 114 = .ok (.bipush 20, 2) := by decide +kernel
theorem dX6_store_116 : decode cX6_store 116 = .ok (.isub, 1) := by decide +kernel
theorem dX6_store_117 : decode cX6_store 117 = .ok (.invokevirtual 266, 3) := by decide +kernel
theorem dX6_store_120 : decode cX6_store 120 = .ok (.ireturn, 1) := by decide +kernel
theorem dX6_store_121 : decode cX6_store 121 = .ok (.iload_n 3, 1) := by decide +kernel
theorem dX6_store_122 : decode cX6_store 122 = .ok (.ifCond .ne 13, 3) := by decide +kernel
theorem dX6_store_125 : decode cX6_store 125 = .ok (.aload_n 0, 1) := by decide +kernel
theorem dX6_store_126 : decode cX6_store 126 = .ok (.getfield 67, 3) := by decide +kernel
theorem dX6_store_129 : decode cX6_store 129 = .ok (.invokevirtual 269, 3) := by decide +kernel
theorem dX6_store_132 : decode cX6_store 132 = .ok (.goto 10, 3) := by decide +kernel
theorem dX6_store_135 : decode cX6_store 135 = .ok (.aload_n 0, 1) := by decide +kernel
theorem dX6_store_136 : decode cX6_store 136 = .ok (.getfield 67, 3) := by decide +kernel
theorem dX6_store_139 : decode cX6_store 139 = .ok (.invokevirtual 272, 3) := by decide +kernel
theorem dX6_store_142 : decode cX6_store 142 = .ok (.ireturn, 1) := by decide +kernel
theorem dX6_worst_0 : decode cX6_worst 0 = .ok (.aload_n 0, 1) := by decide +kernel
theorem dX6_worst_1 : decode cX6_worst 1 = .ok (.iload_n 1, 1) := by decide +kernel
theorem dX6_worst_2 : decode cX6_worst 2 = .ok (.iload_n 2, 1) := by decide +kernel
theorem dX6_worst_3 : decode cX6_worst 3 = .ok (.invokevirtual 253, 3) := by decide +kernel
theorem dX6_worst_6 : decode cX6_worst 6 = .ok (.ifCond .eq 12, 3) := by decide +kernel
theorem dX6_worst_9 : decode cX6_worst 9 = .ok (.iload_n 3, 1) := by decide +kernel
theorem dX6_worst_10 : decode cX6_worst 10 = .ok (.ifCond .lt 8, 3) := by decide +kernel
theorem dX6_worst_13 : decode cX6_worst 13 = .ok (.iload_n 3, 1) := by decide +kernel
theorem dX6_worst_14 : decode cX6_worst 14 = .ok (.iconst 1, 1) := by decide +kernel
theorem dX6_worst_15 : decode cX6_worst 15 = .ok (.if_icmp .le 6, 3) := by decide +kernel
theorem dX6_worst_18 : decode cX6_worst 18 = .ok (.bipush (-102), 2) := by decide +kernel
theorem dX6_worst_20 : decode cX6_worst 20 = .ok (.ireturn, 1) := by decide +kernel
theorem dX6_worst_21 : decode cX6_worst 21 = .ok (.aload_n 0, 1) := by decide +kernel
theorem dX6_worst_22 : decode cX6_worst 22 = .ok (.getfield 257, 3) := by decide +kernel
theorem dX6_worst_25 : decode cX6_worst 25 = .ok (.bipush 30, 2) := by decide +kernel
theorem dX6_worst_27 : decode cX6_worst 27 = .ok (.if_icmp .lt 6, 3) := by decide +kernel
theorem dX6_worst_30 : decode cX6_worst 30 = .ok (.bipush (-103), 2) := by decide +kernel
theorem dX6_worst_32 : decode cX6_worst 32 = .ok (.ireturn, 1) := by decide +kernel
theorem dX6_worst_33 : decode cX6_worst 33 = .ok (.aload_n 0, 1) := by decide +kernel
theorem dX6_worst_34 : decode cX6_worst 34 = .ok (.iload_n 1, 1) := by decide +kernel
theorem dX6_worst_35 : decode cX6_worst 35 = .ok (.iload_n 2, 1) := by decide +kernel
theorem dX6_worst_36 : decode cX6_worst 36 = .ok (.invokevirtual 260, 3) := by decide +kernel
theorem dX6_worst_39 : decode cX6_worst 39 = .ok (.aload_n 0, 1) := by decide +kernel
theorem dX6_worst_40 : decode cX6_worst 40 = .ok (.getfield 67, 3) := by decide +kernel
theorem dX6_worst_43 : decode cX6_worst 43 = .ok (.iconst (-1), 1) := by decide +kernel
theorem dX6_worst_44 : decode cX6_worst 44 = .ok (.invokevirtual 275, 3) := by decide +kernel
theorem dX6_worst_47 : decode cX6_worst 47 = .ok (.istore 4, 2) := by decide +kernel
theorem dX6_worst_49 : decode cX6_worst 49 = .ok (.iload_n 3, 1) := by decide +kernel
theorem dX6_worst_50 : decode cX6_worst 50 = .ok (.ifCond .eq 9, 3) := by decide +kernel
theorem dX6_worst_53 : decode cX6_worst 53 = .ok (.iload 4, 2) := by decide +kernel
theorem dX6_worst_55 : decode cX6_worst 55 = .ok (.iconst (-1), 1) := by decide +kernel
theorem dX6_worst_56 : decode cX6_worst 56 = .ok (.if_icmp .ne 8, 3) := by decide +kernel
theorem dX6_worst_59 : decode cX6_worst 59 = .ok (.iload 4, 2) := by decide +kernel
theorem dX6_worst_61 : decode cX6_worst 61 = .ok (.goto 12, 3) := by decide +kernel
theorem dX6_worst_64 : decode cX6_worst 64 = .ok (.aload_n 0, 1) := by decide +kernel
theorem dX6_worst_65 : decode cX6_worst 65 = .ok (.getfield 67, 3) := by decide +kernel
theorem dX6_worst_68 : decode cX6_worst 68 = .ok (.iload 4, 2) := by decide +kernel
theorem dX6_worst_70 : decode cX6_worst 70 = .ok (.invokevirtual 278, 3) := by decide +kernel
theorem dX6_worst_73 : decode cX6_worst 73 = .ok (.ireturn, 1) := by decide +kernel
theorem dX6_saved_0 : decode cX6_saved 0 = .ok (.aload_n 0, 1) := by decide +kernel
theorem dX6_saved_1 : decode cX6_saved 1 = .ok (.iload_n 1, 1) := by decide +kernel
theorem dX6_saved_2 : decode cX6_saved 2 = .ok (.iload_n 2, 1) := by decide +kernel
theorem dX6_saved_3 : decode cX6_saved 3 = .ok (.invokevirtual 253, 3) := by decide +kernel
theorem dX6_saved_6 : decode cX6_saved 6 = .ok (.ifCond .eq 24, 3) := by decide +kernel
theorem dX6_saved_9 : decode cX6_saved 9 = .ok (.iload_n 3, 1) := by decide +kernel
theorem dX6_saved_10 : decode cX6_saved 10 = .ok (.ifCond .lt 20, 3) := by decide +kernel
theorem dX6_saved_13 : decode cX6_saved 13 = .ok (.iload_n 3, 1) := by decide +kernel
theorem dX6_saved_14 : decode cX6_saved 14 = .ok (.bipush 99, 2) := by decide +kernel
theorem dX6_saved_16 : decode cX6_saved 16 = .ok (.if_icmp .gt 14, 3) := by decide +kernel
theorem dX6_saved_19 : decode cX6_saved 19 = .ok (.iload 4, 2) := by decide +kernel
theorem dX6_saved_21 : decode cX6_saved 21 = .ok (.ifCond .lt 9, 3) := by decide +kernel
theorem dX6_saved_24 : decode cX6_saved 24 = .ok (.iload 4, 2) := by decide +kernel
theorem dX6_saved_26 : decode cX6_saved 26 = .ok (.iconst 1, 1) := by decide +kernel
theorem dX6_saved_27 : decode cX6_saved 27 = .ok (.if_icmp .le 6, 3) := by decide +kernel
theorem dX6_saved_30 : decode cX6_saved 30 = .ok (.bipush (-102), 2) := by decide +kernel
theorem dX6_saved_32 : decode cX6_saved 32 = .ok (.ireturn, 1) := by decide +kernel
theorem dX6_saved_33 : decode cX6_saved 33 = .ok (.aload_n 0, 1) := by decide +kernel
theorem dX6_saved_34 : decode cX6_saved 34 = .ok (.getfield 257, 3) := by decide +kernel
theorem dX6_saved_37 : decode cX6_saved 37 = .ok (.bipush 30, 2) := by decide +kernel
theorem dX6_saved_39 : decode cX6_saved 39 = .ok (.if_icmp .lt 6, 3) := by decide +kernel
theorem dX6_saved_42 : decode cX6_saved 42 = .ok (.bipush (-103), 2) := by decide +kernel
theorem dX6_saved_44 : decode cX6_saved 44 = .ok (.ireturn, 1) := by decide +kernel
theorem dX6_saved_45 : decode cX6_saved 45 = .ok (.aload_n 0, 1) := by decide +kernel
theorem dX6_saved_46 : decode cX6_saved 46 = .ok (.iload_n 1, 1) := by decide +kernel
theorem dX6_saved_47 : decode cX6_saved 47 = .ok (.iload_n 2, 1) := by decide +kernel
theorem dX6_saved_48 : decode cX6_saved 48 = .ok (.invokevirtual 260, 3) := by decide +kernel
theorem dX6_saved_51 : decode cX6_saved 51 = .ok (.aload_n 0, 1) := by decide +kernel
theorem dX6_saved_52 : decode cX6_saved 52 = .ok (.getfield 67, 3) := by decide +kernel
theorem dX6_saved_55 : decode cX6_saved 55 = .ok (.iload_n 3, 1) := by decide +kernel
theorem dX6_saved_56 : decode cX6_saved 56 = .ok (.invokevirtual 281, 3) := by decide +kernel
theorem dX6_saved_59 : decode cX6_saved 59 = .ok (.istore 5, 2) := by decide +kernel
theorem dX6_saved_61 : decode cX6_saved 61 = .ok (.iload 4, 2) := by decide +kernel
theorem dX6_saved_63 : decode cX6_saved 63 = .ok (.ifCond .eq 9, 3) := by decide +kernel
theorem dX6_saved_66 : decode cX6_saved 66 = .ok (.iload 5, 2) := by decide +kernel
theorem dX6_saved_68 : decode cX6_saved 68 = .ok (.iconst (-1), 1) := by decide +kernel
theorem dX6_saved_69 : decode cX6_saved 69 = .ok (.if_icmp .ne 8, 3) := by decide +kernel
theorem dX6_saved_72 : decode cX6_saved 72 = .ok (.iload 5, 2) := by decide +kernel
theorem dX6_saved_74 : decode cX6_saved 74 = .ok (.goto 12, 3) := by decide +kernel
theorem dX6_saved_77 : decode cX6_saved 77 = .ok (.aload_n 0, 1) := by decide +kernel
theorem dX6_saved_78 : decode cX6_saved 78 = .ok (.getfield 67, 3) := by decide +kernel
theorem dX6_saved_81 : decode cX6_saved 81 = .ok (.iload 5, 2) := by decide +kernel
theorem dX6_saved_83 : decode cX6_saved 83 = .ok (.invokevirtual 284, 3) := by decide +kernel
theorem dX6_saved_86 : decode cX6_saved 86 = .ok (.ireturn, 1) := by decide +kernel
theorem dX6_count_0 : decode cX6_count 0 = .ok (.iload_n 1, 1) := by decide +kernel
theorem dX6_count_1 : decode cX6_count 1 = .ok (.tableswitch 54 0 3 #[31, 36, 44, 49], 31) := by decide +kernel
theorem dX6_count_32 : decode cX6_count 32 = .ok (.aload_n 0, 1) := by decide +kernel
theorem dX6_count_33 : decode cX6_count 33 = .ok (.getfield 106, 3) := by decide +kernel
theorem dX6_count_36 : decode cX6_count 36 = .ok (.ireturn, 1) := by decide +kernel
theorem dX6_count_37 : decode cX6_count 37 = .ok (.aload_n 0, 1) := by decide +kernel
theorem dX6_count_38 : decode cX6_count 38 = .ok (.getfield 14, 3) := by decide +kernel
theorem dX6_count_41 : decode cX6_count 41 = .ok (.invokevirtual 71, 3) := by decide +kernel
theorem dX6_count_44 : decode cX6_count 44 = .ok (.ireturn, 1) := by decide +kernel
theorem dX6_count_45 : decode cX6_count 45 = .ok (.aload_n 0, 1) := by decide +kernel
theorem dX6_count_46 : decode cX6_count 46 = .ok (.getfield 287, 3) := by decide +kernel
theorem dX6_count_49 : decode cX6_count 49 = .ok (.ireturn, 1) := by decide +kernel
theorem dX6_count_50 : decode cX6_count 50 = .ok (.aload_n 0, 1) := by decide +kernel
theorem dX6_count_51 : decode cX6_count 51 = .ok (.getfield 257, 3) := by decide +kernel
theorem dX6_count_54 : decode cX6_count 54 = .ok (.ireturn, 1) := by decide +kernel
theorem dX6_count_55 : decode cX6_count 55 = .ok (.bipush (-102), 2) := by decide +kernel
theorem dX6_count_57 : decode cX6_count 57 = .ok (.ireturn, 1) := by decide +kernel
theorem dX6_digest_0 : decode cX6_digest 0 = .ok (.aload_n 0, 1) := by decide +kernel
theorem dX6_digest_1 : decode cX6_digest 1 = .ok (.getfield 14, 3) := by decide +kernel
theorem dX6_digest_4 : decode cX6_digest 4 = .ok (.ldc2_w 290, 3) := by decide +kernel
theorem dX6_digest_7 : decode cX6_digest 7 = .ok (.invokevirtual 292, 3) := by decide +kernel
theorem dX6_digest_10 : decode cX6_digest 10 = .ok (.lstore_n 1, 1) := by decide +kernel
theorem dX6_digest_11 : decode cX6_digest 11 = .ok (.iconst 0, 1) := by decide +kernel
theorem dX6_digest_12 : decode cX6_digest 12 = .ok (.istore_n 3, 1) := by decide +kernel
theorem dX6_digest_13 : decode cX6_digest 13 = .ok (.iload_n 3, 1) := by decide +kernel
theorem dX6_digest_14 : decode cX6_digest 14 = .ok (.aload_n 0, 1) := by decide +kernel
theorem dX6_digest_15 : decode cX6_digest 15 = .ok (.getfield 106, 3) := by decide +kernel
theorem dX6_digest_18 : decode cX6_digest 18 = .ok (.if_icmp .ge 16, 3) := by decide +kernel
theorem dX6_digest_21 : decode cX6_digest 21 = .ok (.aload_n 0, 1) := by decide +kernel
theorem dX6_digest_22 : decode cX6_digest 22 = .ok (.lload_n 1, 1) := by decide +kernel
theorem dX6_digest_23 : decode cX6_digest 23 = .ok (.iload_n 3, 1) := by decide +kernel
theorem dX6_digest_24 : decode cX6_digest 24 = .ok (.invokevirtual 296, 3) := by decide +kernel
theorem dX6_digest_27 : decode cX6_digest 27 = .ok (.lstore_n 1, 1) := by decide +kernel
theorem dX6_digest_28 : decode cX6_digest 28 = .ok (.iinc 3 1, 3) := by decide +kernel
theorem dX6_digest_31 : decode cX6_digest 31 = .ok (.goto (-18), 3) := by decide +kernel
theorem dX6_digest_34 : decode cX6_digest 34 = .ok (.iconst 0, 1) := by decide +kernel
theorem dX6_digest_35 : decode cX6_digest 35 = .ok (.istore_n 3, 1) := by decide +kernel
theorem dX6_digest_36 : decode cX6_digest 36 = .ok (.iload_n 3, 1) := by decide +kernel
theorem dX6_digest_37 : decode cX6_digest 37 = .ok (.aload_n 0, 1) := by decide +kernel
theorem dX6_digest_38 : decode cX6_digest 38 = .ok (.getfield 287, 3) := by decide +kernel
theorem dX6_digest_41 : decode cX6_digest 41 = .ok (.if_icmp .ge 32, 3) := by decide +kernel
theorem dX6_digest_44 : decode cX6_digest 44 = .ok (.aload_n 0, 1) := by decide +kernel
theorem dX6_digest_45 : decode cX6_digest 45 = .ok (.iload_n 3, 1) := by decide +kernel
theorem dX6_digest_46 : decode cX6_digest 46 = .ok (.invokevirtual 159, 3) := by decide +kernel
theorem dX6_digest_49 : decode cX6_digest 49 = .ok (.astore 4, 2) := by decide +kernel
theorem dX6_digest_51 : decode cX6_digest 51 = .ok (.aload 4, 2) := by decide +kernel
theorem dX6_digest_53 : decode cX6_digest 53 = .ok (.ifnonnull 7, 3) := by decide +kernel
theorem dX6_digest_56 : decode cX6_digest 56 = .ok (.lload_n 1, 1) := by decide +kernel
theorem dX6_digest_57 : decode cX6_digest 57 = .ok (.goto 9, 3) := by decide +kernel
theorem dX6_digest_60 : decode cX6_digest 60 = .ok (.lload_n 1, 1) := by decide +kernel
theorem dX6_digest_61 : decode cX6_digest 61 = .ok (.aload 4, 2) := by decide +kernel
theorem dX6_digest_63 : decode cX6_digest 63 = .ok (.invokestatic 300, 3) := by decide +kernel
theorem dX6_digest_66 : decode cX6_digest 66 = .ok (.lstore_n 1, 1) := by decide +kernel
theorem dX6_digest_67 : decode cX6_digest 67 = .ok (.iinc 3 1, 3) := by decide +kernel
theorem dX6_digest_70 : decode cX6_digest 70 = .ok (.goto (-34), 3) := by decide +kernel
theorem dX6_digest_73 : decode cX6_digest 73 = .ok (.iconst 0, 1) := by decide +kernel
theorem dX6_digest_74 : decode cX6_digest 74 = .ok (.istore_n 3, 1) := by decide +kernel
theorem dX6_digest_75 : decode cX6_digest 75 = .ok (.iload_n 3, 1) := by decide +kernel
theorem dX6_digest_76 : decode cX6_digest 76 = .ok (.aload_n 0, 1) := by decide +kernel
theorem dX6_digest_77 : decode cX6_digest 77 = .ok (.getfield 106, 3) := by decide +kernel
theorem dX6_digest_80 : decode cX6_digest 80 = .ok (.if_icmp .ge 49, 3) := by decide +kernel
theorem dX6_digest_83 : decode cX6_digest 83 = .ok (.iconst 0, 1) := by decide +kernel
theorem dX6_digest_84 : decode cX6_digest 84 = .ok (.istore 4, 2) := by decide +kernel
theorem dX6_digest_86 : decode cX6_digest 86 = .ok (.iload 4, 2) := by decide +kernel
theorem dX6_digest_88 : decode cX6_digest 88 = .ok (.aload_n 0, 1) := by decide +kernel
theorem dX6_digest_89 : decode cX6_digest 89 = .ok (.getfield 106, 3) := by decide +kernel
theorem dX6_digest_92 : decode cX6_digest 92 = .ok (.if_icmp .ge 31, 3) := by decide +kernel
theorem dX6_digest_95 : decode cX6_digest 95 = .ok (.iload_n 3, 1) := by decide +kernel
theorem dX6_digest_96 : decode cX6_digest 96 = .ok (.iload 4, 2) := by decide +kernel
theorem dX6_digest_98 : decode cX6_digest 98 = .ok (.if_icmp .ne 7, 3) := by decide +kernel
theorem dX6_digest_101 : decode cX6_digest 101 = .ok (.lload_n 1, 1) := by decide +kernel
theorem dX6_digest_102 : decode cX6_digest 102 = .ok (.goto 14, 3) := by decide +kernel
theorem dX6_digest_105 : decode cX6_digest 105 = .ok (.lload_n 1, 1) := by decide +kernel
theorem dX6_digest_106 : decode cX6_digest 106 = .ok (.aload_n 0, 1) := by decide +kernel
theorem dX6_digest_107 : decode cX6_digest 107 = .ok (.iload_n 3, 1) := by decide +kernel
theorem dX6_digest_108 : decode cX6_digest 108 = .ok (.iload 4, 2) := by decide +kernel
theorem dX6_digest_110 : decode cX6_digest 110 = .ok (.invokevirtual 304, 3) := by decide +kernel
theorem dX6_digest_113 : decode cX6_digest 113 = .ok (.invokestatic 307, 3) := by decide +kernel
theorem dX6_digest_116 : decode cX6_digest 116 = .ok (.lstore_n 1, 1) := by decide +kernel
theorem dX6_digest_117 : decode cX6_digest 117 = .ok (.iinc 4 1, 3) := by decide +kernel
theorem dX6_digest_120 : decode cX6_digest 120 = .ok (.goto (-34), 3) := by decide +kernel
theorem dX6_digest_123 : decode cX6_digest 123 = .ok (.iinc 3 1, 3) := by decide +kernel
theorem dX6_digest_126 : decode cX6_digest 126 = .ok (.goto (-51), 3) := by decide +kernel
theorem dX6_digest_129 : decode cX6_digest 129 = .ok (.iconst 0, 1) := by decide +kernel
theorem dX6_digest_130 : decode cX6_digest 130 = .ok (.istore_n 3, 1) := by decide +kernel
theorem dX6_digest_131 : decode cX6_digest 131 = .ok (.iload_n 3, 1) := by decide +kernel
theorem dX6_digest_132 : decode cX6_digest 132 = .ok (.iconst 3, 1) := by decide +kernel
theorem dX6_digest_133 : decode cX6_digest 133 = .ok (.if_icmp .gt 19, 3) := by decide +kernel
theorem dX6_digest_136 : decode cX6_digest 136 = .ok (.lload_n 1, 1) := by decide +kernel
theorem dX6_digest_137 : decode cX6_digest 137 = .ok (.aload_n 0, 1) := by decide +kernel
theorem dX6_digest_138 : decode cX6_digest 138 = .ok (.iload_n 3, 1) := by decide +kernel
theorem dX6_digest_139 : decode cX6_digest 139 = .ok (.invokevirtual 310, 3) := by decide +kernel
theorem dX6_digest_142 : decode cX6_digest 142 = .ok (.invokestatic 307, 3) := by decide +kernel
theorem dX6_digest_145 : decode cX6_digest 145 = .ok (.lstore_n 1, 1) := by decide +kernel
theorem dX6_digest_146 : decode cX6_digest 146 = .ok (.iinc 3 1, 3) := by decide +kernel
theorem dX6_digest_149 : decode cX6_digest 149 = .ok (.goto (-18), 3) := by decide +kernel
theorem dX6_digest_152 : decode cX6_digest 152 = .ok (.lload_n 1, 1) := by decide +kernel
theorem dX6_digest_153 : decode cX6_digest 153 = .ok (.lreturn, 1) := by decide +kernel
theorem dX6_mixVersion_0 : decode cX6_mixVersion 0 = .ok (.lload_n 1, 1) := by decide +kernel
theorem dX6_mixVersion_1 : decode cX6_mixVersion 1 = .ok (.lstore 4, 2) := by decide +kernel
theorem dX6_mixVersion_3 : decode cX6_mixVersion 3 = .ok (.iconst 0, 1) := by decide +kernel
theorem dX6_mixVersion_4 : decode cX6_mixVersion 4 = .ok (.istore 6, 2) := by decide +kernel
theorem dX6_mixVersion_6 : decode cX6_mixVersion 6 = .ok (.iload 6, 2) := by decide +kernel
theorem dX6_mixVersion_8 : decode cX6_mixVersion 8 = .ok (.iconst 4, 1) := by decide +kernel
theorem dX6_mixVersion_9 : decode cX6_mixVersion 9 = .ok (.if_icmp .gt 23, 3) := by decide +kernel
theorem dX6_mixVersion_12 : decode cX6_mixVersion 12 = .ok (.lload 4, 2) := by decide +kernel
theorem dX6_mixVersion_14 : decode cX6_mixVersion 14 = .ok (.aload_n 0, 1) := by decide +kernel
theorem dX6_mixVersion_15 : decode cX6_mixVersion 15 = .ok (.iload_n 3, 1) := by decide +kernel
theorem dX6_mixVersion_16 : decode cX6_mixVersion 16 = .ok (.iload 6, 2) := by decide +kernel
theorem dX6_mixVersion_18 : decode cX6_mixVersion 18 = .ok (.invokevirtual 313, 3) := by decide +kernel
theorem dX6_mixVersion_21 : decode cX6_mixVersion 21 = .ok (.invokestatic 307, 3) := by decide +kernel
theorem dX6_mixVersion_24 : decode cX6_mixVersion 24 = .ok (.lstore 4, 2) := by decide +kernel
theorem dX6_mixVersion_26 : decode cX6_mixVersion 26 = .ok (.iinc 6 1, 3) := by decide +kernel
theorem dX6_mixVersion_29 : decode cX6_mixVersion 29 = .ok (.goto (-23), 3) := by decide +kernel
theorem dX6_mixVersion_32 : decode cX6_mixVersion 32 = .ok (.aload_n 0, 1) := by decide +kernel
theorem dX6_mixVersion_33 : decode cX6_mixVersion 33 = .ok (.iload_n 3, 1) := by decide +kernel
theorem dX6_mixVersion_34 : decode cX6_mixVersion 34 = .ok (.invokevirtual 92, 3) := by decide +kernel
theorem dX6_mixVersion_37 : decode cX6_mixVersion 37 = .ok (.astore 6, 2) := by decide +kernel
theorem dX6_mixVersion_39 : decode cX6_mixVersion 39 = .ok (.aload 6, 2) := by decide +kernel
theorem dX6_mixVersion_41 : decode cX6_mixVersion 41 = .ok (.ifnonnull 8, 3) := by decide +kernel
theorem dX6_mixVersion_44 : decode cX6_mixVersion 44 = .ok (.lload 4, 2) := by decide +kernel
theorem dX6_mixVersion_46 : decode cX6_mixVersion 46 = .ok (.goto 13, 3) := by decide +kernel
theorem dX6_mixVersion_49 : decode cX6_mixVersion 49 = .ok (.aload 6, 2) := by decide +kernel
theorem dX6_mixVersion_51 : decode cX6_mixVersion 51 = .ok (.getfield 96, 3) := by decide +kernel
theorem dX6_mixVersion_54 : decode cX6_mixVersion 54 = .ok (.lload 4, 2) := by decide +kernel
theorem dX6_mixVersion_56 : decode cX6_mixVersion 56 = .ok (.invokevirtual 292, 3) := by decide +kernel
theorem dX6_mixVersion_59 : decode cX6_mixVersion 59 = .ok (.lreturn, 1) := by decide +kernel
theorem dX6_mixPatch_0 : decode cX6_mixPatch 0 = .ok (.lload_n 0, 1) := by decide +kernel
theorem dX6_mixPatch_1 : decode cX6_mixPatch 1 = .ok (.lstore_n 3, 1) := by decide +kernel
theorem dX6_mixPatch_2 : decode cX6_mixPatch 2 = .ok (.iconst 0, 1) := by decide +kernel
theorem dX6_mixPatch_3 : decode cX6_mixPatch 3 = .ok (.istore 5, 2) := by decide +kernel
theorem dX6_mixPatch_5 : decode cX6_mixPatch 5 = .ok (.iload 5, 2) := by decide +kernel
theorem dX6_mixPatch_7 : decode cX6_mixPatch 7 = .ok (.iconst 3, 1) := by decide +kernel
theorem dX6_mixPatch_8 : decode cX6_mixPatch 8 = .ok (.if_icmp .gt 20, 3) := by decide +kernel
theorem dX6_mixPatch_11 : decode cX6_mixPatch 11 = .ok (.lload_n 3, 1) := by decide +kernel
theorem dX6_mixPatch_12 : decode cX6_mixPatch 12 = .ok (.aload_n 2, 1) := by decide +kernel
theorem dX6_mixPatch_13 : decode cX6_mixPatch 13 = .ok (.iload 5, 2) := by decide +kernel
theorem dX6_mixPatch_15 : decode cX6_mixPatch 15 = .ok (.invokestatic 137, 3) := by decide +kernel
theorem dX6_mixPatch_18 : decode cX6_mixPatch 18 = .ok (.invokestatic 307, 3) := by decide +kernel
theorem dX6_mixPatch_21 : decode cX6_mixPatch 21 = .ok (.lstore_n 3, 1) := by decide +kernel
theorem dX6_mixPatch_22 : decode cX6_mixPatch 22 = .ok (.iinc 5 1, 3) := by decide +kernel
theorem dX6_mixPatch_25 : decode cX6_mixPatch 25 = .ok (.goto (-20), 3) := by decide +kernel
theorem dX6_mixPatch_28 : decode cX6_mixPatch 28 = .ok (.iconst 0, 1) := by decide +kernel
theorem dX6_mixPatch_29 : decode cX6_mixPatch 29 = .ok (.istore 5, 2) := by decide +kernel
theorem dX6_mixPatch_31 : decode cX6_mixPatch 31 = .ok (.iload 5, 2) := by decide +kernel
theorem dX6_mixPatch_33 : decode cX6_mixPatch 33 = .ok (.aload_n 2, 1) := by decide +kernel
theorem dX6_mixPatch_34 : decode cX6_mixPatch 34 = .ok (.invokevirtual 170, 3) := by decide +kernel
theorem dX6_mixPatch_37 : decode cX6_mixPatch 37 = .ok (.if_icmp .ge 108, 3) := by decide +kernel
theorem dX6_mixPatch_40 : decode cX6_mixPatch 40 = .ok (.lload_n 3, 1) := by decide +kernel
theorem dX6_mixPatch_41 : decode cX6_mixPatch 41 = .ok (.aload_n 2, 1) := by decide +kernel
theorem dX6_mixPatch_42 : decode cX6_mixPatch 42 = .ok (.iload 5, 2) := by decide +kernel
theorem dX6_mixPatch_44 : decode cX6_mixPatch 44 = .ok (.invokevirtual 188, 3) := by decide +kernel
theorem dX6_mixPatch_47 : decode cX6_mixPatch 47 = .ok (.invokestatic 307, 3) := by decide +kernel
theorem dX6_mixPatch_50 : decode cX6_mixPatch 50 = .ok (.lstore_n 3, 1) := by decide +kernel
theorem dX6_mixPatch_51 : decode cX6_mixPatch 51 = .ok (.lload_n 3, 1) := by decide +kernel
theorem dX6_mixPatch_52 : decode cX6_mixPatch 52 = .ok (.aload_n 2, 1) := by decide +kernel
theorem dX6_mixPatch_53 : decode cX6_mixPatch 53 = .ok (.iload 5, 2) := by decide +kernel
theorem dX6_mixPatch_55 : decode cX6_mixPatch 55 = .ok (.invokevirtual 191, 3) := by decide +kernel
theorem dX6_mixPatch_58 : decode cX6_mixPatch 58 = .ok (.invokestatic 307, 3) := by decide +kernel
theorem dX6_mixPatch_61 : decode cX6_mixPatch 61 = .ok (.lstore_n 3, 1) := by decide +kernel
theorem dX6_mixPatch_62 : decode cX6_mixPatch 62 = .ok (.lload_n 3, 1) := by decide +kernel
theorem dX6_mixPatch_63 : decode cX6_mixPatch 63 = .ok (.aload_n 2, 1) := by decide +kernel
theorem dX6_mixPatch_64 : decode cX6_mixPatch 64 = .ok (.iload 5, 2) := by decide +kernel
theorem dX6_mixPatch_66 : decode cX6_mixPatch 66 = .ok (.invokevirtual 194, 3) := by decide +kernel
theorem dX6_mixPatch_69 : decode cX6_mixPatch 69 = .ok (.invokestatic 307, 3) := by decide +kernel
theorem dX6_mixPatch_72 : decode cX6_mixPatch 72 = .ok (.lstore_n 3, 1) := by decide +kernel
theorem dX6_mixPatch_73 : decode cX6_mixPatch 73 = .ok (.iconst 0, 1) := by decide +kernel
theorem dX6_mixPatch_74 : decode cX6_mixPatch 74 = .ok (.istore 6, 2) := by decide +kernel
theorem dX6_mixPatch_76 : decode cX6_mixPatch 76 = .ok (.iload 6, 2) := by decide +kernel
theorem dX6_mixPatch_78 : decode cX6_mixPatch 78 = .ok (.aload_n 2, 1) := by decide +kernel
theorem dX6_mixPatch_79 : decode cX6_mixPatch 79 = .ok (.iload 5, 2) := by decide +kernel
theorem dX6_mixPatch_81 : decode cX6_mixPatch 81 = .ok (.invokevirtual 191, 3) := by decide +kernel
theorem dX6_mixPatch_84 : decode cX6_mixPatch 84 = .ok (.if_icmp .ge 22, 3) := by decide +kernel
theorem dX6_mixPatch_87 : decode cX6_mixPatch 87 = .ok (.lload_n 3, 1) := by decide +kernel
theorem dX6_mixPatch_88 : decode cX6_mixPatch 88 = .ok (.aload_n 2, 1) := by decide +kernel
theorem dX6_mixPatch_89 : decode cX6_mixPatch 89 = .ok (.iload 5, 2) := by decide +kernel
theorem dX6_mixPatch_91 : decode cX6_mixPatch 91 = .ok (.iload 6, 2) := by decide +kernel
theorem dX6_mixPatch_93 : decode cX6_mixPatch 93 = .ok (.invokevirtual 197, 3) := by decide +kernel
theorem dX6_mixPatch_96 : decode cX6_mixPatch 96 = .ok (.invokestatic 307, 3) := by decide +kernel
theorem dX6_mixPatch_99 : decode cX6_mixPatch 99 = .ok (.lstore_n 3, 1) := by decide +kernel
theorem dX6_mixPatch_100 : decode cX6_mixPatch 100 = .ok (.iinc 6 1, 3) := by decide +kernel
theorem dX6_mixPatch_103 : decode cX6_mixPatch 103 = .ok (.goto (-27), 3) := by decide +kernel
theorem dX6_mixPatch_106 : decode cX6_mixPatch 106 = .ok (.iconst 0, 1) := by decide +kernel
theorem dX6_mixPatch_107 : decode cX6_mixPatch 107 = .ok (.istore 6, 2) := by decide +kernel
theorem dX6_mixPatch_109 : decode cX6_mixPatch 109 = .ok (.iload 6, 2) := by decide +kernel
theorem dX6_mixPatch_111 : decode cX6_mixPatch 111 = .ok (.aload_n 2, 1) := by decide +kernel
theorem dX6_mixPatch_112 : decode cX6_mixPatch 112 = .ok (.iload 5, 2) := by decide +kernel
theorem dX6_mixPatch_114 : decode cX6_mixPatch 114 = .ok (.invokevirtual 194, 3) := by decide +kernel
theorem dX6_mixPatch_117 : decode cX6_mixPatch 117 = .ok (.if_icmp .ge 22, 3) := by decide +kernel
theorem dX6_mixPatch_120 : decode cX6_mixPatch 120 = .ok (.lload_n 3, 1) := by decide +kernel
theorem dX6_mixPatch_121 : decode cX6_mixPatch 121 = .ok (.aload_n 2, 1) := by decide +kernel
theorem dX6_mixPatch_122 : decode cX6_mixPatch 122 = .ok (.iload 5, 2) := by decide +kernel
theorem dX6_mixPatch_124 : decode cX6_mixPatch 124 = .ok (.iload 6, 2) := by decide +kernel
theorem dX6_mixPatch_126 : decode cX6_mixPatch 126 = .ok (.invokevirtual 201, 3) := by decide +kernel
theorem dX6_mixPatch_129 : decode cX6_mixPatch 129 = .ok (.invokestatic 307, 3) := by decide +kernel
theorem dX6_mixPatch_132 : decode cX6_mixPatch 132 = .ok (.lstore_n 3, 1) := by decide +kernel
theorem dX6_mixPatch_133 : decode cX6_mixPatch 133 = .ok (.iinc 6 1, 3) := by decide +kernel
theorem dX6_mixPatch_136 : decode cX6_mixPatch 136 = .ok (.goto (-27), 3) := by decide +kernel
theorem dX6_mixPatch_139 : decode cX6_mixPatch 139 = .ok (.iinc 5 1, 3) := by decide +kernel
theorem dX6_mixPatch_142 : decode cX6_mixPatch 142 = .ok (.goto (-111), 3) := by decide +kernel
theorem dX6_mixPatch_145 : decode cX6_mixPatch 145 = .ok (.lload_n 3, 1) := by decide +kernel
theorem dX6_mixPatch_146 : decode cX6_mixPatch 146 = .ok (.lreturn, 1) := by decide +kernel
theorem dX6_mix_0 : decode cX6_mix 0 = .ok (.ldc2_w 316, 3) := by decide +kernel
theorem dX6_mix_3 : decode cX6_mix 3 = .ok (.lload_n 0, 1) := by decide +kernel
theorem dX6_mix_4 : decode cX6_mix 4 = .ok (.lmul, 1) := by decide +kernel
theorem dX6_mix_5 : decode cX6_mix 5 = .ok (.iload_n 2, 1) := by decide +kernel
theorem dX6_mix_6 : decode cX6_mix 6 = .ok (.i2l, 1) := by decide +kernel
theorem dX6_mix_7 : decode cX6_mix 7 = .ok (.ladd, 1) := by decide +kernel
theorem dX6_mix_8 : decode cX6_mix 8 = .ok (.lreturn, 1) := by decide +kernel
theorem dX6_isLine_0 : decode cX6_isLine 0 = .ok (.iload_n 0, 1) := by decide +kernel
theorem dX6_isLine_1 : decode cX6_isLine 1 = .ok (.ifCond .lt 13, 3) := by decide +kernel
theorem dX6_isLine_4 : decode cX6_isLine 4 = .ok (.iload_n 0, 1) := by decide +kernel
theorem dX6_isLine_5 : decode cX6_isLine 5 = .ok (.bipush 99, 2) := by decide +kernel
theorem dX6_isLine_7 : decode cX6_isLine 7 = .ok (.if_icmp .gt 7, 3) := by decide +kernel
theorem dX6_isLine_10 : decode cX6_isLine 10 = .ok (.iconst 1, 1) := by decide +kernel
theorem dX6_isLine_11 : decode cX6_isLine 11 = .ok (.goto 4, 3) := by decide +kernel
theorem dX6_isLine_14 : decode cX6_isLine 14 = .ok (.iconst 0, 1) := by decide +kernel
theorem dX6_isLine_15 : decode cX6_isLine 15 = .ok (.ireturn, 1) := by decide +kernel
theorem dX6_isHunk_0 : decode cX6_isHunk 0 = .ok (.iload_n 1, 1) := by decide +kernel
theorem dX6_isHunk_1 : decode cX6_isHunk 1 = .ok (.iconst (-1), 1) := by decide +kernel
theorem dX6_isHunk_2 : decode cX6_isHunk 2 = .ok (.if_icmp .eq 10, 3) := by decide +kernel
theorem dX6_isHunk_5 : decode cX6_isHunk 5 = .ok (.iload_n 1, 1) := by decide +kernel
theorem dX6_isHunk_6 : decode cX6_isHunk 6 = .ok (.invokestatic 75, 3) := by decide +kernel
theorem dX6_isHunk_9 : decode cX6_isHunk 9 = .ok (.ifCond .eq 19, 3) := by decide +kernel
theorem dX6_isHunk_12 : decode cX6_isHunk 12 = .ok (.iload_n 2, 1) := by decide +kernel
theorem dX6_isHunk_13 : decode cX6_isHunk 13 = .ok (.iconst (-1), 1) := by decide +kernel
theorem dX6_isHunk_14 : decode cX6_isHunk 14 = .ok (.if_icmp .eq 10, 3) := by decide +kernel
theorem dX6_isHunk_17 : decode cX6_isHunk 17 = .ok (.iload_n 2, 1) := by decide +kernel
theorem dX6_isHunk_18 : decode cX6_isHunk 18 = .ok (.invokestatic 75, 3) := by decide +kernel
theorem dX6_isHunk_21 : decode cX6_isHunk 21 = .ok (.ifCond .eq 7, 3) := by decide +kernel
theorem dX6_isHunk_24 : decode cX6_isHunk 24 = .ok (.iconst 1, 1) := by decide +kernel
theorem dX6_isHunk_25 : decode cX6_isHunk 25 = .ok (.goto 4, 3) := by decide +kernel
theorem dX6_isHunk_28 : decode cX6_isHunk 28 = .ok (.iconst 0, 1) := by decide +kernel
theorem dX6_isHunk_29 : decode cX6_isHunk 29 = .ok (.istore_n 3, 1) := by decide +kernel
theorem dX6_isHunk_30 : decode cX6_isHunk 30 = .ok (.iload_n 0, 1) := by decide +kernel
theorem dX6_isHunk_31 : decode cX6_isHunk 31 = .ok (.ifCond .lt 27, 3) := by decide +kernel
theorem dX6_isHunk_34 : decode cX6_isHunk 34 = .ok (.iload_n 0, 1) := by decide +kernel
theorem dX6_isHunk_35 : decode cX6_isHunk 35 = .ok (.bipush 14, 2) := by decide +kernel
theorem dX6_isHunk_37 : decode cX6_isHunk 37 = .ok (.if_icmp .gt 21, 3) := by decide +kernel
theorem dX6_isHunk_40 : decode cX6_isHunk 40 = .ok (.iload_n 3, 1) := by decide +kernel
theorem dX6_isHunk_41 : decode cX6_isHunk 41 = .ok (.ifCond .eq 17, 3) := by decide +kernel
theorem dX6_isHunk_44 : decode cX6_isHunk 44 = .ok (.iload_n 1, 1) := by decide +kernel
theorem dX6_isHunk_45 : decode cX6_isHunk 45 = .ok (.iconst (-1), 1) := by decide +kernel
theorem dX6_isHunk_46 : decode cX6_isHunk 46 = .ok (.if_icmp .ne 8, 3) := by decide +kernel
theorem dX6_isHunk_49 : decode cX6_isHunk 49 = .ok (.iload_n 2, 1) := by decide +kernel
theorem dX6_isHunk_50 : decode cX6_isHunk 50 = .ok (.iconst (-1), 1) := by decide +kernel
theorem dX6_isHunk_51 : decode cX6_isHunk 51 = .ok (.if_icmp .eq 7, 3) := by decide +kernel
theorem dX6_isHunk_54 : decode cX6_isHunk 54 = .ok (.iconst 1, 1) := by decide +kernel
theorem dX6_isHunk_55 : decode cX6_isHunk 55 = .ok (.goto 4, 3) := by decide +kernel
theorem dX6_isHunk_58 : decode cX6_isHunk 58 = .ok (.iconst 0, 1) := by decide +kernel
theorem dX6_isHunk_59 : decode cX6_isHunk 59 = .ok (.ireturn, 1) := by decide +kernel
theorem dX6_isPatchSize_0 : decode cX6_isPatchSize 0 = .ok (.iload_n 0, 1) := by decide +kernel
theorem dX6_isPatchSize_1 : decode cX6_isPatchSize 1 = .ok (.bipush 10, 2) := by decide +kernel
theorem dX6_isPatchSize_3 : decode cX6_isPatchSize 3 = .ok (.if_icmp .gt 19, 3) := by decide +kernel
theorem dX6_isPatchSize_6 : decode cX6_isPatchSize 6 = .ok (.iload_n 1, 1) := by decide +kernel
theorem dX6_isPatchSize_7 : decode cX6_isPatchSize 7 = .ok (.bipush 28, 2) := by decide +kernel
theorem dX6_isPatchSize_9 : decode cX6_isPatchSize 9 = .ok (.if_icmp .gt 13, 3) := by decide +kernel
theorem dX6_isPatchSize_12 : decode cX6_isPatchSize 12 = .ok (.iload_n 2, 1) := by decide +kernel
theorem dX6_isPatchSize_13 : decode cX6_isPatchSize 13 = .ok (.bipush 28, 2) := by decide +kernel
theorem dX6_isPatchSize_15 : decode cX6_isPatchSize 15 = .ok (.if_icmp .gt 7, 3) := by decide +kernel
theorem dX6_isPatchSize_18 : decode cX6_isPatchSize 18 = .ok (.iconst 1, 1) := by decide +kernel
theorem dX6_isPatchSize_19 : decode cX6_isPatchSize 19 = .ok (.goto 4, 3) := by decide +kernel
theorem dX6_isPatchSize_22 : decode cX6_isPatchSize 22 = .ok (.iconst 0, 1) := by decide +kernel
theorem dX6_isPatchSize_23 : decode cX6_isPatchSize 23 = .ok (.ireturn, 1) := by decide +kernel
theorem dX6_isStore_0 : decode cX6_isStore 0 = .ok (.iload_n 1, 1) := by decide +kernel
theorem dX6_isStore_1 : decode cX6_isStore 1 = .ok (.iconst 1, 1) := by decide +kernel
theorem dX6_isStore_2 : decode cX6_isStore 2 = .ok (.if_icmp .lt 33, 3) := by decide +kernel
theorem dX6_isStore_5 : decode cX6_isStore 5 = .ok (.iload_n 1, 1) := by decide +kernel
theorem dX6_isStore_6 : decode cX6_isStore 6 = .ok (.bipush 6, 2) := by decide +kernel
theorem dX6_isStore_8 : decode cX6_isStore 8 = .ok (.if_icmp .gt 27, 3) := by decide +kernel
theorem dX6_isStore_11 : decode cX6_isStore 11 = .ok (.iload_n 1, 1) := by decide +kernel
theorem dX6_isStore_12 : decode cX6_isStore 12 = .ok (.aload_n 0, 1) := by decide +kernel
theorem dX6_isStore_13 : decode cX6_isStore 13 = .ok (.getfield 106, 3) := by decide +kernel
theorem dX6_isStore_16 : decode cX6_isStore 16 = .ok (.if_icmp .gt 19, 3) := by decide +kernel
theorem dX6_isStore_19 : decode cX6_isStore 19 = .ok (.iload_n 2, 1) := by decide +kernel
theorem dX6_isStore_20 : decode cX6_isStore 20 = .ok (.iconst 1, 1) := by decide +kernel
theorem dX6_isStore_21 : decode cX6_isStore 21 = .ok (.if_icmp .lt 14, 3) := by decide +kernel
theorem dX6_isStore_24 : decode cX6_isStore 24 = .ok (.iload_n 2, 1) := by decide +kernel
theorem dX6_isStore_25 : decode cX6_isStore 25 = .ok (.sipush 999, 3) := by decide +kernel
theorem dX6_isStore_28 : decode cX6_isStore 28 = .ok (.if_icmp .gt 7, 3) := by decide +kernel
theorem dX6_isStore_31 : decode cX6_isStore 31 = .ok (.iconst 1, 1) := by decide +kernel
theorem dX6_isStore_32 : decode cX6_isStore 32 = .ok (.goto 4, 3) := by decide +kernel
theorem dX6_isStore_35 : decode cX6_isStore 35 = .ok (.iconst 0, 1) := by decide +kernel
theorem dX6_isStore_36 : decode cX6_isStore 36 = .ok (.ireturn, 1) := by decide +kernel
theorem dX6_versionOrNull_0 : decode cX6_versionOrNull 0 = .ok (.iload_n 1, 1) := by decide +kernel
theorem dX6_versionOrNull_1 : decode cX6_versionOrNull 1 = .ok (.ifCond .lt 29, 3) := by decide +kernel
theorem dX6_versionOrNull_4 : decode cX6_versionOrNull 4 = .ok (.iload_n 1, 1) := by decide +kernel
theorem dX6_versionOrNull_5 : decode cX6_versionOrNull 5 = .ok (.aload_n 0, 1) := by decide +kernel
theorem dX6_versionOrNull_6 : decode cX6_versionOrNull 6 = .ok (.getfield 106, 3) := by decide +kernel
theorem dX6_versionOrNull_9 : decode cX6_versionOrNull 9 = .ok (.if_icmp .ge 21, 3) := by decide +kernel
theorem dX6_versionOrNull_12 : decode cX6_versionOrNull 12 = .ok (.iload_n 1, 1) := by decide +kernel
theorem dX6_versionOrNull_13 : decode cX6_versionOrNull 13 = .ok (.aload_n 0, 1) := by decide +kernel
theorem dX6_versionOrNull_14 : decode cX6_versionOrNull 14 = .ok (.getfield 23, 3) := by decide +kernel
theorem dX6_versionOrNull_17 : decode cX6_versionOrNull 17 = .ok (.arraylength, 1) := by decide +kernel
theorem dX6_versionOrNull_18 : decode cX6_versionOrNull 18 = .ok (.if_icmp .ge 12, 3) := by decide +kernel
theorem dX6_versionOrNull_21 : decode cX6_versionOrNull 21 = .ok (.aload_n 0, 1) := by decide +kernel
theorem dX6_versionOrNull_22 : decode cX6_versionOrNull 22 = .ok (.getfield 23, 3) := by decide +kernel
theorem dX6_versionOrNull_25 : decode cX6_versionOrNull 25 = .ok (.iload_n 1, 1) := by decide +kernel
theorem dX6_versionOrNull_26 : decode cX6_versionOrNull 26 = .ok (.aaload, 1) := by decide +kernel
theorem dX6_versionOrNull_27 : decode cX6_versionOrNull 27 = .ok (.goto 4, 3) := by decide +kernel
theorem dX6_versionOrNull_30 : decode cX6_versionOrNull 30 = .ok (.aconst_null, 1) := by decide +kernel
theorem dX6_versionOrNull_31 : decode cX6_versionOrNull 31 = .ok (.areturn, 1) := by decide +kernel
theorem dX6_isVersionOrNone_0 : decode cX6_isVersionOrNone 0 = .ok (.iload_n 1, 1) := by decide +kernel
theorem dX6_isVersionOrNone_1 : decode cX6_isVersionOrNone 1 = .ok (.iconst (-1), 1) := by decide +kernel
theorem dX6_isVersionOrNone_2 : decode cX6_isVersionOrNone 2 = .ok (.if_icmp .eq 11, 3) := by decide +kernel
theorem dX6_isVersionOrNone_5 : decode cX6_isVersionOrNone 5 = .ok (.aload_n 0, 1) := by decide +kernel
theorem dX6_isVersionOrNone_6 : decode cX6_isVersionOrNone 6 = .ok (.iload_n 1, 1) := by decide +kernel
theorem dX6_isVersionOrNone_7 : decode cX6_isVersionOrNone 7 = .ok (.invokevirtual 92, 3) := by decide +kernel
theorem dX6_isVersionOrNone_10 : decode cX6_isVersionOrNone 10 = .ok (.ifnull 7, 3) := by decide +kernel
theorem dX6_isVersionOrNone_13 : decode cX6_isVersionOrNone 13 = .ok (.iconst 1, 1) := by decide +kernel
theorem dX6_isVersionOrNone_14 : decode cX6_isVersionOrNone 14 = .ok (.goto 4, 3) := by decide +kernel
theorem dX6_isVersionOrNone_17 : decode cX6_isVersionOrNone 17 = .ok (.iconst 0, 1) := by decide +kernel
theorem dX6_isVersionOrNone_18 : decode cX6_isVersionOrNone 18 = .ok (.ireturn, 1) := by decide +kernel
theorem dX6_patchOrNull_0 : decode cX6_patchOrNull 0 = .ok (.iload_n 1, 1) := by decide +kernel
theorem dX6_patchOrNull_1 : decode cX6_patchOrNull 1 = .ok (.ifCond .lt 29, 3) := by decide +kernel
theorem dX6_patchOrNull_4 : decode cX6_patchOrNull 4 = .ok (.iload_n 1, 1) := by decide +kernel
theorem dX6_patchOrNull_5 : decode cX6_patchOrNull 5 = .ok (.aload_n 0, 1) := by decide +kernel
theorem dX6_patchOrNull_6 : decode cX6_patchOrNull 6 = .ok (.getfield 287, 3) := by decide +kernel
theorem dX6_patchOrNull_9 : decode cX6_patchOrNull 9 = .ok (.if_icmp .ge 21, 3) := by decide +kernel
theorem dX6_patchOrNull_12 : decode cX6_patchOrNull 12 = .ok (.iload_n 1, 1) := by decide +kernel
theorem dX6_patchOrNull_13 : decode cX6_patchOrNull 13 = .ok (.aload_n 0, 1) := by decide +kernel
theorem dX6_patchOrNull_14 : decode cX6_patchOrNull 14 = .ok (.getfield 29, 3) := by decide +kernel
theorem dX6_patchOrNull_17 : decode cX6_patchOrNull 17 = .ok (.arraylength, 1) := by decide +kernel
theorem dX6_patchOrNull_18 : decode cX6_patchOrNull 18 = .ok (.if_icmp .ge 12, 3) := by decide +kernel
theorem dX6_patchOrNull_21 : decode cX6_patchOrNull 21 = .ok (.aload_n 0, 1) := by decide +kernel
theorem dX6_patchOrNull_22 : decode cX6_patchOrNull 22 = .ok (.getfield 29, 3) := by decide +kernel
theorem dX6_patchOrNull_25 : decode cX6_patchOrNull 25 = .ok (.iload_n 1, 1) := by decide +kernel
theorem dX6_patchOrNull_26 : decode cX6_patchOrNull 26 = .ok (.aaload, 1) := by decide +kernel
theorem dX6_patchOrNull_27 : decode cX6_patchOrNull 27 = .ok (.goto 4, 3) := by decide +kernel
theorem dX6_patchOrNull_30 : decode cX6_patchOrNull 30 = .ok (.aconst_null, 1) := by decide +kernel
theorem dX6_patchOrNull_31 : decode cX6_patchOrNull 31 = .ok (.areturn, 1) := by decide +kernel
theorem dX6_hasRoomForPatches_0 : decode cX6_hasRoomForPatches 0 = .ok (.aload_n 0, 1) := by decide +kernel
theorem dX6_hasRoomForPatches_1 : decode cX6_hasRoomForPatches 1 = .ok (.getfield 287, 3) := by decide +kernel
theorem dX6_hasRoomForPatches_4 : decode cX6_hasRoomForPatches 4 = .ok (.iload_n 1, 1) := by decide +kernel
theorem dX6_hasRoomForPatches_5 : decode cX6_hasRoomForPatches 5 = .ok (.iadd, 1) := by decide +kernel
theorem dX6_hasRoomForPatches_6 : decode cX6_hasRoomForPatches 6 = .ok (.bipush 12, 2) := by decide +kernel
theorem dX6_hasRoomForPatches_8 : decode cX6_hasRoomForPatches 8 = .ok (.if_icmp .gt 7, 3) := by decide +kernel
theorem dX6_hasRoomForPatches_11 : decode cX6_hasRoomForPatches 11 = .ok (.iconst 1, 1) := by decide +kernel
theorem dX6_hasRoomForPatches_12 : decode cX6_hasRoomForPatches 12 = .ok (.goto 4, 3) := by decide +kernel
theorem dX6_hasRoomForPatches_15 : decode cX6_hasRoomForPatches 15 = .ok (.iconst 0, 1) := by decide +kernel
theorem dX6_hasRoomForPatches_16 : decode cX6_hasRoomForPatches 16 = .ok (.ireturn, 1) := by decide +kernel
theorem dX6_newPatch_0 : decode cX6_newPatch 0 = .ok (.new 27, 3) := by decide +kernel
theorem dX6_newPatch_3 : decode cX6_newPatch 3 = .ok (.dup, 1) := by decide +kernel
theorem dX6_newPatch_4 : decode cX6_newPatch 4 = .ok (.bipush 10, 2) := by decide +kernel
theorem dX6_newPatch_6 : decode cX6_newPatch 6 = .ok (.bipush 28, 2) := by decide +kernel
theorem dX6_newPatch_8 : decode cX6_newPatch 8 = .ok (.invokespecial 44, 3) := by decide +kernel
theorem dX6_newPatch_11 : decode cX6_newPatch 11 = .ok (.areturn, 1) := by decide +kernel
theorem dX6_addPatch_0 : decode cX6_addPatch 0 = .ok (.aload_n 0, 1) := by decide +kernel
theorem dX6_addPatch_1 : decode cX6_addPatch 1 = .ok (.getfield 287, 3) := by decide +kernel
theorem dX6_addPatch_4 : decode cX6_addPatch 4 = .ok (.ifCond .lt 15, 3) := by decide +kernel
theorem dX6_addPatch_7 : decode cX6_addPatch 7 = .ok (.aload_n 0, 1) := by decide +kernel
theorem dX6_addPatch_8 : decode cX6_addPatch 8 = .ok (.getfield 287, 3) := by decide +kernel
theorem dX6_addPatch_11 : decode cX6_addPatch 11 = .ok (.aload_n 0, 1) := by decide +kernel
theorem dX6_addPatch_12 : decode cX6_addPatch 12 = .ok (.getfield 29, 3) := by decide +kernel
theorem dX6_addPatch_15 : decode cX6_addPatch 15 = .ok (.arraylength, 1) := by decide +kernel
theorem dX6_addPatch_16 : decode cX6_addPatch 16 = .ok (.if_icmp .lt 6, 3) := by decide +kernel
theorem dX6_addPatch_19 : decode cX6_addPatch 19 = .ok (.bipush (-104), 2) := by decide +kernel
theorem dX6_addPatch_21 : decode cX6_addPatch 21 = .ok (.ireturn, 1) := by decide +kernel
theorem dX6_addPatch_22 : decode cX6_addPatch 22 = .ok (.aload_n 0, 1) := by decide +kernel
theorem dX6_addPatch_23 : decode cX6_addPatch 23 = .ok (.getfield 29, 3) := by decide +kernel
theorem dX6_addPatch_26 : decode cX6_addPatch 26 = .ok (.aload_n 0, 1) := by decide +kernel
theorem dX6_addPatch_27 : decode cX6_addPatch 27 = .ok (.getfield 287, 3) := by decide +kernel
theorem dX6_addPatch_30 : decode cX6_addPatch 30 = .ok (.aload_n 1, 1) := by decide +kernel
theorem dX6_addPatch_31 : decode cX6_addPatch 31 = .ok (.aastore, 1) := by decide +kernel
theorem dX6_addPatch_32 : decode cX6_addPatch 32 = .ok (.aload_n 0, 1) := by decide +kernel
theorem dX6_addPatch_33 : decode cX6_addPatch 33 = .ok (.dup, 1) := by decide +kernel
theorem dX6_addPatch_34 : decode cX6_addPatch 34 = .ok (.getfield 287, 3) := by decide +kernel
theorem dX6_addPatch_37 : decode cX6_addPatch 37 = .ok (.iconst 1, 1) := by decide +kernel
theorem dX6_addPatch_38 : decode cX6_addPatch 38 = .ok (.iadd, 1) := by decide +kernel
theorem dX6_addPatch_39 : decode cX6_addPatch 39 = .ok (.putfield 287, 3) := by decide +kernel
theorem dX6_addPatch_42 : decode cX6_addPatch 42 = .ok (.aload_n 0, 1) := by decide +kernel
theorem dX6_addPatch_43 : decode cX6_addPatch 43 = .ok (.getfield 287, 3) := by decide +kernel
theorem dX6_addPatch_46 : decode cX6_addPatch 46 = .ok (.iconst 1, 1) := by decide +kernel
theorem dX6_addPatch_47 : decode cX6_addPatch 47 = .ok (.isub, 1) := by decide +kernel
theorem dX6_addPatch_48 : decode cX6_addPatch 48 = .ok (.ireturn, 1) := by decide +kernel
theorem dX6_tellPatch_0 : decode cX6_tellPatch 0 = .ok (.iload_n 1, 1) := by decide +kernel
theorem dX6_tellPatch_1 : decode cX6_tellPatch 1 = .ok (.tableswitch 42 0 2 #[27, 32, 37], 27) := by decide +kernel
theorem dX6_tellPatch_28 : decode cX6_tellPatch 28 = .ok (.aload_n 0, 1) := by decide +kernel
theorem dX6_tellPatch_29 : decode cX6_tellPatch 29 = .ok (.invokevirtual 170, 3) := by decide +kernel
theorem dX6_tellPatch_32 : decode cX6_tellPatch 32 = .ok (.ireturn, 1) := by decide +kernel
theorem dX6_tellPatch_33 : decode cX6_tellPatch 33 = .ok (.aload_n 0, 1) := by decide +kernel
theorem dX6_tellPatch_34 : decode cX6_tellPatch 34 = .ok (.invokevirtual 134, 3) := by decide +kernel
theorem dX6_tellPatch_37 : decode cX6_tellPatch 37 = .ok (.ireturn, 1) := by decide +kernel
theorem dX6_tellPatch_38 : decode cX6_tellPatch 38 = .ok (.aload_n 0, 1) := by decide +kernel
theorem dX6_tellPatch_39 : decode cX6_tellPatch 39 = .ok (.invokevirtual 173, 3) := by decide +kernel
theorem dX6_tellPatch_42 : decode cX6_tellPatch 42 = .ok (.ireturn, 1) := by decide +kernel
theorem dX6_tellPatch_43 : decode cX6_tellPatch 43 = .ok (.aload_n 0, 1) := by decide +kernel
theorem dX6_tellPatch_44 : decode cX6_tellPatch 44 = .ok (.invokevirtual 318, 3) := by decide +kernel
theorem dX6_tellPatch_47 : decode cX6_tellPatch 47 = .ok (.ireturn, 1) := by decide +kernel
theorem dX6_takeTrialToDesk_0 : decode cX6_takeTrialToDesk 0 = .ok (.aload_n 0, 1) := by decide +kernel
theorem dX6_takeTrialToDesk_1 : decode cX6_takeTrialToDesk 1 = .ok (.getfield 18, 3) := by decide +kernel
theorem dX6_takeTrialToDesk_4 : decode cX6_takeTrialToDesk 4 = .ok (.invokevirtual 71, 3) := by decide +kernel
theorem dX6_takeTrialToDesk_7 : decode cX6_takeTrialToDesk 7 = .ok (.bipush 14, 2) := by decide +kernel
theorem dX6_takeTrialToDesk_9 : decode cX6_takeTrialToDesk 9 = .ok (.if_icmp .le 6, 3) := by decide +kernel
theorem dX6_takeTrialToDesk_12 : decode cX6_takeTrialToDesk 12 = .ok (.bipush (-104), 2) := by decide +kernel
theorem dX6_takeTrialToDesk_14 : decode cX6_takeTrialToDesk 14 = .ok (.ireturn, 1) := by decide +kernel
theorem dX6_takeTrialToDesk_15 : decode cX6_takeTrialToDesk 15 = .ok (.aload_n 0, 1) := by decide +kernel
theorem dX6_takeTrialToDesk_16 : decode cX6_takeTrialToDesk 16 = .ok (.getfield 14, 3) := by decide +kernel
theorem dX6_takeTrialToDesk_19 : decode cX6_takeTrialToDesk 19 = .ok (.aload_n 0, 1) := by decide +kernel
theorem dX6_takeTrialToDesk_20 : decode cX6_takeTrialToDesk 20 = .ok (.getfield 18, 3) := by decide +kernel
theorem dX6_takeTrialToDesk_23 : decode cX6_takeTrialToDesk 23 = .ok (.invokevirtual 99, 3) := by decide +kernel
theorem dX6_takeTrialToDesk_26 : decode cX6_takeTrialToDesk 26 = .ok (.aload_n 0, 1) := by decide +kernel
theorem dX6_takeTrialToDesk_27 : decode cX6_takeTrialToDesk 27 = .ok (.getfield 14, 3) := by decide +kernel
theorem dX6_takeTrialToDesk_30 : decode cX6_takeTrialToDesk 30 = .ok (.invokevirtual 71, 3) := by decide +kernel
theorem dX6_takeTrialToDesk_33 : decode cX6_takeTrialToDesk 33 = .ok (.ireturn, 1) := by decide +kernel
theorem dX6_writeDifference_0 : decode cX6_writeDifference 0 = .ok (.aload_n 0, 1) := by decide +kernel
theorem dX6_writeDifference_1 : decode cX6_writeDifference 1 = .ok (.getfield 40, 3) := by decide +kernel
theorem dX6_writeDifference_4 : decode cX6_writeDifference 4 = .ok (.aload_n 1, 1) := by decide +kernel
theorem dX6_writeDifference_5 : decode cX6_writeDifference 5 = .ok (.getfield 96, 3) := by decide +kernel
theorem dX6_writeDifference_8 : decode cX6_writeDifference 8 = .ok (.aload_n 2, 1) := by decide +kernel
theorem dX6_writeDifference_9 : decode cX6_writeDifference 9 = .ok (.getfield 96, 3) := by decide +kernel
theorem dX6_writeDifference_12 : decode cX6_writeDifference 12 = .ok (.invokevirtual 141, 3) := by decide +kernel
theorem dX6_writeDifference_15 : decode cX6_writeDifference 15 = .ok (.aload_n 0, 1) := by decide +kernel
theorem dX6_writeDifference_16 : decode cX6_writeDifference 16 = .ok (.getfield 40, 3) := by decide +kernel
theorem dX6_writeDifference_19 : decode cX6_writeDifference 19 = .ok (.aload_n 1, 1) := by decide +kernel
theorem dX6_writeDifference_20 : decode cX6_writeDifference 20 = .ok (.getfield 96, 3) := by decide +kernel
theorem dX6_writeDifference_23 : decode cX6_writeDifference 23 = .ok (.aload_n 2, 1) := by decide +kernel
theorem dX6_writeDifference_24 : decode cX6_writeDifference 24 = .ok (.getfield 96, 3) := by decide +kernel
theorem dX6_writeDifference_27 : decode cX6_writeDifference 27 = .ok (.aload_n 3, 1) := by decide +kernel
theorem dX6_writeDifference_28 : decode cX6_writeDifference 28 = .ok (.invokevirtual 319, 3) := by decide +kernel
theorem dX6_writeDifference_31 : decode cX6_writeDifference 31 = .ok (.return_, 1) := by decide +kernel
theorem dX6_reckonRooms_0 : decode cX6_reckonRooms 0 = .ok (.aload_n 0, 1) := by decide +kernel
theorem dX6_reckonRooms_1 : decode cX6_reckonRooms 1 = .ok (.iload_n 1, 1) := by decide +kernel
theorem dX6_reckonRooms_2 : decode cX6_reckonRooms 2 = .ok (.invokevirtual 92, 3) := by decide +kernel
theorem dX6_reckonRooms_5 : decode cX6_reckonRooms 5 = .ok (.astore_n 2, 1) := by decide +kernel
theorem dX6_reckonRooms_6 : decode cX6_reckonRooms 6 = .ok (.iconst 0, 1) := by decide +kernel
theorem dX6_reckonRooms_7 : decode cX6_reckonRooms 7 = .ok (.istore_n 3, 1) := by decide +kernel
theorem dX6_reckonRooms_8 : decode cX6_reckonRooms 8 = .ok (.iload_n 3, 1) := by decide +kernel
theorem dX6_reckonRooms_9 : decode cX6_reckonRooms 9 = .ok (.aload_n 0, 1) := by decide +kernel
theorem dX6_reckonRooms_10 : decode cX6_reckonRooms 10 = .ok (.getfield 106, 3) := by decide +kernel
theorem dX6_reckonRooms_13 : decode cX6_reckonRooms 13 = .ok (.if_icmp .ge 73, 3) := by decide +kernel
theorem dX6_reckonRooms_16 : decode cX6_reckonRooms 16 = .ok (.aload_n 0, 1) := by decide +kernel
theorem dX6_reckonRooms_17 : decode cX6_reckonRooms 17 = .ok (.iload_n 3, 1) := by decide +kernel
theorem dX6_reckonRooms_18 : decode cX6_reckonRooms 18 = .ok (.invokevirtual 92, 3) := by decide +kernel
theorem dX6_reckonRooms_21 : decode cX6_reckonRooms 21 = .ok (.astore 4, 2) := by decide +kernel
theorem dX6_reckonRooms_23 : decode cX6_reckonRooms 23 = .ok (.aload 4, 2) := by decide +kernel
theorem dX6_reckonRooms_25 : decode cX6_reckonRooms 25 = .ok (.ifnull 55, 3) := by decide +kernel
theorem dX6_reckonRooms_28 : decode cX6_reckonRooms 28 = .ok (.aload_n 2, 1) := by decide +kernel
theorem dX6_reckonRooms_29 : decode cX6_reckonRooms 29 = .ok (.ifnull 51, 3) := by decide +kernel
theorem dX6_reckonRooms_32 : decode cX6_reckonRooms 32 = .ok (.aload_n 0, 1) := by decide +kernel
theorem dX6_reckonRooms_33 : decode cX6_reckonRooms 33 = .ok (.aload 4, 2) := by decide +kernel
theorem dX6_reckonRooms_35 : decode cX6_reckonRooms 35 = .ok (.aload_n 2, 1) := by decide +kernel
theorem dX6_reckonRooms_36 : decode cX6_reckonRooms 36 = .ok (.aload_n 0, 1) := by decide +kernel
theorem dX6_reckonRooms_37 : decode cX6_reckonRooms 37 = .ok (.getfield 47, 3) := by decide +kernel
theorem dX6_reckonRooms_40 : decode cX6_reckonRooms 40 = .ok (.invokevirtual 130, 3) := by decide +kernel
theorem dX6_reckonRooms_43 : decode cX6_reckonRooms 43 = .ok (.aload_n 0, 1) := by decide +kernel
theorem dX6_reckonRooms_44 : decode cX6_reckonRooms 44 = .ok (.iload_n 3, 1) := by decide +kernel
theorem dX6_reckonRooms_45 : decode cX6_reckonRooms 45 = .ok (.iload_n 1, 1) := by decide +kernel
theorem dX6_reckonRooms_46 : decode cX6_reckonRooms 46 = .ok (.aload_n 0, 1) := by decide +kernel
theorem dX6_reckonRooms_47 : decode cX6_reckonRooms 47 = .ok (.getfield 47, 3) := by decide +kernel
theorem dX6_reckonRooms_50 : decode cX6_reckonRooms 50 = .ok (.invokevirtual 318, 3) := by decide +kernel
theorem dX6_reckonRooms_53 : decode cX6_reckonRooms 53 = .ok (.invokevirtual 323, 3) := by decide +kernel
theorem dX6_reckonRooms_56 : decode cX6_reckonRooms 56 = .ok (.aload_n 0, 1) := by decide +kernel
theorem dX6_reckonRooms_57 : decode cX6_reckonRooms 57 = .ok (.aload_n 2, 1) := by decide +kernel
theorem dX6_reckonRooms_58 : decode cX6_reckonRooms 58 = .ok (.aload 4, 2) := by decide +kernel
theorem dX6_reckonRooms_60 : decode cX6_reckonRooms 60 = .ok (.aload_n 0, 1) := by decide +kernel
theorem dX6_reckonRooms_61 : decode cX6_reckonRooms 61 = .ok (.getfield 47, 3) := by decide +kernel
theorem dX6_reckonRooms_64 : decode cX6_reckonRooms 64 = .ok (.invokevirtual 130, 3) := by decide +kernel
theorem dX6_reckonRooms_67 : decode cX6_reckonRooms 67 = .ok (.aload_n 0, 1) := by decide +kernel
theorem dX6_reckonRooms_68 : decode cX6_reckonRooms 68 = .ok (.iload_n 1, 1) := by decide +kernel
theorem dX6_reckonRooms_69 : decode cX6_reckonRooms 69 = .ok (.iload_n 3, 1) := by decide +kernel
theorem dX6_reckonRooms_70 : decode cX6_reckonRooms 70 = .ok (.aload_n 0, 1) := by decide +kernel
theorem dX6_reckonRooms_71 : decode cX6_reckonRooms 71 = .ok (.getfield 47, 3) := by decide +kernel
theorem dX6_reckonRooms_74 : decode cX6_reckonRooms 74 = .ok (.invokevirtual 318, 3) := by decide +kernel
theorem dX6_reckonRooms_77 : decode cX6_reckonRooms 77 = .ok (.invokevirtual 323, 3) := by decide +kernel
theorem dX6_reckonRooms_80 : decode cX6_reckonRooms 80 = .ok (.iinc 3 1, 3) := by decide +kernel
theorem dX6_reckonRooms_83 : decode cX6_reckonRooms 83 = .ok (.goto (-75), 3) := by decide +kernel
theorem dX6_reckonRooms_86 : decode cX6_reckonRooms 86 = .ok (.return_, 1) := by decide +kernel
theorem dX6_setDifferenceRoom_0 : decode cX6_setDifferenceRoom 0 = .ok (.iload_n 1, 1) := by decide +kernel
theorem dX6_setDifferenceRoom_1 : decode cX6_setDifferenceRoom 1 = .ok (.bipush 10, 2) := by decide +kernel
theorem dX6_setDifferenceRoom_3 : decode cX6_setDifferenceRoom 3 = .ok (.imul, 1) := by decide +kernel
theorem dX6_setDifferenceRoom_4 : decode cX6_setDifferenceRoom 4 = .ok (.iload_n 2, 1) := by decide +kernel
theorem dX6_setDifferenceRoom_5 : decode cX6_setDifferenceRoom 5 = .ok (.iadd, 1) := by decide +kernel
theorem dX6_setDifferenceRoom_6 : decode cX6_setDifferenceRoom 6 = .ok (.istore 4, 2) := by decide +kernel
theorem dX6_setDifferenceRoom_8 : decode cX6_setDifferenceRoom 8 = .ok (.iload 4, 2) := by decide +kernel
theorem dX6_setDifferenceRoom_10 : decode cX6_setDifferenceRoom 10 = .ok (.ifCond .lt 21, 3) := by decide +kernel
theorem dX6_setDifferenceRoom_13 : decode cX6_setDifferenceRoom 13 = .ok (.iload 4, 2) := by decide +kernel
theorem dX6_setDifferenceRoom_15 : decode cX6_setDifferenceRoom 15 = .ok (.aload_n 0, 1) := by decide +kernel
theorem dX6_setDifferenceRoom_16 : decode cX6_setDifferenceRoom 16 = .ok (.getfield 33, 3) := by decide +kernel
theorem dX6_setDifferenceRoom_19 : decode cX6_setDifferenceRoom 19 = .ok (.arraylength, 1) := by decide +kernel
theorem dX6_setDifferenceRoom_20 : decode cX6_setDifferenceRoom 20 = .ok (.if_icmp .ge 11, 3) := by decide +kernel
theorem dX6_setDifferenceRoom_23 : decode cX6_setDifferenceRoom 23 = .ok (.aload_n 0, 1) := by decide +kernel
theorem dX6_setDifferenceRoom_24 : decode cX6_setDifferenceRoom 24 = .ok (.getfield 33, 3) := by decide +kernel
theorem dX6_setDifferenceRoom_27 : decode cX6_setDifferenceRoom 27 = .ok (.iload 4, 2) := by decide +kernel
theorem dX6_setDifferenceRoom_29 : decode cX6_setDifferenceRoom 29 = .ok (.iload_n 3, 1) := by decide +kernel
theorem dX6_setDifferenceRoom_30 : decode cX6_setDifferenceRoom 30 = .ok (.iastore, 1) := by decide +kernel
theorem dX6_setDifferenceRoom_31 : decode cX6_setDifferenceRoom 31 = .ok (.return_, 1) := by decide +kernel
theorem dX6_differenceRoom_0 : decode cX6_differenceRoom 0 = .ok (.iload_n 1, 1) := by decide +kernel
theorem dX6_differenceRoom_1 : decode cX6_differenceRoom 1 = .ok (.bipush 10, 2) := by decide +kernel
theorem dX6_differenceRoom_3 : decode cX6_differenceRoom 3 = .ok (.imul, 1) := by decide +kernel
theorem dX6_differenceRoom_4 : decode cX6_differenceRoom 4 = .ok (.iload_n 2, 1) := by decide +kernel
theorem dX6_differenceRoom_5 : decode cX6_differenceRoom 5 = .ok (.iadd, 1) := by decide +kernel
theorem dX6_differenceRoom_6 : decode cX6_differenceRoom 6 = .ok (.istore_n 3, 1) := by decide +kernel
theorem dX6_differenceRoom_7 : decode cX6_differenceRoom 7 = .ok (.iload_n 3, 1) := by decide +kernel
theorem dX6_differenceRoom_8 : decode cX6_differenceRoom 8 = .ok (.ifCond .lt 21, 3) := by decide +kernel
theorem dX6_differenceRoom_11 : decode cX6_differenceRoom 11 = .ok (.iload_n 3, 1) := by decide +kernel
theorem dX6_differenceRoom_12 : decode cX6_differenceRoom 12 = .ok (.aload_n 0, 1) := by decide +kernel
theorem dX6_differenceRoom_13 : decode cX6_differenceRoom 13 = .ok (.getfield 33, 3) := by decide +kernel
theorem dX6_differenceRoom_16 : decode cX6_differenceRoom 16 = .ok (.arraylength, 1) := by decide +kernel
theorem dX6_differenceRoom_17 : decode cX6_differenceRoom 17 = .ok (.if_icmp .ge 12, 3) := by decide +kernel
theorem dX6_differenceRoom_20 : decode cX6_differenceRoom 20 = .ok (.aload_n 0, 1) := by decide +kernel
theorem dX6_differenceRoom_21 : decode cX6_differenceRoom 21 = .ok (.getfield 33, 3) := by decide +kernel
theorem dX6_differenceRoom_24 : decode cX6_differenceRoom 24 = .ok (.iload_n 3, 1) := by decide +kernel
theorem dX6_differenceRoom_25 : decode cX6_differenceRoom 25 = .ok (.iaload, 1) := by decide +kernel
theorem dX6_differenceRoom_26 : decode cX6_differenceRoom 26 = .ok (.goto 4, 3) := by decide +kernel
theorem dX6_differenceRoom_29 : decode cX6_differenceRoom 29 = .ok (.iconst 0, 1) := by decide +kernel
theorem dX6_differenceRoom_30 : decode cX6_differenceRoom 30 = .ok (.ireturn, 1) := by decide +kernel
theorem dX6_leadBack_0 : decode cX6_leadBack 0 = .ok (.aload_n 2, 1) := by decide +kernel
theorem dX6_leadBack_1 : decode cX6_leadBack 1 = .ok (.iload_n 1, 1) := by decide +kernel
theorem dX6_leadBack_2 : decode cX6_leadBack 2 = .ok (.invokevirtual 327, 3) := by decide +kernel
theorem dX6_leadBack_5 : decode cX6_leadBack 5 = .ok (.aload_n 0, 1) := by decide +kernel
theorem dX6_leadBack_6 : decode cX6_leadBack 6 = .ok (.aload_n 0, 1) := by decide +kernel
theorem dX6_leadBack_7 : decode cX6_leadBack 7 = .ok (.aload_n 2, 1) := by decide +kernel
theorem dX6_leadBack_8 : decode cX6_leadBack 8 = .ok (.getfield 121, 3) := by decide +kernel
theorem dX6_leadBack_11 : decode cX6_leadBack 11 = .ok (.invokevirtual 92, 3) := by decide +kernel
theorem dX6_leadBack_14 : decode cX6_leadBack 14 = .ok (.aload_n 2, 1) := by decide +kernel
theorem dX6_leadBack_15 : decode cX6_leadBack 15 = .ok (.invokevirtual 330, 3) := by decide +kernel
theorem dX6_leadBack_18 : decode cX6_leadBack 18 = .ok (.aload_n 0, 1) := by decide +kernel
theorem dX6_leadBack_19 : decode cX6_leadBack 19 = .ok (.aload_n 0, 1) := by decide +kernel
theorem dX6_leadBack_20 : decode cX6_leadBack 20 = .ok (.aload_n 2, 1) := by decide +kernel
theorem dX6_leadBack_21 : decode cX6_leadBack 21 = .ok (.getfield 118, 3) := by decide +kernel
theorem dX6_leadBack_24 : decode cX6_leadBack 24 = .ok (.invokevirtual 92, 3) := by decide +kernel
theorem dX6_leadBack_27 : decode cX6_leadBack 27 = .ok (.aload_n 2, 1) := by decide +kernel
theorem dX6_leadBack_28 : decode cX6_leadBack 28 = .ok (.invokevirtual 330, 3) := by decide +kernel
theorem dX6_leadBack_31 : decode cX6_leadBack 31 = .ok (.return_, 1) := by decide +kernel
theorem dX6_leadBackTo_0 : decode cX6_leadBackTo 0 = .ok (.aload_n 1, 1) := by decide +kernel
theorem dX6_leadBackTo_1 : decode cX6_leadBackTo 1 = .ok (.ifnonnull 4, 3) := by decide +kernel
theorem dX6_leadBackTo_4 : decode cX6_leadBackTo 4 = .ok (.return_, 1) := by decide +kernel
theorem dX6_leadBackTo_5 : decode cX6_leadBackTo 5 = .ok (.aload_n 0, 1) := by decide +kernel
theorem dX6_leadBackTo_6 : decode cX6_leadBackTo 6 = .ok (.getfield 40, 3) := by decide +kernel
theorem dX6_leadBackTo_9 : decode cX6_leadBackTo 9 = .ok (.aload_n 1, 1) := by decide +kernel
theorem dX6_leadBackTo_10 : decode cX6_leadBackTo 10 = .ok (.getfield 96, 3) := by decide +kernel
theorem dX6_leadBackTo_13 : decode cX6_leadBackTo 13 = .ok (.aload_n 2, 1) := by decide +kernel
theorem dX6_leadBackTo_14 : decode cX6_leadBackTo 14 = .ok (.getfield 96, 3) := by decide +kernel
theorem dX6_leadBackTo_17 : decode cX6_leadBackTo 17 = .ok (.invokevirtual 141, 3) := by decide +kernel
theorem dX6_leadBackTo_20 : decode cX6_leadBackTo 20 = .ok (.iconst 0, 1) := by decide +kernel
theorem dX6_leadBackTo_21 : decode cX6_leadBackTo 21 = .ok (.istore_n 3, 1) := by decide +kernel
theorem dX6_leadBackTo_22 : decode cX6_leadBackTo 22 = .ok (.iload_n 3, 1) := by decide +kernel
theorem dX6_leadBackTo_23 : decode cX6_leadBackTo 23 = .ok (.aload_n 1, 1) := by decide +kernel
theorem dX6_leadBackTo_24 : decode cX6_leadBackTo 24 = .ok (.getfield 96, 3) := by decide +kernel
theorem dX6_leadBackTo_27 : decode cX6_leadBackTo 27 = .ok (.invokevirtual 71, 3) := by decide +kernel
theorem dX6_leadBackTo_30 : decode cX6_leadBackTo 30 = .ok (.if_icmp .ge 26, 3) := by decide +kernel
theorem dX6_leadBackTo_33 : decode cX6_leadBackTo 33 = .ok (.aload_n 2, 1) := by decide +kernel
theorem dX6_leadBackTo_34 : decode cX6_leadBackTo 34 = .ok (.aload_n 0, 1) := by decide +kernel
theorem dX6_leadBackTo_35 : decode cX6_leadBackTo 35 = .ok (.getfield 40, 3) := by decide +kernel
theorem dX6_leadBackTo_38 : decode cX6_leadBackTo 38 = .ok (.iload_n 3, 1) := by decide +kernel
theorem dX6_leadBackTo_39 : decode cX6_leadBackTo 39 = .ok (.invokevirtual 145, 3) := by decide +kernel
theorem dX6_leadBackTo_42 : decode cX6_leadBackTo 42 = .ok (.aload_n 1, 1) := by decide +kernel
theorem dX6_leadBackTo_43 : decode cX6_leadBackTo 43 = .ok (.iload_n 3, 1) := by decide +kernel
theorem dX6_leadBackTo_44 : decode cX6_leadBackTo 44 = .ok (.invokevirtual 250, 3) := by decide +kernel
theorem dX6_leadBackTo_47 : decode cX6_leadBackTo 47 = .ok (.invokevirtual 334, 3) := by decide +kernel
theorem dX6_leadBackTo_50 : decode cX6_leadBackTo 50 = .ok (.iinc 3 1, 3) := by decide +kernel
theorem dX6_leadBackTo_53 : decode cX6_leadBackTo 53 = .ok (.goto (-31), 3) := by decide +kernel
theorem dX6_leadBackTo_56 : decode cX6_leadBackTo 56 = .ok (.return_, 1) := by decide +kernel
theorem dX6_writeBothDifferences_0 : decode cX6_writeBothDifferences 0 = .ok (.aload_n 0, 1) := by decide +kernel
theorem dX6_writeBothDifferences_1 : decode cX6_writeBothDifferences 1 = .ok (.iload_n 1, 1) := by decide +kernel
theorem dX6_writeBothDifferences_2 : decode cX6_writeBothDifferences 2 = .ok (.invokevirtual 92, 3) := by decide +kernel
theorem dX6_writeBothDifferences_5 : decode cX6_writeBothDifferences 5 = .ok (.astore 4, 2) := by decide +kernel
theorem dX6_writeBothDifferences_7 : decode cX6_writeBothDifferences 7 = .ok (.aload_n 0, 1) := by decide +kernel
theorem dX6_writeBothDifferences_8 : decode cX6_writeBothDifferences 8 = .ok (.iload_n 2, 1) := by decide +kernel
theorem dX6_writeBothDifferences_9 : decode cX6_writeBothDifferences 9 = .ok (.invokevirtual 92, 3) := by decide +kernel
theorem dX6_writeBothDifferences_12 : decode cX6_writeBothDifferences 12 = .ok (.astore 5, 2) := by decide +kernel
theorem dX6_writeBothDifferences_14 : decode cX6_writeBothDifferences 14 = .ok (.aload_n 0, 1) := by decide +kernel
theorem dX6_writeBothDifferences_15 : decode cX6_writeBothDifferences 15 = .ok (.iload_n 3, 1) := by decide +kernel
theorem dX6_writeBothDifferences_16 : decode cX6_writeBothDifferences 16 = .ok (.invokevirtual 92, 3) := by decide +kernel
theorem dX6_writeBothDifferences_19 : decode cX6_writeBothDifferences 19 = .ok (.astore 6, 2) := by decide +kernel
theorem dX6_writeBothDifferences_21 : decode cX6_writeBothDifferences 21 = .ok (.aload 4, 2) := by decide +kernel
theorem dX6_writeBothDifferences_23 : decode cX6_writeBothDifferences 23 = .ok (.ifnull 13, 3) := by decide +kernel
theorem dX6_writeBothDifferences_26 : decode cX6_writeBothDifferences 26 = .ok (.aload 5, 2) := by decide +kernel
theorem dX6_writeBothDifferences_28 : decode cX6_writeBothDifferences 28 = .ok (.ifnull 8, 3) := by decide +kernel
theorem dX6_writeBothDifferences_31 : decode cX6_writeBothDifferences 31 = .ok (.aload 6, 2) := by decide +kernel
theorem dX6_writeBothDifferences_33 : decode cX6_writeBothDifferences 33 = .ok (.ifnonnull 5, 3) := by decide +kernel
theorem dX6_writeBothDifferences_36 : decode cX6_writeBothDifferences 36 = .ok (.iconst 0, 1) := by decide +kernel
theorem dX6_writeBothDifferences_37 : decode cX6_writeBothDifferences 37 = .ok (.ireturn, 1) := by decide +kernel
theorem dX6_writeBothDifferences_38 : decode cX6_writeBothDifferences 38 = .ok (.aload_n 0, 1) := by decide +kernel
theorem dX6_writeBothDifferences_39 : decode cX6_writeBothDifferences 39 = .ok (.aload 4, 2) := by decide +kernel
theorem dX6_writeBothDifferences_41 : decode cX6_writeBothDifferences 41 = .ok (.aload 5, 2) := by decide +kernel
theorem dX6_writeBothDifferences_43 : decode cX6_writeBothDifferences 43 = .ok (.aload_n 0, 1) := by decide +kernel
theorem dX6_writeBothDifferences_44 : decode cX6_writeBothDifferences 44 = .ok (.getfield 47, 3) := by decide +kernel
theorem dX6_writeBothDifferences_47 : decode cX6_writeBothDifferences 47 = .ok (.invokevirtual 130, 3) := by decide +kernel
theorem dX6_writeBothDifferences_50 : decode cX6_writeBothDifferences 50 = .ok (.aload_n 0, 1) := by decide +kernel
theorem dX6_writeBothDifferences_51 : decode cX6_writeBothDifferences 51 = .ok (.aload 4, 2) := by decide +kernel
theorem dX6_writeBothDifferences_53 : decode cX6_writeBothDifferences 53 = .ok (.aload 6, 2) := by decide +kernel
theorem dX6_writeBothDifferences_55 : decode cX6_writeBothDifferences 55 = .ok (.aload_n 0, 1) := by decide +kernel
theorem dX6_writeBothDifferences_56 : decode cX6_writeBothDifferences 56 = .ok (.getfield 51, 3) := by decide +kernel
theorem dX6_writeBothDifferences_59 : decode cX6_writeBothDifferences 59 = .ok (.invokevirtual 130, 3) := by decide +kernel
theorem dX6_writeBothDifferences_62 : decode cX6_writeBothDifferences 62 = .ok (.iconst 1, 1) := by decide +kernel
theorem dX6_writeBothDifferences_63 : decode cX6_writeBothDifferences 63 = .ok (.ireturn, 1) := by decide +kernel
theorem dX6_clashes_0 : decode cX6_clashes 0 = .ok (.iconst 0, 1) := by decide +kernel
theorem dX6_clashes_1 : decode cX6_clashes 1 = .ok (.istore_n 1, 1) := by decide +kernel
theorem dX6_clashes_2 : decode cX6_clashes 2 = .ok (.iconst 0, 1) := by decide +kernel
theorem dX6_clashes_3 : decode cX6_clashes 3 = .ok (.istore_n 2, 1) := by decide +kernel
theorem dX6_clashes_4 : decode cX6_clashes 4 = .ok (.iload_n 2, 1) := by decide +kernel
theorem dX6_clashes_5 : decode cX6_clashes 5 = .ok (.aload_n 0, 1) := by decide +kernel
theorem dX6_clashes_6 : decode cX6_clashes 6 = .ok (.getfield 47, 3) := by decide +kernel
theorem dX6_clashes_9 : decode cX6_clashes 9 = .ok (.invokevirtual 170, 3) := by decide +kernel
theorem dX6_clashes_12 : decode cX6_clashes 12 = .ok (.if_icmp .ge 55, 3) := by decide +kernel
theorem dX6_clashes_15 : decode cX6_clashes 15 = .ok (.aload_n 0, 1) := by decide +kernel
theorem dX6_clashes_16 : decode cX6_clashes 16 = .ok (.getfield 51, 3) := by decide +kernel
theorem dX6_clashes_19 : decode cX6_clashes 19 = .ok (.aload_n 0, 1) := by decide +kernel
theorem dX6_clashes_20 : decode cX6_clashes 20 = .ok (.getfield 47, 3) := by decide +kernel
theorem dX6_clashes_23 : decode cX6_clashes 23 = .ok (.iload_n 2, 1) := by decide +kernel
theorem dX6_clashes_24 : decode cX6_clashes 24 = .ok (.invokevirtual 188, 3) := by decide +kernel
theorem dX6_clashes_27 : decode cX6_clashes 27 = .ok (.aload_n 0, 1) := by decide +kernel
theorem dX6_clashes_28 : decode cX6_clashes 28 = .ok (.getfield 47, 3) := by decide +kernel
theorem dX6_clashes_31 : decode cX6_clashes 31 = .ok (.iload_n 2, 1) := by decide +kernel
theorem dX6_clashes_32 : decode cX6_clashes 32 = .ok (.invokevirtual 337, 3) := by decide +kernel
theorem dX6_clashes_35 : decode cX6_clashes 35 = .ok (.invokevirtual 340, 3) := by decide +kernel
theorem dX6_clashes_38 : decode cX6_clashes 38 = .ok (.istore_n 3, 1) := by decide +kernel
theorem dX6_clashes_39 : decode cX6_clashes 39 = .ok (.iload_n 3, 1) := by decide +kernel
theorem dX6_clashes_40 : decode cX6_clashes 40 = .ok (.ifCond .eq 21, 3) := by decide +kernel
theorem dX6_clashes_43 : decode cX6_clashes 43 = .ok (.aload_n 0, 1) := by decide +kernel
theorem dX6_clashes_44 : decode cX6_clashes 44 = .ok (.getfield 51, 3) := by decide +kernel
theorem dX6_clashes_47 : decode cX6_clashes 47 = .ok (.aload_n 0, 1) := by decide +kernel
theorem dX6_clashes_48 : decode cX6_clashes 48 = .ok (.getfield 47, 3) := by decide +kernel
theorem dX6_clashes_51 : decode cX6_clashes 51 = .ok (.iload_n 2, 1) := by decide +kernel
theorem dX6_clashes_52 : decode cX6_clashes 52 = .ok (.invokevirtual 343, 3) := by decide +kernel
