theorem dX7_layHunk_11 : decode cX7_layHunk 11 = .ok (.istore 4, 2) := by decide +kernel
theorem dX7_layHunk_13 : decode cX7_layHunk 13 = .ok (.aload_n 0, 1) := by decide +kernel
theorem dX7_layHunk_14 : decode cX7_layHunk 14 = .ok (.getfield 37, 3) := by decide +kernel
theorem dX7_layHunk_17 : decode cX7_layHunk 17 = .ok (.bipush 10, 2) := by decide +kernel
theorem dX7_layHunk_19 : decode cX7_layHunk 19 = .ok (.iload_n 1, 1) := by decide +kernel
theorem dX7_layHunk_20 : decode cX7_layHunk 20 = .ok (.imul, 1) := by decide +kernel
theorem dX7_layHunk_21 : decode cX7_layHunk 21 = .ok (.iload_n 2, 1) := by decide +kernel
theorem dX7_layHunk_22 : decode cX7_layHunk 22 = .ok (.iadd, 1) := by decide +kernel
theorem dX7_layHunk_23 : decode cX7_layHunk 23 = .ok (.iaload, 1) := by decide +kernel
theorem dX7_layHunk_24 : decode cX7_layHunk 24 = .ok (.istore 5, 2) := by decide +kernel
theorem dX7_layHunk_26 : decode cX7_layHunk 26 = .ok (.iload 5, 2) := by decide +kernel
theorem dX7_layHunk_28 : decode cX7_layHunk 28 = .ok (.iload 4, 2) := by decide +kernel
theorem dX7_layHunk_30 : decode cX7_layHunk 30 = .ok (.if_icmp .le 49, 3) := by decide +kernel
theorem dX7_layHunk_33 : decode cX7_layHunk 33 = .ok (.aload_n 0, 1) := by decide +kernel
theorem dX7_layHunk_34 : decode cX7_layHunk 34 = .ok (.getfield 178, 3) := by decide +kernel
theorem dX7_layHunk_37 : decode cX7_layHunk 37 = .ok (.iconst 1, 1) := by decide +kernel
theorem dX7_layHunk_38 : decode cX7_layHunk 38 = .ok (.isub, 1) := by decide +kernel
theorem dX7_layHunk_39 : decode cX7_layHunk 39 = .ok (.istore 6, 2) := by decide +kernel
theorem dX7_layHunk_41 : decode cX7_layHunk 41 = .ok (.iload 6, 2) := by decide +kernel
theorem dX7_layHunk_43 : decode cX7_layHunk 43 = .ok (.iload_n 3, 1) := by decide +kernel
theorem dX7_layHunk_44 : decode cX7_layHunk 44 = .ok (.iload 4, 2) := by decide +kernel
theorem dX7_layHunk_46 : decode cX7_layHunk 46 = .ok (.iadd, 1) := by decide +kernel
theorem dX7_layHunk_47 : decode cX7_layHunk 47 = .ok (.if_icmp .lt 29, 3) := by decide +kernel
theorem dX7_layHunk_50 : decode cX7_layHunk 50 = .ok (.aload_n 0, 1) := by decide +kernel
theorem dX7_layHunk_51 : decode cX7_layHunk 51 = .ok (.getfield 67, 3) := by decide +kernel
theorem dX7_layHunk_54 : decode cX7_layHunk 54 = .ok (.iload 6, 2) := by decide +kernel
theorem dX7_layHunk_56 : decode cX7_layHunk 56 = .ok (.iload 5, 2) := by decide +kernel
theorem dX7_layHunk_58 : decode cX7_layHunk 58 = .ok (.iadd, 1) := by decide +kernel
theorem dX7_layHunk_59 : decode cX7_layHunk 59 = .ok (.iload 4, 2) := by decide +kernel
theorem dX7_layHunk_61 : decode cX7_layHunk 61 = .ok (.isub, 1) := by decide +kernel
theorem dX7_layHunk_62 : decode cX7_layHunk 62 = .ok (.aload_n 0, 1) := by decide +kernel
theorem dX7_layHunk_63 : decode cX7_layHunk 63 = .ok (.getfield 67, 3) := by decide +kernel
theorem dX7_layHunk_66 : decode cX7_layHunk 66 = .ok (.iload 6, 2) := by decide +kernel
theorem dX7_layHunk_68 : decode cX7_layHunk 68 = .ok (.iaload, 1) := by decide +kernel
theorem dX7_layHunk_69 : decode cX7_layHunk 69 = .ok (.iastore, 1) := by decide +kernel
theorem dX7_layHunk_70 : decode cX7_layHunk 70 = .ok (.iinc 6 (-1), 3) := by decide +kernel
theorem dX7_layHunk_73 : decode cX7_layHunk 73 = .ok (.goto (-32), 3) := by decide +kernel
theorem dX7_layHunk_76 : decode cX7_layHunk 76 = .ok (.goto 44, 3) := by decide +kernel
theorem dX7_layHunk_79 : decode cX7_layHunk 79 = .ok (.iload_n 3, 1) := by decide +kernel
theorem dX7_layHunk_80 : decode cX7_layHunk 80 = .ok (.iload 4, 2) := by decide +kernel
theorem dX7_layHunk_82 : decode cX7_layHunk 82 = .ok (.iadd, 1) := by decide +kernel
theorem dX7_layHunk_83 : decode cX7_layHunk 83 = .ok (.istore 6, 2) := by decide +kernel
theorem dX7_layHunk_85 : decode cX7_layHunk 85 = .ok (.iload 6, 2) := by decide +kernel
theorem dX7_layHunk_87 : decode cX7_layHunk 87 = .ok (.aload_n 0, 1) := by decide +kernel
theorem dX7_layHunk_88 : decode cX7_layHunk 88 = .ok (.getfield 178, 3) := by decide +kernel
theorem dX7_layHunk_91 : decode cX7_layHunk 91 = .ok (.if_icmp .ge 29, 3) := by decide +kernel
theorem dX7_layHunk_94 : decode cX7_layHunk 94 = .ok (.aload_n 0, 1) := by decide +kernel
theorem dX7_layHunk_95 : decode cX7_layHunk 95 = .ok (.getfield 67, 3) := by decide +kernel
theorem dX7_layHunk_98 : decode cX7_layHunk 98 = .ok (.iload 6, 2) := by decide +kernel
theorem dX7_layHunk_100 : decode cX7_layHunk 100 = .ok (.iload 5, 2) := by decide +kernel
theorem dX7_layHunk_102 : decode cX7_layHunk 102 = .ok (.iadd, 1) := by decide +kernel
theorem dX7_layHunk_103 : decode cX7_layHunk 103 = .ok (.iload 4, 2) := by decide +kernel
theorem dX7_layHunk_105 : decode cX7_layHunk 105 = .ok (.isub, 1) := by decide +kernel
theorem dX7_layHunk_106 : decode cX7_layHunk 106 = .ok (.aload_n 0, 1) := by decide +kernel
theorem dX7_layHunk_107 : decode cX7_layHunk 107 = .ok (.getfield 67, 3) := by decide +kernel
theorem dX7_layHunk_110 : decode cX7_layHunk 110 = .ok (.iload 6, 2) := by decide +kernel
theorem dX7_layHunk_112 : decode cX7_layHunk 112 = .ok (.iaload, 1) := by decide +kernel
theorem dX7_layHunk_113 : decode cX7_layHunk 113 = .ok (.iastore, 1) := by decide +kernel
theorem dX7_layHunk_114 : decode cX7_layHunk 114 = .ok (.iinc 6 1, 3) := by decide +kernel
theorem dX7_layHunk_117 : decode cX7_layHunk 117 = .ok (.goto (-32), 3) := by decide +kernel
theorem dX7_layHunk_120 : decode cX7_layHunk 120 = .ok (.iconst 0, 1) := by decide +kernel
theorem dX7_layHunk_121 : decode cX7_layHunk 121 = .ok (.istore 6, 2) := by decide +kernel
theorem dX7_layHunk_123 : decode cX7_layHunk 123 = .ok (.iload 6, 2) := by decide +kernel
theorem dX7_layHunk_125 : decode cX7_layHunk 125 = .ok (.iload 5, 2) := by decide +kernel
theorem dX7_layHunk_127 : decode cX7_layHunk 127 = .ok (.if_icmp .ge 32, 3) := by decide +kernel
theorem dX7_layHunk_130 : decode cX7_layHunk 130 = .ok (.aload_n 0, 1) := by decide +kernel
theorem dX7_layHunk_131 : decode cX7_layHunk 131 = .ok (.getfield 67, 3) := by decide +kernel
theorem dX7_layHunk_134 : decode cX7_layHunk 134 = .ok (.iload_n 3, 1) := by decide +kernel
theorem dX7_layHunk_135 : decode cX7_layHunk 135 = .ok (.iload 6, 2) := by decide +kernel
theorem dX7_layHunk_137 : decode cX7_layHunk 137 = .ok (.iadd, 1) := by decide +kernel
theorem dX7_layHunk_138 : decode cX7_layHunk 138 = .ok (.aload_n 0, 1) := by decide +kernel
theorem dX7_layHunk_139 : decode cX7_layHunk 139 = .ok (.getfield 43, 3) := by decide +kernel
theorem dX7_layHunk_142 : decode cX7_layHunk 142 = .ok (.aload_n 0, 1) := by decide +kernel
theorem dX7_layHunk_143 : decode cX7_layHunk 143 = .ok (.iload_n 1, 1) := by decide +kernel
theorem dX7_layHunk_144 : decode cX7_layHunk 144 = .ok (.iload_n 2, 1) := by decide +kernel
theorem dX7_layHunk_145 : decode cX7_layHunk 145 = .ok (.invokevirtual 171, 3) := by decide +kernel
theorem dX7_layHunk_148 : decode cX7_layHunk 148 = .ok (.iload 6, 2) := by decide +kernel
theorem dX7_layHunk_150 : decode cX7_layHunk 150 = .ok (.iadd, 1) := by decide +kernel
theorem dX7_layHunk_151 : decode cX7_layHunk 151 = .ok (.iaload, 1) := by decide +kernel
theorem dX7_layHunk_152 : decode cX7_layHunk 152 = .ok (.iastore, 1) := by decide +kernel
theorem dX7_layHunk_153 : decode cX7_layHunk 153 = .ok (.iinc 6 1, 3) := by decide +kernel
theorem dX7_layHunk_156 : decode cX7_layHunk 156 = .ok (.goto (-33), 3) := by decide +kernel
theorem dX7_layHunk_159 : decode cX7_layHunk 159 = .ok (.aload_n 0, 1) := by decide +kernel
theorem dX7_layHunk_160 : decode cX7_layHunk 160 = .ok (.dup, 1) := by decide +kernel
theorem dX7_layHunk_161 : decode cX7_layHunk 161 = .ok (.getfield 178, 3) := by decide +kernel
theorem dX7_layHunk_164 : decode cX7_layHunk 164 = .ok (.iload 5, 2) := by decide +kernel
theorem dX7_layHunk_166 : decode cX7_layHunk 166 = .ok (.iload 4, 2) := by decide +kernel
theorem dX7_layHunk_168 : decode cX7_layHunk 168 = .ok (.isub, 1) := by decide +kernel
theorem dX7_layHunk_169 : decode cX7_layHunk 169 = .ok (.iadd, 1) := by decide +kernel
theorem dX7_layHunk_170 : decode cX7_layHunk 170 = .ok (.putfield 178, 3) := by decide +kernel
theorem dX7_layHunk_173 : decode cX7_layHunk 173 = .ok (.return_, 1) := by decide +kernel
theorem dX7_toDesk_0 : decode cX7_toDesk 0 = .ok (.aload_n 0, 1) := by decide +kernel
theorem dX7_toDesk_1 : decode cX7_toDesk 1 = .ok (.aload_n 0, 1) := by decide +kernel
theorem dX7_toDesk_2 : decode cX7_toDesk 2 = .ok (.getfield 178, 3) := by decide +kernel
theorem dX7_toDesk_5 : decode cX7_toDesk 5 = .ok (.putfield 108, 3) := by decide +kernel
theorem dX7_toDesk_8 : decode cX7_toDesk 8 = .ok (.iconst 0, 1) := by decide +kernel
theorem dX7_toDesk_9 : decode cX7_toDesk 9 = .ok (.istore_n 1, 1) := by decide +kernel
theorem dX7_toDesk_10 : decode cX7_toDesk 10 = .ok (.iload_n 1, 1) := by decide +kernel
theorem dX7_toDesk_11 : decode cX7_toDesk 11 = .ok (.aload_n 0, 1) := by decide +kernel
theorem dX7_toDesk_12 : decode cX7_toDesk 12 = .ok (.getfield 178, 3) := by decide +kernel
theorem dX7_toDesk_15 : decode cX7_toDesk 15 = .ok (.if_icmp .ge 21, 3) := by decide +kernel
theorem dX7_toDesk_18 : decode cX7_toDesk 18 = .ok (.aload_n 0, 1) := by decide +kernel
theorem dX7_toDesk_19 : decode cX7_toDesk 19 = .ok (.getfield 7, 3) := by decide +kernel
theorem dX7_toDesk_22 : decode cX7_toDesk 22 = .ok (.iload_n 1, 1) := by decide +kernel
theorem dX7_toDesk_23 : decode cX7_toDesk 23 = .ok (.aload_n 0, 1) := by decide +kernel
theorem dX7_toDesk_24 : decode cX7_toDesk 24 = .ok (.getfield 67, 3) := by decide +kernel
theorem dX7_toDesk_27 : decode cX7_toDesk 27 = .ok (.iload_n 1, 1) := by decide +kernel
theorem dX7_toDesk_28 : decode cX7_toDesk 28 = .ok (.iaload, 1) := by decide +kernel
theorem dX7_toDesk_29 : decode cX7_toDesk 29 = .ok (.iastore, 1) := by decide +kernel
theorem dX7_toDesk_30 : decode cX7_toDesk 30 = .ok (.iinc 1 1, 3) := by decide +kernel
theorem dX7_toDesk_33 : decode cX7_toDesk 33 = .ok (.goto (-23), 3) := by decide +kernel
theorem dX7_toDesk_36 : decode cX7_toDesk 36 = .ok (.return_, 1) := by decide +kernel
theorem dX7_lay_0 : decode cX7_lay 0 = .ok (.aload_n 0, 1) := by decide +kernel
theorem dX7_lay_1 : decode cX7_lay 1 = .ok (.iload_n 1, 1) := by decide +kernel
theorem dX7_lay_2 : decode cX7_lay 2 = .ok (.invokevirtual 155, 3) := by decide +kernel
theorem dX7_lay_5 : decode cX7_lay 5 = .ok (.ifCond .ne 6, 3) := by decide +kernel
theorem dX7_lay_8 : decode cX7_lay 8 = .ok (.bipush (-101), 2) := by decide +kernel
theorem dX7_lay_10 : decode cX7_lay 10 = .ok (.ireturn, 1) := by decide +kernel
theorem dX7_lay_11 : decode cX7_lay 11 = .ok (.aload_n 0, 1) := by decide +kernel
theorem dX7_lay_12 : decode cX7_lay 12 = .ok (.invokevirtual 185, 3) := by decide +kernel
theorem dX7_lay_15 : decode cX7_lay 15 = .ok (.aload_n 0, 1) := by decide +kernel
theorem dX7_lay_16 : decode cX7_lay 16 = .ok (.iload_n 1, 1) := by decide +kernel
theorem dX7_lay_17 : decode cX7_lay 17 = .ok (.invokevirtual 188, 3) := by decide +kernel
theorem dX7_lay_20 : decode cX7_lay 20 = .ok (.ifCond .ne 6, 3) := by decide +kernel
theorem dX7_lay_23 : decode cX7_lay 23 = .ok (.bipush (-103), 2) := by decide +kernel
theorem dX7_lay_25 : decode cX7_lay 25 = .ok (.ireturn, 1) := by decide +kernel
theorem dX7_lay_26 : decode cX7_lay 26 = .ok (.aload_n 0, 1) := by decide +kernel
theorem dX7_lay_27 : decode cX7_lay 27 = .ok (.getfield 28, 3) := by decide +kernel
theorem dX7_lay_30 : decode cX7_lay 30 = .ok (.iload_n 1, 1) := by decide +kernel
theorem dX7_lay_31 : decode cX7_lay 31 = .ok (.iaload, 1) := by decide +kernel
theorem dX7_lay_32 : decode cX7_lay 32 = .ok (.iconst 1, 1) := by decide +kernel
theorem dX7_lay_33 : decode cX7_lay 33 = .ok (.isub, 1) := by decide +kernel
theorem dX7_lay_34 : decode cX7_lay 34 = .ok (.istore_n 2, 1) := by decide +kernel
theorem dX7_lay_35 : decode cX7_lay 35 = .ok (.iload_n 2, 1) := by decide +kernel
theorem dX7_lay_36 : decode cX7_lay 36 = .ok (.ifCond .lt 26, 3) := by decide +kernel
theorem dX7_lay_39 : decode cX7_lay 39 = .ok (.aload_n 0, 1) := by decide +kernel
theorem dX7_lay_40 : decode cX7_lay 40 = .ok (.iload_n 1, 1) := by decide +kernel
theorem dX7_lay_41 : decode cX7_lay 41 = .ok (.iload_n 2, 1) := by decide +kernel
theorem dX7_lay_42 : decode cX7_lay 42 = .ok (.aload_n 0, 1) := by decide +kernel
theorem dX7_lay_43 : decode cX7_lay 43 = .ok (.getfield 31, 3) := by decide +kernel
theorem dX7_lay_46 : decode cX7_lay 46 = .ok (.bipush 10, 2) := by decide +kernel
theorem dX7_lay_48 : decode cX7_lay 48 = .ok (.iload_n 1, 1) := by decide +kernel
theorem dX7_lay_49 : decode cX7_lay 49 = .ok (.imul, 1) := by decide +kernel
theorem dX7_lay_50 : decode cX7_lay 50 = .ok (.iload_n 2, 1) := by decide +kernel
theorem dX7_lay_51 : decode cX7_lay 51 = .ok (.iadd, 1) := by decide +kernel
theorem dX7_lay_52 : decode cX7_lay 52 = .ok (.iaload, 1) := by decide +kernel
theorem dX7_lay_53 : decode cX7_lay 53 = .ok (.invokevirtual 191, 3) := by decide +kernel
theorem dX7_lay_56 : decode cX7_lay 56 = .ok (.iinc 2 (-1), 3) := by decide +kernel
theorem dX7_lay_59 : decode cX7_lay 59 = .ok (.goto (-24), 3) := by decide +kernel
theorem dX7_lay_62 : decode cX7_lay 62 = .ok (.aload_n 0, 1) := by decide +kernel
theorem dX7_lay_63 : decode cX7_lay 63 = .ok (.getfield 178, 3) := by decide +kernel
theorem dX7_lay_66 : decode cX7_lay 66 = .ok (.bipush 14, 2) := by decide +kernel
theorem dX7_lay_68 : decode cX7_lay 68 = .ok (.if_icmp .le 6, 3) := by decide +kernel
theorem dX7_lay_71 : decode cX7_lay 71 = .ok (.bipush (-104), 2) := by decide +kernel
theorem dX7_lay_73 : decode cX7_lay 73 = .ok (.ireturn, 1) := by decide +kernel
theorem dX7_lay_74 : decode cX7_lay 74 = .ok (.aload_n 0, 1) := by decide +kernel
theorem dX7_lay_75 : decode cX7_lay 75 = .ok (.invokevirtual 195, 3) := by decide +kernel
theorem dX7_lay_78 : decode cX7_lay 78 = .ok (.aload_n 0, 1) := by decide +kernel
theorem dX7_lay_79 : decode cX7_lay 79 = .ok (.getfield 108, 3) := by decide +kernel
theorem dX7_lay_82 : decode cX7_lay 82 = .ok (.ireturn, 1) := by decide +kernel
theorem dX7_loose_0 : decode cX7_loose 0 = .ok (.aload_n 0, 1) := by decide +kernel
theorem dX7_loose_1 : decode cX7_loose 1 = .ok (.iload_n 1, 1) := by decide +kernel
theorem dX7_loose_2 : decode cX7_loose 2 = .ok (.invokevirtual 155, 3) := by decide +kernel
theorem dX7_loose_5 : decode cX7_loose 5 = .ok (.ifCond .ne 6, 3) := by decide +kernel
theorem dX7_loose_8 : decode cX7_loose 8 = .ok (.bipush (-101), 2) := by decide +kernel
theorem dX7_loose_10 : decode cX7_loose 10 = .ok (.ireturn, 1) := by decide +kernel
theorem dX7_loose_11 : decode cX7_loose 11 = .ok (.aload_n 0, 1) := by decide +kernel
theorem dX7_loose_12 : decode cX7_loose 12 = .ok (.invokevirtual 185, 3) := by decide +kernel
theorem dX7_loose_15 : decode cX7_loose 15 = .ok (.iconst 0, 1) := by decide +kernel
theorem dX7_loose_16 : decode cX7_loose 16 = .ok (.istore_n 2, 1) := by decide +kernel
theorem dX7_loose_17 : decode cX7_loose 17 = .ok (.iconst 0, 1) := by decide +kernel
theorem dX7_loose_18 : decode cX7_loose 18 = .ok (.istore_n 3, 1) := by decide +kernel
theorem dX7_loose_19 : decode cX7_loose 19 = .ok (.iconst 0, 1) := by decide +kernel
theorem dX7_loose_20 : decode cX7_loose 20 = .ok (.istore 4, 2) := by decide +kernel
theorem dX7_loose_22 : decode cX7_loose 22 = .ok (.iconst 0, 1) := by decide +kernel
theorem dX7_loose_23 : decode cX7_loose 23 = .ok (.istore 5, 2) := by decide +kernel
theorem dX7_loose_25 : decode cX7_loose 25 = .ok (.iload 5, 2) := by decide +kernel
theorem dX7_loose_27 : decode cX7_loose 27 = .ok (.aload_n 0, 1) := by decide +kernel
theorem dX7_loose_28 : decode cX7_loose 28 = .ok (.getfield 28, 3) := by decide +kernel
theorem dX7_loose_31 : decode cX7_loose 31 = .ok (.iload_n 1, 1) := by decide +kernel
theorem dX7_loose_32 : decode cX7_loose 32 = .ok (.iaload, 1) := by decide +kernel
theorem dX7_loose_33 : decode cX7_loose 33 = .ok (.if_icmp .ge 216, 3) := by decide +kernel
theorem dX7_loose_36 : decode cX7_loose 36 = .ok (.aload_n 0, 1) := by decide +kernel
theorem dX7_loose_37 : decode cX7_loose 37 = .ok (.getfield 31, 3) := by decide +kernel
theorem dX7_loose_40 : decode cX7_loose 40 = .ok (.bipush 10, 2) := by decide +kernel
theorem dX7_loose_42 : decode cX7_loose 42 = .ok (.iload_n 1, 1) := by decide +kernel
theorem dX7_loose_43 : decode cX7_loose 43 = .ok (.imul, 1) := by decide +kernel
theorem dX7_loose_44 : decode cX7_loose 44 = .ok (.iload 5, 2) := by decide +kernel
theorem dX7_loose_46 : decode cX7_loose 46 = .ok (.iadd, 1) := by decide +kernel
theorem dX7_loose_47 : decode cX7_loose 47 = .ok (.iaload, 1) := by decide +kernel
theorem dX7_loose_48 : decode cX7_loose 48 = .ok (.iload_n 2, 1) := by decide +kernel
theorem dX7_loose_49 : decode cX7_loose 49 = .ok (.iadd, 1) := by decide +kernel
theorem dX7_loose_50 : decode cX7_loose 50 = .ok (.istore 6, 2) := by decide +kernel
theorem dX7_loose_52 : decode cX7_loose 52 = .ok (.iconst (-1), 1) := by decide +kernel
theorem dX7_loose_53 : decode cX7_loose 53 = .ok (.istore 7, 2) := by decide +kernel
theorem dX7_loose_55 : decode cX7_loose 55 = .ok (.iconst 0, 1) := by decide +kernel
theorem dX7_loose_56 : decode cX7_loose 56 = .ok (.istore 8, 2) := by decide +kernel
theorem dX7_loose_58 : decode cX7_loose 58 = .ok (.iload 8, 2) := by decide +kernel
theorem dX7_loose_60 : decode cX7_loose 60 = .ok (.sipush 1000, 3) := by decide +kernel
theorem dX7_loose_63 : decode cX7_loose 63 = .ok (.if_icmp .ge 88, 3) := by decide +kernel
theorem dX7_loose_66 : decode cX7_loose 66 = .ok (.iload 7, 2) := by decide +kernel
theorem dX7_loose_68 : decode cX7_loose 68 = .ok (.iconst (-1), 1) := by decide +kernel
theorem dX7_loose_69 : decode cX7_loose 69 = .ok (.if_icmp .ne 82, 3) := by decide +kernel
theorem dX7_loose_72 : decode cX7_loose 72 = .ok (.iload 6, 2) := by decide +kernel
theorem dX7_loose_74 : decode cX7_loose 74 = .ok (.iload 8, 2) := by decide +kernel
theorem dX7_loose_76 : decode cX7_loose 76 = .ok (.isub, 1) := by decide +kernel
theorem dX7_loose_77 : decode cX7_loose 77 = .ok (.iload_n 3, 1) := by decide +kernel
theorem dX7_loose_78 : decode cX7_loose 78 = .ok (.if_icmp .lt 32, 3) := by decide +kernel
theorem dX7_loose_81 : decode cX7_loose 81 = .ok (.aload_n 0, 1) := by decide +kernel
theorem dX7_loose_82 : decode cX7_loose 82 = .ok (.iload_n 1, 1) := by decide +kernel
theorem dX7_loose_83 : decode cX7_loose 83 = .ok (.iload 5, 2) := by decide +kernel
theorem dX7_loose_85 : decode cX7_loose 85 = .ok (.iload 6, 2) := by decide +kernel
theorem dX7_loose_87 : decode cX7_loose 87 = .ok (.iload 8, 2) := by decide +kernel
theorem dX7_loose_89 : decode cX7_loose 89 = .ok (.isub, 1) := by decide +kernel
theorem dX7_loose_90 : decode cX7_loose 90 = .ok (.aload_n 0, 1) := by decide +kernel
theorem dX7_loose_91 : decode cX7_loose 91 = .ok (.getfield 178, 3) := by decide +kernel
theorem dX7_loose_94 : decode cX7_loose 94 = .ok (.invokevirtual 181, 3) := by decide +kernel
theorem dX7_loose_97 : decode cX7_loose 97 = .ok (.ifCond .eq 13, 3) := by decide +kernel
theorem dX7_loose_100 : decode cX7_loose 100 = .ok (.iload 6, 2) := by decide +kernel
theorem dX7_loose_102 : decode cX7_loose 102 = .ok (.iload 8, 2) := by decide +kernel
theorem dX7_loose_104 : decode cX7_loose 104 = .ok (.isub, 1) := by decide +kernel
theorem dX7_loose_105 : decode cX7_loose 105 = .ok (.istore 7, 2) := by decide +kernel
theorem dX7_loose_107 : decode cX7_loose 107 = .ok (.goto 38, 3) := by decide +kernel
theorem dX7_loose_110 : decode cX7_loose 110 = .ok (.iload 6, 2) := by decide +kernel
theorem dX7_loose_112 : decode cX7_loose 112 = .ok (.iload 8, 2) := by decide +kernel
theorem dX7_loose_114 : decode cX7_loose 114 = .ok (.iadd, 1) := by decide +kernel
theorem dX7_loose_115 : decode cX7_loose 115 = .ok (.iload_n 3, 1) := by decide +kernel
theorem dX7_loose_116 : decode cX7_loose 116 = .ok (.if_icmp .lt 29, 3) := by decide +kernel
theorem dX7_loose_119 : decode cX7_loose 119 = .ok (.aload_n 0, 1) := by decide +kernel
theorem dX7_loose_120 : decode cX7_loose 120 = .ok (.iload_n 1, 1) := by decide +kernel
theorem dX7_loose_121 : decode cX7_loose 121 = .ok (.iload 5, 2) := by decide +kernel
theorem dX7_loose_123 : decode cX7_loose 123 = .ok (.iload 6, 2) := by decide +kernel
theorem dX7_loose_125 : decode cX7_loose 125 = .ok (.iload 8, 2) := by decide +kernel
theorem dX7_loose_127 : decode cX7_loose 127 = .ok (.iadd, 1) := by decide +kernel
theorem dX7_loose_128 : decode cX7_loose 128 = .ok (.aload_n 0, 1) := by decide +kernel
theorem dX7_loose_129 : decode cX7_loose 129 = .ok (.getfield 178, 3) := by decide +kernel
theorem dX7_loose_132 : decode cX7_loose 132 = .ok (.invokevirtual 181, 3) := by decide +kernel
theorem dX7_loose_135 : decode cX7_loose 135 = .ok (.ifCond .eq 10, 3) := by decide +kernel
theorem dX7_loose_138 : decode cX7_loose 138 = .ok (.iload 6, 2) := by decide +kernel
theorem dX7_loose_140 : decode cX7_loose 140 = .ok (.iload 8, 2) := by decide +kernel
theorem dX7_loose_142 : decode cX7_loose 142 = .ok (.iadd, 1) := by decide +kernel
theorem dX7_loose_143 : decode cX7_loose 143 = .ok (.istore 7, 2) := by decide +kernel
theorem dX7_loose_145 : decode cX7_loose 145 = .ok (.iinc 8 1, 3) := by decide +kernel
theorem dX7_loose_148 : decode cX7_loose 148 = .ok (.goto (-90), 3) := by decide +kernel
theorem dX7_loose_151 : decode cX7_loose 151 = .ok (.iload 7, 2) := by decide +kernel
theorem dX7_loose_153 : decode cX7_loose 153 = .ok (.iconst (-1), 1) := by decide +kernel
theorem dX7_loose_154 : decode cX7_loose 154 = .ok (.if_icmp .ne 6, 3) := by decide +kernel
theorem dX7_loose_157 : decode cX7_loose 157 = .ok (.bipush (-103), 2) := by decide +kernel
theorem dX7_loose_159 : decode cX7_loose 159 = .ok (.ireturn, 1) := by decide +kernel
theorem dX7_loose_160 : decode cX7_loose 160 = .ok (.aload_n 0, 1) := by decide +kernel
theorem dX7_loose_161 : decode cX7_loose 161 = .ok (.iload_n 1, 1) := by decide +kernel
theorem dX7_loose_162 : decode cX7_loose 162 = .ok (.iload 5, 2) := by decide +kernel
theorem dX7_loose_164 : decode cX7_loose 164 = .ok (.iload 7, 2) := by decide +kernel
theorem dX7_loose_166 : decode cX7_loose 166 = .ok (.invokevirtual 191, 3) := by decide +kernel
theorem dX7_loose_169 : decode cX7_loose 169 = .ok (.iload 7, 2) := by decide +kernel
theorem dX7_loose_171 : decode cX7_loose 171 = .ok (.iload 6, 2) := by decide +kernel
theorem dX7_loose_173 : decode cX7_loose 173 = .ok (.isub, 1) := by decide +kernel
theorem dX7_loose_174 : decode cX7_loose 174 = .ok (.istore 8, 2) := by decide +kernel
theorem dX7_loose_176 : decode cX7_loose 176 = .ok (.iload 4, 2) := by decide +kernel
theorem dX7_loose_178 : decode cX7_loose 178 = .ok (.iload 8, 2) := by decide +kernel
theorem dX7_loose_180 : decode cX7_loose 180 = .ok (.ifCond .ge 9, 3) := by decide +kernel
theorem dX7_loose_183 : decode cX7_loose 183 = .ok (.iload 8, 2) := by decide +kernel
theorem dX7_loose_185 : decode cX7_loose 185 = .ok (.ineg, 1) := by decide +kernel
theorem dX7_loose_186 : decode cX7_loose 186 = .ok (.goto 5, 3) := by decide +kernel
theorem dX7_loose_189 : decode cX7_loose 189 = .ok (.iload 8, 2) := by decide +kernel
theorem dX7_loose_191 : decode cX7_loose 191 = .ok (.iadd, 1) := by decide +kernel
theorem dX7_loose_192 : decode cX7_loose 192 = .ok (.istore 4, 2) := by decide +kernel
theorem dX7_loose_194 : decode cX7_loose 194 = .ok (.iload_n 2, 1) := by decide +kernel
theorem dX7_loose_195 : decode cX7_loose 195 = .ok (.iload 8, 2) := by decide +kernel
theorem dX7_loose_197 : decode cX7_loose 197 = .ok (.aload_n 0, 1) := by decide +kernel
theorem dX7_loose_198 : decode cX7_loose 198 = .ok (.getfield 37, 3) := by decide +kernel
theorem dX7_loose_201 : decode cX7_loose 201 = .ok (.bipush 10, 2) := by decide +kernel
theorem dX7_loose_203 : decode cX7_loose 203 = .ok (.iload_n 1, 1) := by decide +kernel
theorem dX7_loose_204 : decode cX7_loose 204 = .ok (.imul, 1) := by decide +kernel
theorem dX7_loose_205 : decode cX7_loose 205 = .ok (.iload 5, 2) := by decide +kernel
theorem dX7_loose_207 : decode cX7_loose 207 = .ok (.iadd, 1) := by decide +kernel
theorem dX7_loose_208 : decode cX7_loose 208 = .ok (.iaload, 1) := by decide +kernel
theorem dX7_loose_209 : decode cX7_loose 209 = .ok (.iadd, 1) := by decide +kernel
theorem dX7_loose_210 : decode cX7_loose 210 = .ok (.aload_n 0, 1) := by decide +kernel
theorem dX7_loose_211 : decode cX7_loose 211 = .ok (.getfield 34, 3) := by decide +kernel
theorem dX7_loose_214 : decode cX7_loose 214 = .ok (.bipush 10, 2) := by decide +kernel
theorem dX7_loose_216 : decode cX7_loose 216 = .ok (.iload_n 1, 1) := by decide +kernel
theorem dX7_loose_217 : decode cX7_loose 217 = .ok (.imul, 1) := by decide +kernel
theorem dX7_loose_218 : decode cX7_loose 218 = .ok (.iload 5, 2) := by decide +kernel
theorem dX7_loose_220 : decode cX7_loose 220 = .ok (.iadd, 1) := by decide +kernel
theorem dX7_loose_221 : decode cX7_loose 221 = .ok (.iaload, 1) := by decide +kernel
theorem dX7_loose_222 : decode cX7_loose 222 = .ok (.isub, 1) := by decide +kernel
theorem dX7_loose_223 : decode cX7_loose 223 = .ok (.iadd, 1) := by decide +kernel
theorem dX7_loose_224 : decode cX7_loose 224 = .ok (.istore_n 2, 1) := by decide +kernel
theorem dX7_loose_225 : decode cX7_loose 225 = .ok (.iload 7, 2) := by decide +kernel
theorem dX7_loose_227 : decode cX7_loose 227 = .ok (.aload_n 0, 1) := by decide +kernel
theorem dX7_loose_228 : decode cX7_loose 228 = .ok (.getfield 37, 3) := by decide +kernel
theorem dX7_loose_231 : decode cX7_loose 231 = .ok (.bipush 10, 2) := by decide +kernel
theorem dX7_loose_233 : decode cX7_loose 233 = .ok (.iload_n 1, 1) := by decide +kernel
theorem dX7_loose_234 : decode cX7_loose 234 = .ok (.imul, 1) := by decide +kernel
theorem dX7_loose_235 : decode cX7_loose 235 = .ok (.iload 5, 2) := by decide +kernel
theorem dX7_loose_237 : decode cX7_loose 237 = .ok (.iadd, 1) := by decide +kernel
theorem dX7_loose_238 : decode cX7_loose 238 = .ok (.iaload, 1) := by decide +kernel
theorem dX7_loose_239 : decode cX7_loose 239 = .ok (.iadd, 1) := by decide +kernel
theorem dX7_loose_240 : decode cX7_loose 240 = .ok (.iconst 1, 1) := by decide +kernel
theorem dX7_loose_241 : decode cX7_loose 241 = .ok (.iadd, 1) := by decide +kernel
theorem dX7_loose_242 : decode cX7_loose 242 = .ok (.istore_n 3, 1) := by decide +kernel
theorem dX7_loose_243 : decode cX7_loose 243 = .ok (.iinc 5 1, 3) := by decide +kernel
theorem dX7_loose_246 : decode cX7_loose 246 = .ok (.goto (-221), 3) := by decide +kernel
theorem dX7_loose_249 : decode cX7_loose 249 = .ok (.aload_n 0, 1) := by decide +kernel
theorem dX7_loose_250 : decode cX7_loose 250 = .ok (.getfield 178, 3) := by decide +kernel
theorem dX7_loose_253 : decode cX7_loose 253 = .ok (.bipush 14, 2) := by decide +kernel
theorem dX7_loose_255 : decode cX7_loose 255 = .ok (.if_icmp .le 6, 3) := by decide +kernel
theorem dX7_loose_258 : decode cX7_loose 258 = .ok (.bipush (-104), 2) := by decide +kernel
theorem dX7_loose_260 : decode cX7_loose 260 = .ok (.ireturn, 1) := by decide +kernel
theorem dX7_loose_261 : decode cX7_loose 261 = .ok (.aload_n 0, 1) := by decide +kernel
theorem dX7_loose_262 : decode cX7_loose 262 = .ok (.invokevirtual 195, 3) := by decide +kernel
theorem dX7_loose_265 : decode cX7_loose 265 = .ok (.iload 4, 2) := by decide +kernel
theorem dX7_loose_267 : decode cX7_loose 267 = .ok (.ireturn, 1) := by decide +kernel
theorem dX7_turn_0 : decode cX7_turn 0 = .ok (.aload_n 0, 1) := by decide +kernel
theorem dX7_turn_1 : decode cX7_turn 1 = .ok (.iload_n 1, 1) := by decide +kernel
theorem dX7_turn_2 : decode cX7_turn 2 = .ok (.invokevirtual 155, 3) := by decide +kernel
theorem dX7_turn_5 : decode cX7_turn 5 = .ok (.ifCond .ne 6, 3) := by decide +kernel
theorem dX7_turn_8 : decode cX7_turn 8 = .ok (.bipush (-101), 2) := by decide +kernel
theorem dX7_turn_10 : decode cX7_turn 10 = .ok (.ireturn, 1) := by decide +kernel
theorem dX7_turn_11 : decode cX7_turn 11 = .ok (.aload_n 0, 1) := by decide +kernel
theorem dX7_turn_12 : decode cX7_turn 12 = .ok (.getfield 105, 3) := by decide +kernel
theorem dX7_turn_15 : decode cX7_turn 15 = .ok (.bipush 12, 2) := by decide +kernel
theorem dX7_turn_17 : decode cX7_turn 17 = .ok (.if_icmp .ne 6, 3) := by decide +kernel
theorem dX7_turn_20 : decode cX7_turn 20 = .ok (.bipush (-104), 2) := by decide +kernel
theorem dX7_turn_22 : decode cX7_turn 22 = .ok (.ireturn, 1) := by decide +kernel
theorem dX7_turn_23 : decode cX7_turn 23 = .ok (.aload_n 0, 1) := by decide +kernel
theorem dX7_turn_24 : decode cX7_turn 24 = .ok (.invokevirtual 128, 3) := by decide +kernel
theorem dX7_turn_27 : decode cX7_turn 27 = .ok (.iconst 0, 1) := by decide +kernel
theorem dX7_turn_28 : decode cX7_turn 28 = .ok (.istore_n 2, 1) := by decide +kernel
theorem dX7_turn_29 : decode cX7_turn 29 = .ok (.iconst 0, 1) := by decide +kernel
theorem dX7_turn_30 : decode cX7_turn 30 = .ok (.istore_n 3, 1) := by decide +kernel
theorem dX7_turn_31 : decode cX7_turn 31 = .ok (.iload_n 3, 1) := by decide +kernel
theorem dX7_turn_32 : decode cX7_turn 32 = .ok (.aload_n 0, 1) := by decide +kernel
theorem dX7_turn_33 : decode cX7_turn 33 = .ok (.getfield 28, 3) := by decide +kernel
theorem dX7_turn_36 : decode cX7_turn 36 = .ok (.iload_n 1, 1) := by decide +kernel
theorem dX7_turn_37 : decode cX7_turn 37 = .ok (.iaload, 1) := by decide +kernel
theorem dX7_turn_38 : decode cX7_turn 38 = .ok (.if_icmp .ge 138, 3) := by decide +kernel
theorem dX7_turn_41 : decode cX7_turn 41 = .ok (.aload_n 0, 1) := by decide +kernel
theorem dX7_turn_42 : decode cX7_turn 42 = .ok (.aload_n 0, 1) := by decide +kernel
theorem dX7_turn_43 : decode cX7_turn 43 = .ok (.getfield 31, 3) := by decide +kernel
theorem dX7_turn_46 : decode cX7_turn 46 = .ok (.bipush 10, 2) := by decide +kernel
theorem dX7_turn_48 : decode cX7_turn 48 = .ok (.iload_n 1, 1) := by decide +kernel
theorem dX7_turn_49 : decode cX7_turn 49 = .ok (.imul, 1) := by decide +kernel
theorem dX7_turn_50 : decode cX7_turn 50 = .ok (.iload_n 3, 1) := by decide +kernel
theorem dX7_turn_51 : decode cX7_turn 51 = .ok (.iadd, 1) := by decide +kernel
theorem dX7_turn_52 : decode cX7_turn 52 = .ok (.iaload, 1) := by decide +kernel
theorem dX7_turn_53 : decode cX7_turn 53 = .ok (.iload_n 2, 1) := by decide +kernel
theorem dX7_turn_54 : decode cX7_turn 54 = .ok (.iadd, 1) := by decide +kernel
theorem dX7_turn_55 : decode cX7_turn 55 = .ok (.invokevirtual 134, 3) := by decide +kernel
theorem dX7_turn_58 : decode cX7_turn 58 = .ok (.iload_n 2, 1) := by decide +kernel
theorem dX7_turn_59 : decode cX7_turn 59 = .ok (.aload_n 0, 1) := by decide +kernel
theorem dX7_turn_60 : decode cX7_turn 60 = .ok (.getfield 37, 3) := by decide +kernel
theorem dX7_turn_63 : decode cX7_turn 63 = .ok (.bipush 10, 2) := by decide +kernel
theorem dX7_turn_65 : decode cX7_turn 65 = .ok (.iload_n 1, 1) := by decide +kernel
theorem dX7_turn_66 : decode cX7_turn 66 = .ok (.imul, 1) := by decide +kernel
theorem dX7_turn_67 : decode cX7_turn 67 = .ok (.iload_n 3, 1) := by decide +kernel
theorem dX7_turn_68 : decode cX7_turn 68 = .ok (.iadd, 1) := by decide +kernel
theorem dX7_turn_69 : decode cX7_turn 69 = .ok (.iaload, 1) := by decide +kernel
theorem dX7_turn_70 : decode cX7_turn 70 = .ok (.aload_n 0, 1) := by decide +kernel
theorem dX7_turn_71 : decode cX7_turn 71 = .ok (.getfield 34, 3) := by decide +kernel
theorem dX7_turn_74 : decode cX7_turn 74 = .ok (.bipush 10, 2) := by decide +kernel
theorem dX7_turn_76 : decode cX7_turn 76 = .ok (.iload_n 1, 1) := by decide +kernel
theorem dX7_turn_77 : decode cX7_turn 77 = .ok (.imul, 1) := by decide +kernel
theorem dX7_turn_78 : decode cX7_turn 78 = .ok (.iload_n 3, 1) := by decide +kernel
theorem dX7_turn_79 : decode cX7_turn 79 = .ok (.iadd, 1) := by decide +kernel
theorem dX7_turn_80 : decode cX7_turn 80 = .ok (.iaload, 1) := by decide +kernel
theorem dX7_turn_81 : decode cX7_turn 81 = .ok (.isub, 1) := by decide +kernel
theorem dX7_turn_82 : decode cX7_turn 82 = .ok (.iadd, 1) := by decide +kernel
theorem dX7_turn_83 : decode cX7_turn 83 = .ok (.istore_n 2, 1) := by decide +kernel
theorem dX7_turn_84 : decode cX7_turn 84 = .ok (.iconst 0, 1) := by decide +kernel
theorem dX7_turn_85 : decode cX7_turn 85 = .ok (.istore 4, 2) := by decide +kernel
theorem dX7_turn_87 : decode cX7_turn 87 = .ok (.iload 4, 2) := by decide +kernel
theorem dX7_turn_89 : decode cX7_turn 89 = .ok (.aload_n 0, 1) := by decide +kernel
theorem dX7_turn_90 : decode cX7_turn 90 = .ok (.getfield 37, 3) := by decide +kernel
theorem dX7_turn_93 : decode cX7_turn 93 = .ok (.bipush 10, 2) := by decide +kernel
theorem dX7_turn_95 : decode cX7_turn 95 = .ok (.iload_n 1, 1) := by decide +kernel
theorem dX7_turn_96 : decode cX7_turn 96 = .ok (.imul, 1) := by decide +kernel
theorem dX7_turn_97 : decode cX7_turn 97 = .ok (.iload_n 3, 1) := by decide +kernel
theorem dX7_turn_98 : decode cX7_turn 98 = .ok (.iadd, 1) := by decide +kernel
theorem dX7_turn_99 : decode cX7_turn 99 = .ok (.iaload, 1) := by decide +kernel
theorem dX7_turn_100 : decode cX7_turn 100 = .ok (.if_icmp .ge 27, 3) := by decide +kernel
theorem dX7_turn_103 : decode cX7_turn 103 = .ok (.aload_n 0, 1) := by decide +kernel
theorem dX7_turn_104 : decode cX7_turn 104 = .ok (.aload_n 0, 1) := by decide +kernel
theorem dX7_turn_105 : decode cX7_turn 105 = .ok (.getfield 43, 3) := by decide +kernel
theorem dX7_turn_108 : decode cX7_turn 108 = .ok (.aload_n 0, 1) := by decide +kernel
theorem dX7_turn_109 : decode cX7_turn 109 = .ok (.iload_n 1, 1) := by decide +kernel
theorem dX7_turn_110 : decode cX7_turn 110 = .ok (.iload_n 3, 1) := by decide +kernel
theorem dX7_turn_111 : decode cX7_turn 111 = .ok (.invokevirtual 171, 3) := by decide +kernel
theorem dX7_turn_114 : decode cX7_turn 114 = .ok (.iload 4, 2) := by decide +kernel
theorem dX7_turn_116 : decode cX7_turn 116 = .ok (.iadd, 1) := by decide +kernel
theorem dX7_turn_117 : decode cX7_turn 117 = .ok (.iaload, 1) := by decide +kernel
theorem dX7_turn_118 : decode cX7_turn 118 = .ok (.invokevirtual 138, 3) := by decide +kernel
theorem dX7_turn_121 : decode cX7_turn 121 = .ok (.iinc 4 1, 3) := by decide +kernel
theorem dX7_turn_124 : decode cX7_turn 124 = .ok (.goto (-37), 3) := by decide +kernel
theorem dX7_turn_127 : decode cX7_turn 127 = .ok (.iconst 0, 1) := by decide +kernel
theorem dX7_turn_128 : decode cX7_turn 128 = .ok (.istore 4, 2) := by decide +kernel
theorem dX7_turn_130 : decode cX7_turn 130 = .ok (.iload 4, 2) := by decide +kernel
theorem dX7_turn_132 : decode cX7_turn 132 = .ok (.aload_n 0, 1) := by decide +kernel
theorem dX7_turn_133 : decode cX7_turn 133 = .ok (.getfield 34, 3) := by decide +kernel
theorem dX7_turn_136 : decode cX7_turn 136 = .ok (.bipush 10, 2) := by decide +kernel
theorem dX7_turn_138 : decode cX7_turn 138 = .ok (.iload_n 1, 1) := by decide +kernel
theorem dX7_turn_139 : decode cX7_turn 139 = .ok (.imul, 1) := by decide +kernel
theorem dX7_turn_140 : decode cX7_turn 140 = .ok (.iload_n 3, 1) := by decide +kernel
theorem dX7_turn_141 : decode cX7_turn 141 = .ok (.iadd, 1) := by decide +kernel
theorem dX7_turn_142 : decode cX7_turn 142 = .ok (.iaload, 1) := by decide +kernel
theorem dX7_turn_143 : decode cX7_turn 143 = .ok (.if_icmp .ge 27, 3) := by decide +kernel
theorem dX7_turn_146 : decode cX7_turn 146 = .ok (.aload_n 0, 1) := by decide +kernel
theorem dX7_turn_147 : decode cX7_turn 147 = .ok (.aload_n 0, 1) := by decide +kernel
theorem dX7_turn_148 : decode cX7_turn 148 = .ok (.getfield 40, 3) := by decide +kernel
theorem dX7_turn_151 : decode cX7_turn 151 = .ok (.aload_n 0, 1) := by decide +kernel
theorem dX7_turn_152 : decode cX7_turn 152 = .ok (.iload_n 1, 1) := by decide +kernel
theorem dX7_turn_153 : decode cX7_turn 153 = .ok (.iload_n 3, 1) := by decide +kernel
theorem dX7_turn_154 : decode cX7_turn 154 = .ok (.invokevirtual 168, 3) := by decide +kernel
theorem dX7_turn_157 : decode cX7_turn 157 = .ok (.iload 4, 2) := by decide +kernel
theorem dX7_turn_159 : decode cX7_turn 159 = .ok (.iadd, 1) := by decide +kernel
theorem dX7_turn_160 : decode cX7_turn 160 = .ok (.iaload, 1) := by decide +kernel
theorem dX7_turn_161 : decode cX7_turn 161 = .ok (.invokevirtual 141, 3) := by decide +kernel
theorem dX7_turn_164 : decode cX7_turn 164 = .ok (.iinc 4 1, 3) := by decide +kernel
theorem dX7_turn_167 : decode cX7_turn 167 = .ok (.goto (-37), 3) := by decide +kernel
theorem dX7_turn_170 : decode cX7_turn 170 = .ok (.iinc 3 1, 3) := by decide +kernel
theorem dX7_turn_173 : decode cX7_turn 173 = .ok (.goto (-142), 3) := by decide +kernel
theorem dX7_turn_176 : decode cX7_turn 176 = .ok (.aload_n 0, 1) := by decide +kernel
theorem dX7_turn_177 : decode cX7_turn 177 = .ok (.invokevirtual 152, 3) := by decide +kernel
theorem dX7_turn_180 : decode cX7_turn 180 = .ok (.ireturn, 1) := by decide +kernel
theorem dX7_standsAt_0 : decode cX7_standsAt 0 = .ok (.aload_n 0, 1) := by decide +kernel
theorem dX7_standsAt_1 : decode cX7_standsAt 1 = .ok (.getfield 31, 3) := by decide +kernel
theorem dX7_standsAt_4 : decode cX7_standsAt 4 = .ok (.bipush 10, 2) := by decide +kernel
theorem dX7_standsAt_6 : decode cX7_standsAt 6 = .ok (.iload_n 1, 1) := by decide +kernel
theorem dX7_standsAt_7 : decode cX7_standsAt 7 = .ok (.imul, 1) := by decide +kernel
theorem dX7_standsAt_8 : decode cX7_standsAt 8 = .ok (.iload_n 2, 1) := by decide +kernel
theorem dX7_standsAt_9 : decode cX7_standsAt 9 = .ok (.iadd, 1) := by decide +kernel
theorem dX7_standsAt_10 : decode cX7_standsAt 10 = .ok (.iaload, 1) := by decide +kernel
theorem dX7_standsAt_11 : decode cX7_standsAt 11 = .ok (.istore_n 3, 1) := by decide +kernel
theorem dX7_standsAt_12 : decode cX7_standsAt 12 = .ok (.iconst 0, 1) := by decide +kernel
theorem dX7_standsAt_13 : decode cX7_standsAt 13 = .ok (.istore 4, 2) := by decide +kernel
theorem dX7_standsAt_15 : decode cX7_standsAt 15 = .ok (.iload 4, 2) := by decide +kernel
theorem dX7_standsAt_17 : decode cX7_standsAt 17 = .ok (.iload_n 2, 1) := by decide +kernel
theorem dX7_standsAt_18 : decode cX7_standsAt 18 = .ok (.if_icmp .ge 37, 3) := by decide +kernel
theorem dX7_standsAt_21 : decode cX7_standsAt 21 = .ok (.iload_n 3, 1) := by decide +kernel
theorem dX7_standsAt_22 : decode cX7_standsAt 22 = .ok (.aload_n 0, 1) := by decide +kernel
theorem dX7_standsAt_23 : decode cX7_standsAt 23 = .ok (.getfield 37, 3) := by decide +kernel
theorem dX7_standsAt_26 : decode cX7_standsAt 26 = .ok (.bipush 10, 2) := by decide +kernel
theorem dX7_standsAt_28 : decode cX7_standsAt 28 = .ok (.iload_n 1, 1) := by decide +kernel
theorem dX7_standsAt_29 : decode cX7_standsAt 29 = .ok (.imul, 1) := by decide +kernel
theorem dX7_standsAt_30 : decode cX7_standsAt 30 = .ok (.iload 4, 2) := by decide +kernel
theorem dX7_standsAt_32 : decode cX7_standsAt 32 = .ok (.iadd, 1) := by decide +kernel
theorem dX7_standsAt_33 : decode cX7_standsAt 33 = .ok (.iaload, 1) := by decide +kernel
theorem dX7_standsAt_34 : decode cX7_standsAt 34 = .ok (.aload_n 0, 1) := by decide +kernel
theorem dX7_standsAt_35 : decode cX7_standsAt 35 = .ok (.getfield 34, 3) := by decide +kernel
theorem dX7_standsAt_38 : decode cX7_standsAt 38 = .ok (.bipush 10, 2) := by decide +kernel
theorem dX7_standsAt_40 : decode cX7_standsAt 40 = .ok (.iload_n 1, 1) := by decide +kernel
theorem dX7_standsAt_41 : decode cX7_standsAt 41 = .ok (.imul, 1) := by decide +kernel
theorem dX7_standsAt_42 : decode cX7_standsAt 42 = .ok (.iload 4, 2) := by decide +kernel
theorem dX7_standsAt_44 : decode cX7_standsAt 44 = .ok (.iadd, 1) := by decide +kernel
theorem dX7_standsAt_45 : decode cX7_standsAt 45 = .ok (.iaload, 1) := by decide +kernel
theorem dX7_standsAt_46 : decode cX7_standsAt 46 = .ok (.isub, 1) := by decide +kernel
theorem dX7_standsAt_47 : decode cX7_standsAt 47 = .ok (.iadd, 1) := by decide +kernel
theorem dX7_standsAt_48 : decode cX7_standsAt 48 = .ok (.istore_n 3, 1) := by decide +kernel
theorem dX7_standsAt_49 : decode cX7_standsAt 49 = .ok (.iinc 4 1, 3) := by decide +kernel
theorem dX7_standsAt_52 : decode cX7_standsAt 52 = .ok (.goto (-37), 3) := by decide +kernel
theorem dX7_standsAt_55 : decode cX7_standsAt 55 = .ok (.iload_n 3, 1) := by decide +kernel
theorem dX7_standsAt_56 : decode cX7_standsAt 56 = .ok (.ireturn, 1) := by decide +kernel
theorem dX7_touches_0 : decode cX7_touches 0 = .ok (.aload_n 0, 1) := by decide +kernel
theorem dX7_touches_1 : decode cX7_touches 1 = .ok (.iload_n 1, 1) := by decide +kernel
theorem dX7_touches_2 : decode cX7_touches 2 = .ok (.iload_n 2, 1) := by decide +kernel
theorem dX7_touches_3 : decode cX7_touches 3 = .ok (.invokevirtual 198, 3) := by decide +kernel
theorem dX7_touches_6 : decode cX7_touches 6 = .ok (.istore 5, 2) := by decide +kernel
theorem dX7_touches_8 : decode cX7_touches 8 = .ok (.aload_n 0, 1) := by decide +kernel
theorem dX7_touches_9 : decode cX7_touches 9 = .ok (.getfield 31, 3) := by decide +kernel
theorem dX7_touches_12 : decode cX7_touches 12 = .ok (.bipush 10, 2) := by decide +kernel
theorem dX7_touches_14 : decode cX7_touches 14 = .ok (.iload_n 3, 1) := by decide +kernel
theorem dX7_touches_15 : decode cX7_touches 15 = .ok (.imul, 1) := by decide +kernel
theorem dX7_touches_16 : decode cX7_touches 16 = .ok (.iload 4, 2) := by decide +kernel
theorem dX7_touches_18 : decode cX7_touches 18 = .ok (.iadd, 1) := by decide +kernel
theorem dX7_touches_19 : decode cX7_touches 19 = .ok (.iaload, 1) := by decide +kernel
theorem dX7_touches_20 : decode cX7_touches 20 = .ok (.istore 6, 2) := by decide +kernel
theorem dX7_touches_22 : decode cX7_touches 22 = .ok (.iload 5, 2) := by decide +kernel
theorem dX7_touches_24 : decode cX7_touches 24 = .ok (.iload 6, 2) := by decide +kernel
theorem dX7_touches_26 : decode cX7_touches 26 = .ok (.aload_n 0, 1) := by decide +kernel
theorem dX7_touches_27 : decode cX7_touches 27 = .ok (.getfield 34, 3) := by decide +kernel
theorem dX7_touches_30 : decode cX7_touches 30 = .ok (.bipush 10, 2) := by decide +kernel
theorem dX7_touches_32 : decode cX7_touches 32 = .ok (.iload_n 3, 1) := by decide +kernel
theorem dX7_touches_33 : decode cX7_touches 33 = .ok (.imul, 1) := by decide +kernel
theorem dX7_touches_34 : decode cX7_touches 34 = .ok (.iload 4, 2) := by decide +kernel
theorem dX7_touches_36 : decode cX7_touches 36 = .ok (.iadd, 1) := by decide +kernel
theorem dX7_touches_37 : decode cX7_touches 37 = .ok (.iaload, 1) := by decide +kernel
theorem dX7_touches_38 : decode cX7_touches 38 = .ok (.iadd, 1) := by decide +kernel
theorem dX7_touches_39 : decode cX7_touches 39 = .ok (.if_icmp .gt 26, 3) := by decide +kernel
theorem dX7_touches_42 : decode cX7_touches 42 = .ok (.iload 6, 2) := by decide +kernel
theorem dX7_touches_44 : decode cX7_touches 44 = .ok (.iload 5, 2) := by decide +kernel
theorem dX7_touches_46 : decode cX7_touches 46 = .ok (.aload_n 0, 1) := by decide +kernel
theorem dX7_touches_47 : decode cX7_touches 47 = .ok (.getfield 37, 3) := by decide +kernel
theorem dX7_touches_50 : decode cX7_touches 50 = .ok (.bipush 10, 2) := by decide +kernel
theorem dX7_touches_52 : decode cX7_touches 52 = .ok (.iload_n 1, 1) := by decide +kernel
theorem dX7_touches_53 : decode cX7_touches 53 = .ok (.imul, 1) := by decide +kernel
theorem dX7_touches_54 : decode cX7_touches 54 = .ok (.iload_n 2, 1) := by decide +kernel
theorem dX7_touches_55 : decode cX7_touches 55 = .ok (.iadd, 1) := by decide +kernel
theorem dX7_touches_56 : decode cX7_touches 56 = .ok (.iaload, 1) := by decide +kernel
theorem dX7_touches_57 : decode cX7_touches 57 = .ok (.iadd, 1) := by decide +kernel
theorem dX7_touches_58 : decode cX7_touches 58 = .ok (.if_icmp .gt 7, 3) := by decide +kernel
theorem dX7_touches_61 : decode cX7_touches 61 = .ok (.iconst 1, 1) := by decide +kernel
theorem dX7_touches_62 : decode cX7_touches 62 = .ok (.goto 4, 3) := by decide +kernel
theorem dX7_touches_65 : decode cX7_touches 65 = .ok (.iconst 0, 1) := by decide +kernel
theorem dX7_touches_66 : decode cX7_touches 66 = .ok (.ireturn, 1) := by decide +kernel
theorem dX7_agree_0 : decode cX7_agree 0 = .ok (.iconst 0, 1) := by decide +kernel
theorem dX7_agree_1 : decode cX7_agree 1 = .ok (.istore_n 3, 1) := by decide +kernel
theorem dX7_agree_2 : decode cX7_agree 2 = .ok (.iload_n 3, 1) := by decide +kernel
theorem dX7_agree_3 : decode cX7_agree 3 = .ok (.aload_n 0, 1) := by decide +kernel
theorem dX7_agree_4 : decode cX7_agree 4 = .ok (.getfield 28, 3) := by decide +kernel
theorem dX7_agree_7 : decode cX7_agree 7 = .ok (.iload_n 1, 1) := by decide +kernel
theorem dX7_agree_8 : decode cX7_agree 8 = .ok (.iaload, 1) := by decide +kernel
theorem dX7_agree_9 : decode cX7_agree 9 = .ok (.if_icmp .ge 152, 3) := by decide +kernel
theorem dX7_agree_12 : decode cX7_agree 12 = .ok (.aload_n 0, 1) := by decide +kernel
theorem dX7_agree_13 : decode cX7_agree 13 = .ok (.iload_n 1, 1) := by decide +kernel
theorem dX7_agree_14 : decode cX7_agree 14 = .ok (.iload_n 3, 1) := by decide +kernel
theorem dX7_agree_15 : decode cX7_agree 15 = .ok (.invokevirtual 198, 3) := by decide +kernel
theorem dX7_agree_18 : decode cX7_agree 18 = .ok (.istore 4, 2) := by decide +kernel
theorem dX7_agree_20 : decode cX7_agree 20 = .ok (.iconst 0, 1) := by decide +kernel
theorem dX7_agree_21 : decode cX7_agree 21 = .ok (.istore 5, 2) := by decide +kernel
theorem dX7_agree_23 : decode cX7_agree 23 = .ok (.iload 5, 2) := by decide +kernel
theorem dX7_agree_25 : decode cX7_agree 25 = .ok (.aload_n 0, 1) := by decide +kernel
theorem dX7_agree_26 : decode cX7_agree 26 = .ok (.getfield 28, 3) := by decide +kernel
theorem dX7_agree_29 : decode cX7_agree 29 = .ok (.iload_n 2, 1) := by decide +kernel
theorem dX7_agree_30 : decode cX7_agree 30 = .ok (.iaload, 1) := by decide +kernel
theorem dX7_agree_31 : decode cX7_agree 31 = .ok (.if_icmp .ge 124, 3) := by decide +kernel
theorem dX7_agree_34 : decode cX7_agree 34 = .ok (.aload_n 0, 1) := by decide +kernel
theorem dX7_agree_35 : decode cX7_agree 35 = .ok (.getfield 31, 3) := by decide +kernel
theorem dX7_agree_38 : decode cX7_agree 38 = .ok (.bipush 10, 2) := by decide +kernel
theorem dX7_agree_40 : decode cX7_agree 40 = .ok (.iload_n 2, 1) := by decide +kernel
theorem dX7_agree_41 : decode cX7_agree 41 = .ok (.imul, 1) := by decide +kernel
theorem dX7_agree_42 : decode cX7_agree 42 = .ok (.iload 5, 2) := by decide +kernel
theorem dX7_agree_44 : decode cX7_agree 44 = .ok (.iadd, 1) := by decide +kernel
theorem dX7_agree_45 : decode cX7_agree 45 = .ok (.iaload, 1) := by decide +kernel
theorem dX7_agree_46 : decode cX7_agree 46 = .ok (.istore 6, 2) := by decide +kernel
theorem dX7_agree_48 : decode cX7_agree 48 = .ok (.iload 4, 2) := by decide +kernel
theorem dX7_agree_50 : decode cX7_agree 50 = .ok (.iload 6, 2) := by decide +kernel
theorem dX7_agree_52 : decode cX7_agree 52 = .ok (.if_icmp .le 8, 3) := by decide +kernel
theorem dX7_agree_55 : decode cX7_agree 55 = .ok (.iload 4, 2) := by decide +kernel
theorem dX7_agree_57 : decode cX7_agree 57 = .ok (.goto 5, 3) := by decide +kernel
theorem dX7_agree_60 : decode cX7_agree 60 = .ok (.iload 6, 2) := by decide +kernel
theorem dX7_agree_62 : decode cX7_agree 62 = .ok (.istore 7, 2) := by decide +kernel
theorem dX7_agree_64 : decode cX7_agree 64 = .ok (.iload 7, 2) := by decide +kernel
theorem dX7_agree_66 : decode cX7_agree 66 = .ok (.iload 4, 2) := by decide +kernel
theorem dX7_agree_68 : decode cX7_agree 68 = .ok (.aload_n 0, 1) := by decide +kernel
theorem dX7_agree_69 : decode cX7_agree 69 = .ok (.getfield 37, 3) := by decide +kernel
theorem dX7_agree_72 : decode cX7_agree 72 = .ok (.bipush 10, 2) := by decide +kernel
theorem dX7_agree_74 : decode cX7_agree 74 = .ok (.iload_n 1, 1) := by decide +kernel
theorem dX7_agree_75 : decode cX7_agree 75 = .ok (.imul, 1) := by decide +kernel
theorem dX7_agree_76 : decode cX7_agree 76 = .ok (.iload_n 3, 1) := by decide +kernel
theorem dX7_agree_77 : decode cX7_agree 77 = .ok (.iadd, 1) := by decide +kernel
theorem dX7_agree_78 : decode cX7_agree 78 = .ok (.iaload, 1) := by decide +kernel
theorem dX7_agree_79 : decode cX7_agree 79 = .ok (.iadd, 1) := by decide +kernel
theorem dX7_agree_80 : decode cX7_agree 80 = .ok (.if_icmp .ge 69, 3) := by decide +kernel
theorem dX7_agree_83 : decode cX7_agree 83 = .ok (.iload 7, 2) := by decide +kernel
theorem dX7_agree_85 : decode cX7_agree 85 = .ok (.iload 6, 2) := by decide +kernel
theorem dX7_agree_87 : decode cX7_agree 87 = .ok (.aload_n 0, 1) := by decide +kernel
theorem dX7_agree_88 : decode cX7_agree 88 = .ok (.getfield 34, 3) := by decide +kernel
theorem dX7_agree_91 : decode cX7_agree 91 = .ok (.bipush 10, 2) := by decide +kernel
theorem dX7_agree_93 : decode cX7_agree 93 = .ok (.iload_n 2, 1) := by decide +kernel
theorem dX7_agree_94 : decode cX7_agree 94 = .ok (.imul, 1) := by decide +kernel
theorem dX7_agree_95 : decode cX7_agree 95 = .ok (.iload 5, 2) := by decide +kernel
theorem dX7_agree_97 : decode cX7_agree 97 = .ok (.iadd, 1) := by decide +kernel
theorem dX7_agree_98 : decode cX7_agree 98 = .ok (.iaload, 1) := by decide +kernel
theorem dX7_agree_99 : decode cX7_agree 99 = .ok (.iadd, 1) := by decide +kernel
theorem dX7_agree_100 : decode cX7_agree 100 = .ok (.if_icmp .ge 49, 3) := by decide +kernel
theorem dX7_agree_103 : decode cX7_agree 103 = .ok (.aload_n 0, 1) := by decide +kernel
theorem dX7_agree_104 : decode cX7_agree 104 = .ok (.getfield 43, 3) := by decide +kernel
theorem dX7_agree_107 : decode cX7_agree 107 = .ok (.aload_n 0, 1) := by decide +kernel
theorem dX7_agree_108 : decode cX7_agree 108 = .ok (.iload_n 1, 1) := by decide +kernel
theorem dX7_agree_109 : decode cX7_agree 109 = .ok (.iload_n 3, 1) := by decide +kernel
theorem dX7_agree_110 : decode cX7_agree 110 = .ok (.invokevirtual 171, 3) := by decide +kernel
theorem dX7_agree_113 : decode cX7_agree 113 = .ok (.iload 7, 2) := by decide +kernel
theorem dX7_agree_115 : decode cX7_agree 115 = .ok (.iadd, 1) := by decide +kernel
theorem dX7_agree_116 : decode cX7_agree 116 = .ok (.iload 4, 2) := by decide +kernel
theorem dX7_agree_118 : decode cX7_agree 118 = .ok (.isub, 1) := by decide +kernel
theorem dX7_agree_119 : decode cX7_agree 119 = .ok (.iaload, 1) := by decide +kernel
theorem dX7_agree_120 : decode cX7_agree 120 = .ok (.aload_n 0, 1) := by decide +kernel
theorem dX7_agree_121 : decode cX7_agree 121 = .ok (.getfield 40, 3) := by decide +kernel
theorem dX7_agree_124 : decode cX7_agree 124 = .ok (.aload_n 0, 1) := by decide +kernel
theorem dX7_agree_125 : decode cX7_agree 125 = .ok (.iload_n 2, 1) := by decide +kernel
theorem dX7_agree_126 : decode cX7_agree 126 = .ok (.iload 5, 2) := by decide +kernel
theorem dX7_agree_128 : decode cX7_agree 128 = .ok (.invokevirtual 168, 3) := by decide +kernel
theorem dX7_agree_131 : decode cX7_agree 131 = .ok (.iload 7, 2) := by decide +kernel
theorem dX7_agree_133 : decode cX7_agree 133 = .ok (.iadd, 1) := by decide +kernel
theorem dX7_agree_134 : decode cX7_agree 134 = .ok (.iload 6, 2) := by decide +kernel
theorem dX7_agree_136 : decode cX7_agree 136 = .ok (.isub, 1) := by decide +kernel
theorem dX7_agree_137 : decode cX7_agree 137 = .ok (.iaload, 1) := by decide +kernel
theorem dX7_agree_138 : decode cX7_agree 138 = .ok (.if_icmp .eq 5, 3) := by decide +kernel
theorem dX7_agree_141 : decode cX7_agree 141 = .ok (.iconst 0, 1) := by decide +kernel
theorem dX7_agree_142 : decode cX7_agree 142 = .ok (.ireturn, 1) := by decide +kernel
theorem dX7_agree_143 : decode cX7_agree 143 = .ok (.iinc 7 1, 3) := by decide +kernel
theorem dX7_agree_146 : decode cX7_agree 146 = .ok (.goto (-82), 3) := by decide +kernel
theorem dX7_agree_149 : decode cX7_agree 149 = .ok (.iinc 5 1, 3) := by decide +kernel
theorem dX7_agree_152 : decode cX7_agree 152 = .ok (.goto (-129), 3) := by decide +kernel
theorem dX7_agree_155 : decode cX7_agree 155 = .ok (.iinc 3 1, 3) := by decide +kernel
theorem dX7_agree_158 : decode cX7_agree 158 = .ok (.goto (-156), 3) := by decide +kernel
theorem dX7_agree_161 : decode cX7_agree 161 = .ok (.iconst 1, 1) := by decide +kernel
theorem dX7_agree_162 : decode cX7_agree 162 = .ok (.ireturn, 1) := by decide +kernel
theorem dX7_leaveOutIdle_0 : decode cX7_leaveOutIdle 0 = .ok (.aload_n 0, 1) := by decide +kernel
theorem dX7_leaveOutIdle_1 : decode cX7_leaveOutIdle 1 = .ok (.getfield 119, 3) := by decide +kernel
theorem dX7_leaveOutIdle_4 : decode cX7_leaveOutIdle 4 = .ok (.iconst 1, 1) := by decide +kernel
theorem dX7_leaveOutIdle_5 : decode cX7_leaveOutIdle 5 = .ok (.isub, 1) := by decide +kernel
theorem dX7_leaveOutIdle_6 : decode cX7_leaveOutIdle 6 = .ok (.istore_n 1, 1) := by decide +kernel
theorem dX7_leaveOutIdle_7 : decode cX7_leaveOutIdle 7 = .ok (.aload_n 0, 1) := by decide +kernel
theorem dX7_leaveOutIdle_8 : decode cX7_leaveOutIdle 8 = .ok (.getfield 49, 3) := by decide +kernel
theorem dX7_leaveOutIdle_11 : decode cX7_leaveOutIdle 11 = .ok (.iload_n 1, 1) := by decide +kernel
theorem dX7_leaveOutIdle_12 : decode cX7_leaveOutIdle 12 = .ok (.iaload, 1) := by decide +kernel
theorem dX7_leaveOutIdle_13 : decode cX7_leaveOutIdle 13 = .ok (.aload_n 0, 1) := by decide +kernel
theorem dX7_leaveOutIdle_14 : decode cX7_leaveOutIdle 14 = .ok (.getfield 52, 3) := by decide +kernel
theorem dX7_leaveOutIdle_17 : decode cX7_leaveOutIdle 17 = .ok (.iload_n 1, 1) := by decide +kernel
theorem dX7_leaveOutIdle_18 : decode cX7_leaveOutIdle 18 = .ok (.iaload, 1) := by decide +kernel
theorem dX7_leaveOutIdle_19 : decode cX7_leaveOutIdle 19 = .ok (.if_icmp .ne 7, 3) := by decide +kernel
theorem dX7_leaveOutIdle_22 : decode cX7_leaveOutIdle 22 = .ok (.iconst 1, 1) := by decide +kernel
theorem dX7_leaveOutIdle_23 : decode cX7_leaveOutIdle 23 = .ok (.goto 4, 3) := by decide +kernel
theorem dX7_leaveOutIdle_26 : decode cX7_leaveOutIdle 26 = .ok (.iconst 0, 1) := by decide +kernel
theorem dX7_leaveOutIdle_27 : decode cX7_leaveOutIdle 27 = .ok (.istore_n 2, 1) := by decide +kernel
theorem dX7_leaveOutIdle_28 : decode cX7_leaveOutIdle 28 = .ok (.iconst 0, 1) := by decide +kernel
theorem dX7_leaveOutIdle_29 : decode cX7_leaveOutIdle 29 = .ok (.istore_n 3, 1) := by decide +kernel
theorem dX7_leaveOutIdle_30 : decode cX7_leaveOutIdle 30 = .ok (.iload_n 3, 1) := by decide +kernel
theorem dX7_leaveOutIdle_31 : decode cX7_leaveOutIdle 31 = .ok (.aload_n 0, 1) := by decide +kernel
theorem dX7_leaveOutIdle_32 : decode cX7_leaveOutIdle 32 = .ok (.getfield 49, 3) := by decide +kernel
theorem dX7_leaveOutIdle_35 : decode cX7_leaveOutIdle 35 = .ok (.iload_n 1, 1) := by decide +kernel
theorem dX7_leaveOutIdle_36 : decode cX7_leaveOutIdle 36 = .ok (.iaload, 1) := by decide +kernel
theorem dX7_leaveOutIdle_37 : decode cX7_leaveOutIdle 37 = .ok (.if_icmp .ge 58, 3) := by decide +kernel
theorem dX7_leaveOutIdle_40 : decode cX7_leaveOutIdle 40 = .ok (.iload_n 2, 1) := by decide +kernel
theorem dX7_leaveOutIdle_41 : decode cX7_leaveOutIdle 41 = .ok (.ifCond .eq 54, 3) := by decide +kernel
theorem dX7_leaveOutIdle_44 : decode cX7_leaveOutIdle 44 = .ok (.aload_n 0, 1) := by decide +kernel
theorem dX7_leaveOutIdle_45 : decode cX7_leaveOutIdle 45 = .ok (.getfield 55, 3) := by decide +kernel
theorem dX7_leaveOutIdle_48 : decode cX7_leaveOutIdle 48 = .ok (.aload_n 0, 1) := by decide +kernel
theorem dX7_leaveOutIdle_49 : decode cX7_leaveOutIdle 49 = .ok (.getfield 122, 3) := by decide +kernel
theorem dX7_leaveOutIdle_52 : decode cX7_leaveOutIdle 52 = .ok (.aload_n 0, 1) := by decide +kernel
theorem dX7_leaveOutIdle_53 : decode cX7_leaveOutIdle 53 = .ok (.getfield 49, 3) := by decide +kernel
theorem dX7_leaveOutIdle_56 : decode cX7_leaveOutIdle 56 = .ok (.iload_n 1, 1) := by decide +kernel
theorem dX7_leaveOutIdle_57 : decode cX7_leaveOutIdle 57 = .ok (.iaload, 1) := by decide +kernel
theorem dX7_leaveOutIdle_58 : decode cX7_leaveOutIdle 58 = .ok (.isub, 1) := by decide +kernel
theorem dX7_leaveOutIdle_59 : decode cX7_leaveOutIdle 59 = .ok (.iload_n 3, 1) := by decide +kernel
theorem dX7_leaveOutIdle_60 : decode cX7_leaveOutIdle 60 = .ok (.iadd, 1) := by decide +kernel
theorem dX7_leaveOutIdle_61 : decode cX7_leaveOutIdle 61 = .ok (.iaload, 1) := by decide +kernel
theorem dX7_leaveOutIdle_62 : decode cX7_leaveOutIdle 62 = .ok (.aload_n 0, 1) := by decide +kernel
theorem dX7_leaveOutIdle_63 : decode cX7_leaveOutIdle 63 = .ok (.getfield 58, 3) := by decide +kernel
theorem dX7_leaveOutIdle_66 : decode cX7_leaveOutIdle 66 = .ok (.aload_n 0, 1) := by decide +kernel
theorem dX7_leaveOutIdle_67 : decode cX7_leaveOutIdle 67 = .ok (.getfield 125, 3) := by decide +kernel
theorem dX7_leaveOutIdle_70 : decode cX7_leaveOutIdle 70 = .ok (.aload_n 0, 1) := by decide +kernel
theorem dX7_leaveOutIdle_71 : decode cX7_leaveOutIdle 71 = .ok (.getfield 52, 3) := by decide +kernel
theorem dX7_leaveOutIdle_74 : decode cX7_leaveOutIdle 74 = .ok (.iload_n 1, 1) := by decide +kernel
theorem dX7_leaveOutIdle_75 : decode cX7_leaveOutIdle 75 = .ok (.iaload, 1) := by decide +kernel
theorem dX7_leaveOutIdle_76 : decode cX7_leaveOutIdle 76 = .ok (.isub, 1) := by decide +kernel
theorem dX7_leaveOutIdle_77 : decode cX7_leaveOutIdle 77 = .ok (.iload_n 3, 1) := by decide +kernel
theorem dX7_leaveOutIdle_78 : decode cX7_leaveOutIdle 78 = .ok (.iadd, 1) := by decide +kernel
theorem dX7_leaveOutIdle_79 : decode cX7_leaveOutIdle 79 = .ok (.iaload, 1) := by decide +kernel
theorem dX7_leaveOutIdle_80 : decode cX7_leaveOutIdle 80 = .ok (.if_icmp .ne 7, 3) := by decide +kernel
theorem dX7_leaveOutIdle_83 : decode cX7_leaveOutIdle 83 = .ok (.iconst 1, 1) := by decide +kernel
theorem dX7_leaveOutIdle_84 : decode cX7_leaveOutIdle 84 = .ok (.goto 4, 3) := by decide +kernel
theorem dX7_leaveOutIdle_87 : decode cX7_leaveOutIdle 87 = .ok (.iconst 0, 1) := by decide +kernel
theorem dX7_leaveOutIdle_88 : decode cX7_leaveOutIdle 88 = .ok (.istore_n 2, 1) := by decide +kernel
theorem dX7_leaveOutIdle_89 : decode cX7_leaveOutIdle 89 = .ok (.iinc 3 1, 3) := by decide +kernel
theorem dX7_leaveOutIdle_92 : decode cX7_leaveOutIdle 92 = .ok (.goto (-62), 3) := by decide +kernel
theorem dX7_leaveOutIdle_95 : decode cX7_leaveOutIdle 95 = .ok (.iload_n 2, 1) := by decide +kernel
theorem dX7_leaveOutIdle_96 : decode cX7_leaveOutIdle 96 = .ok (.ifCond .eq 43, 3) := by decide +kernel
theorem dX7_leaveOutIdle_99 : decode cX7_leaveOutIdle 99 = .ok (.aload_n 0, 1) := by decide +kernel
theorem dX7_leaveOutIdle_100 : decode cX7_leaveOutIdle 100 = .ok (.dup, 1) := by decide +kernel
theorem dX7_leaveOutIdle_101 : decode cX7_leaveOutIdle 101 = .ok (.getfield 122, 3) := by decide +kernel
theorem dX7_leaveOutIdle_104 : decode cX7_leaveOutIdle 104 = .ok (.aload_n 0, 1) := by decide +kernel
theorem dX7_leaveOutIdle_105 : decode cX7_leaveOutIdle 105 = .ok (.getfield 49, 3) := by decide +kernel
theorem dX7_leaveOutIdle_108 : decode cX7_leaveOutIdle 108 = .ok (.iload_n 1, 1) := by decide +kernel
theorem dX7_leaveOutIdle_109 : decode cX7_leaveOutIdle 109 = .ok (.iaload, 1) := by decide +kernel
theorem dX7_leaveOutIdle_110 : decode cX7_leaveOutIdle 110 = .ok (.isub, 1) := by decide +kernel
theorem dX7_leaveOutIdle_111 : decode cX7_leaveOutIdle 111 = .ok (.putfield 122, 3) := by decide +kernel
theorem dX7_leaveOutIdle_114 : decode cX7_leaveOutIdle 114 = .ok (.aload_n 0, 1) := by decide +kernel
theorem dX7_leaveOutIdle_115 : decode cX7_leaveOutIdle 115 = .ok (.dup, 1) := by decide +kernel
theorem dX7_leaveOutIdle_116 : decode cX7_leaveOutIdle 116 = .ok (.getfield 125, 3) := by decide +kernel
theorem dX7_leaveOutIdle_119 : decode cX7_leaveOutIdle 119 = .ok (.aload_n 0, 1) := by decide +kernel
theorem dX7_leaveOutIdle_120 : decode cX7_leaveOutIdle 120 = .ok (.getfield 52, 3) := by decide +kernel
theorem dX7_leaveOutIdle_123 : decode cX7_leaveOutIdle 123 = .ok (.iload_n 1, 1) := by decide +kernel
theorem dX7_leaveOutIdle_124 : decode cX7_leaveOutIdle 124 = .ok (.iaload, 1) := by decide +kernel
theorem dX7_leaveOutIdle_125 : decode cX7_leaveOutIdle 125 = .ok (.isub, 1) := by decide +kernel
theorem dX7_leaveOutIdle_126 : decode cX7_leaveOutIdle 126 = .ok (.putfield 125, 3) := by decide +kernel
theorem dX7_leaveOutIdle_129 : decode cX7_leaveOutIdle 129 = .ok (.aload_n 0, 1) := by decide +kernel
theorem dX7_leaveOutIdle_130 : decode cX7_leaveOutIdle 130 = .ok (.dup, 1) := by decide +kernel
theorem dX7_leaveOutIdle_131 : decode cX7_leaveOutIdle 131 = .ok (.getfield 119, 3) := by decide +kernel
theorem dX7_leaveOutIdle_134 : decode cX7_leaveOutIdle 134 = .ok (.iconst 1, 1) := by decide +kernel
theorem dX7_leaveOutIdle_135 : decode cX7_leaveOutIdle 135 = .ok (.isub, 1) := by decide +kernel
theorem dX7_leaveOutIdle_136 : decode cX7_leaveOutIdle 136 = .ok (.putfield 119, 3) := by decide +kernel
theorem dX7_leaveOutIdle_139 : decode cX7_leaveOutIdle 139 = .ok (.return_, 1) := by decide +kernel
theorem dX7_together_0 : decode cX7_together 0 = .ok (.aload_n 0, 1) := by decide +kernel
theorem dX7_together_1 : decode cX7_together 1 = .ok (.iload_n 1, 1) := by decide +kernel
theorem dX7_together_2 : decode cX7_together 2 = .ok (.invokevirtual 155, 3) := by decide +kernel
theorem dX7_together_5 : decode cX7_together 5 = .ok (.ifCond .eq 11, 3) := by decide +kernel
theorem dX7_together_8 : decode cX7_together 8 = .ok (.aload_n 0, 1) := by decide +kernel
theorem dX7_together_9 : decode cX7_together 9 = .ok (.iload_n 2, 1) := by decide +kernel
theorem dX7_together_10 : decode cX7_together 10 = .ok (.invokevirtual 155, 3) := by decide +kernel
theorem dX7_together_13 : decode cX7_together 13 = .ok (.ifCond .ne 6, 3) := by decide +kernel
theorem dX7_together_16 : decode cX7_together 16 = .ok (.bipush (-101), 2) := by decide +kernel
theorem dX7_together_18 : decode cX7_together 18 = .ok (.ireturn, 1) := by decide +kernel
theorem dX7_together_19 : decode cX7_together 19 = .ok (.aload_n 0, 1) := by decide +kernel
theorem dX7_together_20 : decode cX7_together 20 = .ok (.iload_n 1, 1) := by decide +kernel
theorem dX7_together_21 : decode cX7_together 21 = .ok (.iload_n 2, 1) := by decide +kernel
theorem dX7_together_22 : decode cX7_together 22 = .ok (.invokevirtual 201, 3) := by decide +kernel
theorem dX7_together_25 : decode cX7_together 25 = .ok (.ifCond .ne 6, 3) := by decide +kernel
theorem dX7_together_28 : decode cX7_together 28 = .ok (.bipush (-102), 2) := by decide +kernel
theorem dX7_together_30 : decode cX7_together 30 = .ok (.ireturn, 1) := by decide +kernel
theorem dX7_together_31 : decode cX7_together 31 = .ok (.aload_n 0, 1) := by decide +kernel
theorem dX7_together_32 : decode cX7_together 32 = .ok (.invokevirtual 128, 3) := by decide +kernel
theorem dX7_together_35 : decode cX7_together 35 = .ok (.iconst 0, 1) := by decide +kernel
theorem dX7_together_36 : decode cX7_together 36 = .ok (.istore_n 3, 1) := by decide +kernel
theorem dX7_together_37 : decode cX7_together 37 = .ok (.iconst 0, 1) := by decide +kernel
theorem dX7_together_38 : decode cX7_together 38 = .ok (.istore 4, 2) := by decide +kernel
theorem dX7_together_40 : decode cX7_together 40 = .ok (.iconst 0, 1) := by decide +kernel
theorem dX7_together_41 : decode cX7_together 41 = .ok (.istore 5, 2) := by decide +kernel
theorem dX7_together_43 : decode cX7_together 43 = .ok (.iload_n 3, 1) := by decide +kernel
theorem dX7_together_44 : decode cX7_together 44 = .ok (.aload_n 0, 1) := by decide +kernel
theorem dX7_together_45 : decode cX7_together 45 = .ok (.getfield 28, 3) := by decide +kernel
theorem dX7_together_48 : decode cX7_together 48 = .ok (.iload_n 1, 1) := by decide +kernel
theorem dX7_together_49 : decode cX7_together 49 = .ok (.iaload, 1) := by decide +kernel
theorem dX7_together_50 : decode cX7_together 50 = .ok (.if_icmp .lt 14, 3) := by decide +kernel
theorem dX7_together_53 : decode cX7_together 53 = .ok (.iload 4, 2) := by decide +kernel
theorem dX7_together_55 : decode cX7_together 55 = .ok (.aload_n 0, 1) := by decide +kernel
theorem dX7_together_56 : decode cX7_together 56 = .ok (.getfield 28, 3) := by decide +kernel
theorem dX7_together_59 : decode cX7_together 59 = .ok (.iload_n 2, 1) := by decide +kernel
theorem dX7_together_60 : decode cX7_together 60 = .ok (.iaload, 1) := by decide +kernel
theorem dX7_together_61 : decode cX7_together 61 = .ok (.if_icmp .ge 390, 3) := by decide +kernel
theorem dX7_together_64 : decode cX7_together 64 = .ok (.iload 4, 2) := by decide +kernel
theorem dX7_together_66 : decode cX7_together 66 = .ok (.aload_n 0, 1) := by decide +kernel
theorem dX7_together_67 : decode cX7_together 67 = .ok (.getfield 28, 3) := by decide +kernel
theorem dX7_together_70 : decode cX7_together 70 = .ok (.iload_n 2, 1) := by decide +kernel
theorem dX7_together_71 : decode cX7_together 71 = .ok (.iaload, 1) := by decide +kernel
theorem dX7_together_72 : decode cX7_together 72 = .ok (.if_icmp .eq 34, 3) := by decide +kernel
theorem dX7_together_75 : decode cX7_together 75 = .ok (.iload_n 3, 1) := by decide +kernel
theorem dX7_together_76 : decode cX7_together 76 = .ok (.aload_n 0, 1) := by decide +kernel
theorem dX7_together_77 : decode cX7_together 77 = .ok (.getfield 28, 3) := by decide +kernel
theorem dX7_together_80 : decode cX7_together 80 = .ok (.iload_n 1, 1) := by decide +kernel
theorem dX7_together_81 : decode cX7_together 81 = .ok (.iaload, 1) := by decide +kernel
theorem dX7_together_82 : decode cX7_together 82 = .ok (.if_icmp .ge 28, 3) := by decide +kernel
theorem dX7_together_85 : decode cX7_together 85 = .ok (.aload_n 0, 1) := by decide +kernel
theorem dX7_together_86 : decode cX7_together 86 = .ok (.iload_n 1, 1) := by decide +kernel
theorem dX7_together_87 : decode cX7_together 87 = .ok (.iload_n 3, 1) := by decide +kernel
theorem dX7_together_88 : decode cX7_together 88 = .ok (.invokevirtual 198, 3) := by decide +kernel
theorem dX7_together_91 : decode cX7_together 91 = .ok (.aload_n 0, 1) := by decide +kernel
theorem dX7_together_92 : decode cX7_together 92 = .ok (.getfield 31, 3) := by decide +kernel
theorem dX7_together_95 : decode cX7_together 95 = .ok (.bipush 10, 2) := by decide +kernel
theorem dX7_together_97 : decode cX7_together 97 = .ok (.iload_n 2, 1) := by decide +kernel
theorem dX7_together_98 : decode cX7_together 98 = .ok (.imul, 1) := by decide +kernel
theorem dX7_together_99 : decode cX7_together 99 = .ok (.iload 4, 2) := by decide +kernel
theorem dX7_together_101 : decode cX7_together 101 = .ok (.iadd, 1) := by decide +kernel
theorem dX7_together_102 : decode cX7_together 102 = .ok (.iaload, 1) := by decide +kernel
theorem dX7_together_103 : decode cX7_together 103 = .ok (.if_icmp .gt 7, 3) := by decide +kernel
theorem dX7_together_106 : decode cX7_together 106 = .ok (.iconst 1, 1) := by decide +kernel
theorem dX7_together_107 : decode cX7_together 107 = .ok (.goto 4, 3) := by decide +kernel
theorem dX7_together_110 : decode cX7_together 110 = .ok (.iconst 0, 1) := by decide +kernel
theorem dX7_together_111 : decode cX7_together 111 = .ok (.istore 6, 2) := by decide +kernel
theorem dX7_together_113 : decode cX7_together 113 = .ok (.iload 6, 2) := by decide +kernel
theorem dX7_together_115 : decode cX7_together 115 = .ok (.ifCond .eq 12, 3) := by decide +kernel
theorem dX7_together_118 : decode cX7_together 118 = .ok (.aload_n 0, 1) := by decide +kernel
theorem dX7_together_119 : decode cX7_together 119 = .ok (.iload_n 1, 1) := by decide +kernel
theorem dX7_together_120 : decode cX7_together 120 = .ok (.iload_n 3, 1) := by decide +kernel
theorem dX7_together_121 : decode cX7_together 121 = .ok (.invokevirtual 198, 3) := by decide +kernel
theorem dX7_together_124 : decode cX7_together 124 = .ok (.goto 15, 3) := by decide +kernel
theorem dX7_together_127 : decode cX7_together 127 = .ok (.aload_n 0, 1) := by decide +kernel
theorem dX7_together_128 : decode cX7_together 128 = .ok (.getfield 31, 3) := by decide +kernel
theorem dX7_together_131 : decode cX7_together 131 = .ok (.bipush 10, 2) := by decide +kernel
theorem dX7_together_133 : decode cX7_together 133 = .ok (.iload_n 2, 1) := by decide +kernel
theorem dX7_together_134 : decode cX7_together 134 = .ok (.imul, 1) := by decide +kernel
theorem dX7_together_135 : decode cX7_together 135 = .ok (.iload 4, 2) := by decide +kernel
theorem dX7_together_137 : decode cX7_together 137 = .ok (.iadd, 1) := by decide +kernel
theorem dX7_together_138 : decode cX7_together 138 = .ok (.iaload, 1) := by decide +kernel
theorem dX7_together_139 : decode cX7_together 139 = .ok (.istore 7, 2) := by decide +kernel
theorem dX7_together_141 : decode cX7_together 141 = .ok (.iload_n 3, 1) := by decide +kernel
theorem dX7_together_142 : decode cX7_together 142 = .ok (.istore 8, 2) := by decide +kernel
theorem dX7_together_144 : decode cX7_together 144 = .ok (.iload 4, 2) := by decide +kernel
theorem dX7_together_146 : decode cX7_together 146 = .ok (.istore 9, 2) := by decide +kernel
theorem dX7_together_148 : decode cX7_together 148 = .ok (.iload 7, 2) := by decide +kernel
theorem dX7_together_150 : decode cX7_together 150 = .ok (.istore 10, 2) := by decide +kernel
theorem dX7_together_152 : decode cX7_together 152 = .ok (.iconst 1, 1) := by decide +kernel
theorem dX7_together_153 : decode cX7_together 153 = .ok (.istore 11, 2) := by decide +kernel
theorem dX7_together_155 : decode cX7_together 155 = .ok (.iload 11, 2) := by decide +kernel
theorem dX7_together_157 : decode cX7_together 157 = .ok (.ifCond .eq 198, 3) := by decide +kernel
theorem dX7_together_160 : decode cX7_together 160 = .ok (.iconst 0, 1) := by decide +kernel
theorem dX7_together_161 : decode cX7_together 161 = .ok (.istore 11, 2) := by decide +kernel
theorem dX7_together_163 : decode cX7_together 163 = .ok (.iload_n 3, 1) := by decide +kernel
theorem dX7_together_164 : decode cX7_together 164 = .ok (.aload_n 0, 1) := by decide +kernel
theorem dX7_together_165 : decode cX7_together 165 = .ok (.getfield 28, 3) := by decide +kernel
theorem dX7_together_168 : decode cX7_together 168 = .ok (.iload_n 1, 1) := by decide +kernel
theorem dX7_together_169 : decode cX7_together 169 = .ok (.iaload, 1) := by decide +kernel
theorem dX7_together_170 : decode cX7_together 170 = .ok (.if_icmp .ge 80, 3) := by decide +kernel
theorem dX7_together_173 : decode cX7_together 173 = .ok (.iload_n 3, 1) := by decide +kernel
theorem dX7_together_174 : decode cX7_together 174 = .ok (.iload 8, 2) := by decide +kernel
theorem dX7_together_176 : decode cX7_together 176 = .ok (.if_icmp .ne 8, 3) := by decide +kernel
theorem dX7_together_179 : decode cX7_together 179 = .ok (.iload 6, 2) := by decide +kernel
theorem dX7_together_181 : decode cX7_together 181 = .ok (.ifCond .ne 27, 3) := by decide +kernel
theorem dX7_together_184 : decode cX7_together 184 = .ok (.aload_n 0, 1) := by decide +kernel
theorem dX7_together_185 : decode cX7_together 185 = .ok (.iload_n 1, 1) := by decide +kernel
theorem dX7_together_186 : decode cX7_together 186 = .ok (.iload_n 3, 1) := by decide +kernel
theorem dX7_together_187 : decode cX7_together 187 = .ok (.invokevirtual 198, 3) := by decide +kernel
theorem dX7_together_190 : decode cX7_together 190 = .ok (.iload 10, 2) := by decide +kernel
theorem dX7_together_192 : decode cX7_together 192 = .ok (.if_icmp .gt 58, 3) := by decide +kernel
theorem dX7_together_195 : decode cX7_together 195 = .ok (.iload_n 3, 1) := by decide +kernel
theorem dX7_together_196 : decode cX7_together 196 = .ok (.iload 8, 2) := by decide +kernel
theorem dX7_together_198 : decode cX7_together 198 = .ok (.if_icmp .gt 10, 3) := by decide +kernel
theorem dX7_together_201 : decode cX7_together 201 = .ok (.iload 4, 2) := by decide +kernel
theorem dX7_together_203 : decode cX7_together 203 = .ok (.iload 9, 2) := by decide +kernel
theorem dX7_together_205 : decode cX7_together 205 = .ok (.if_icmp .le 45, 3) := by decide +kernel
theorem dX7_together_208 : decode cX7_together 208 = .ok (.aload_n 0, 1) := by decide +kernel
theorem dX7_together_209 : decode cX7_together 209 = .ok (.iload_n 1, 1) := by decide +kernel
theorem dX7_together_210 : decode cX7_together 210 = .ok (.iload_n 3, 1) := by decide +kernel
theorem dX7_together_211 : decode cX7_together 211 = .ok (.invokevirtual 198, 3) := by decide +kernel
theorem dX7_together_214 : decode cX7_together 214 = .ok (.aload_n 0, 1) := by decide +kernel
theorem dX7_together_215 : decode cX7_together 215 = .ok (.getfield 37, 3) := by decide +kernel
theorem dX7_together_218 : decode cX7_together 218 = .ok (.bipush 10, 2) := by decide +kernel
theorem dX7_together_220 : decode cX7_together 220 = .ok (.iload_n 1, 1) := by decide +kernel
theorem dX7_together_221 : decode cX7_together 221 = .ok (.imul, 1) := by decide +kernel
theorem dX7_together_222 : decode cX7_together 222 = .ok (.iload_n 3, 1) := by decide +kernel
theorem dX7_together_223 : decode cX7_together 223 = .ok (.iadd, 1) := by decide +kernel
theorem dX7_together_224 : decode cX7_together 224 = .ok (.iaload, 1) := by decide +kernel
theorem dX7_together_225 : decode cX7_together 225 = .ok (.iadd, 1) := by decide +kernel
theorem dX7_together_226 : decode cX7_together 226 = .ok (.istore 12, 2) := by decide +kernel
theorem dX7_together_228 : decode cX7_together 228 = .ok (.iload 12, 2) := by decide +kernel
theorem dX7_together_230 : decode cX7_together 230 = .ok (.iload 10, 2) := by decide +kernel
theorem dX7_together_232 : decode cX7_together 232 = .ok (.if_icmp .le 8, 3) := by decide +kernel
theorem dX7_together_235 : decode cX7_together 235 = .ok (.iload 12, 2) := by decide +kernel
theorem dX7_together_237 : decode cX7_together 237 = .ok (.goto 5, 3) := by decide +kernel
theorem dX7_together_240 : decode cX7_together 240 = .ok (.iload 10, 2) := by decide +kernel
theorem dX7_together_242 : decode cX7_together 242 = .ok (.istore 10, 2) := by decide +kernel
theorem dX7_together_244 : decode cX7_together 244 = .ok (.iinc 3 1, 3) := by decide +kernel
theorem dX7_together_247 : decode cX7_together 247 = .ok (.iconst 1, 1) := by decide +kernel
theorem dX7_together_248 : decode cX7_together 248 = .ok (.istore 11, 2) := by decide +kernel
theorem dX7_together_250 : decode cX7_together 250 = .ok (.iload 4, 2) := by decide +kernel
theorem dX7_together_252 : decode cX7_together 252 = .ok (.aload_n 0, 1) := by decide +kernel
theorem dX7_together_253 : decode cX7_together 253 = .ok (.getfield 28, 3) := by decide +kernel
theorem dX7_together_256 : decode cX7_together 256 = .ok (.iload_n 2, 1) := by decide +kernel
theorem dX7_together_257 : decode cX7_together 257 = .ok (.iaload, 1) := by decide +kernel
theorem dX7_together_258 : decode cX7_together 258 = .ok (.if_icmp .ge (-103), 3) := by decide +kernel
theorem dX7_together_261 : decode cX7_together 261 = .ok (.iload 4, 2) := by decide +kernel
theorem dX7_together_263 : decode cX7_together 263 = .ok (.iload 9, 2) := by decide +kernel
theorem dX7_together_265 : decode cX7_together 265 = .ok (.if_icmp .ne 8, 3) := by decide +kernel
theorem dX7_together_268 : decode cX7_together 268 = .ok (.iload 6, 2) := by decide +kernel
theorem dX7_together_270 : decode cX7_together 270 = .ok (.ifCond .eq 33, 3) := by decide +kernel
theorem dX7_together_273 : decode cX7_together 273 = .ok (.aload_n 0, 1) := by decide +kernel
theorem dX7_together_274 : decode cX7_together 274 = .ok (.getfield 31, 3) := by decide +kernel
theorem dX7_together_277 : decode cX7_together 277 = .ok (.bipush 10, 2) := by decide +kernel
theorem dX7_together_279 : decode cX7_together 279 = .ok (.iload_n 2, 1) := by decide +kernel
theorem dX7_together_280 : decode cX7_together 280 = .ok (.imul, 1) := by decide +kernel
theorem dX7_together_281 : decode cX7_together 281 = .ok (.iload 4, 2) := by decide +kernel
theorem dX7_together_283 : decode cX7_together 283 = .ok (.iadd, 1) := by decide +kernel
theorem dX7_together_284 : decode cX7_together 284 = .ok (.iaload, 1) := by decide +kernel
theorem dX7_together_285 : decode cX7_together 285 = .ok (.iload 10, 2) := by decide +kernel
theorem dX7_together_287 : decode cX7_together 287 = .ok (.if_icmp .gt (-132), 3) := by decide +kernel
theorem dX7_together_290 : decode cX7_together 290 = .ok (.iload_n 3, 1) := by decide +kernel
theorem dX7_together_291 : decode cX7_together 291 = .ok (.iload 8, 2) := by decide +kernel
theorem dX7_together_293 : decode cX7_together 293 = .ok (.if_icmp .gt 10, 3) := by decide +kernel
theorem dX7_together_296 : decode cX7_together 296 = .ok (.iload 4, 2) := by decide +kernel
theorem dX7_together_298 : decode cX7_together 298 = .ok (.iload 9, 2) := by decide +kernel
theorem dX7_together_300 : decode cX7_together 300 = .ok (.if_icmp .le (-145), 3) := by decide +kernel
theorem dX7_together_303 : decode cX7_together 303 = .ok (.aload_n 0, 1) := by decide +kernel
theorem dX7_together_304 : decode cX7_together 304 = .ok (.getfield 31, 3) := by decide +kernel
theorem dX7_together_307 : decode cX7_together 307 = .ok (.bipush 10, 2) := by decide +kernel
theorem dX7_together_309 : decode cX7_together 309 = .ok (.iload_n 2, 1) := by decide +kernel
theorem dX7_together_310 : decode cX7_together 310 = .ok (.imul, 1) := by decide +kernel
theorem dX7_together_311 : decode cX7_together 311 = .ok (.iload 4, 2) := by decide +kernel
theorem dX7_together_313 : decode cX7_together 313 = .ok (.iadd, 1) := by decide +kernel
theorem dX7_together_314 : decode cX7_together 314 = .ok (.iaload, 1) := by decide +kernel
theorem dX7_together_315 : decode cX7_together 315 = .ok (.aload_n 0, 1) := by decide +kernel
theorem dX7_together_316 : decode cX7_together 316 = .ok (.getfield 34, 3) := by decide +kernel
theorem dX7_together_319 : decode cX7_together 319 = .ok (.bipush 10, 2) := by decide +kernel
theorem dX7_together_321 : decode cX7_together 321 = .ok (.iload_n 2, 1) := by decide +kernel
theorem dX7_together_322 : decode cX7_together 322 = .ok (.imul, 1) := by decide +kernel
theorem dX7_together_323 : decode cX7_together 323 = .ok (.iload 4, 2) := by decide +kernel
theorem dX7_together_325 : decode cX7_together 325 = .ok (.iadd, 1) := by decide +kernel
theorem dX7_together_326 : decode cX7_together 326 = .ok (.iaload, 1) := by decide +kernel
theorem dX7_together_327 : decode cX7_together 327 = .ok (.iadd, 1) := by decide +kernel
theorem dX7_together_328 : decode cX7_together 328 = .ok (.istore 12, 2) := by decide +kernel
theorem dX7_together_330 : decode cX7_together 330 = .ok (.iload 12, 2) := by decide +kernel
theorem dX7_together_332 : decode cX7_together 332 = .ok (.iload 10, 2) := by decide +kernel
theorem dX7_together_334 : decode cX7_together 334 = .ok (.if_icmp .le 8, 3) := by decide +kernel
theorem dX7_together_337 : decode cX7_together 337 = .ok (.iload 12, 2) := by decide +kernel
theorem dX7_together_339 : decode cX7_together 339 = .ok (.goto 5, 3) := by decide +kernel
theorem dX7_together_342 : decode cX7_together 342 = .ok (.iload 10, 2) := by decide +kernel
theorem dX7_together_344 : decode cX7_together 344 = .ok (.istore 10, 2) := by decide +kernel
theorem dX7_together_346 : decode cX7_together 346 = .ok (.iinc 4 1, 3) := by decide +kernel
theorem dX7_together_349 : decode cX7_together 349 = .ok (.iconst 1, 1) := by decide +kernel
theorem dX7_together_350 : decode cX7_together 350 = .ok (.istore 11, 2) := by decide +kernel
theorem dX7_together_352 : decode cX7_together 352 = .ok (.goto (-197), 3) := by decide +kernel
theorem dX7_together_355 : decode cX7_together 355 = .ok (.aload_n 0, 1) := by decide +kernel
theorem dX7_together_356 : decode cX7_together 356 = .ok (.iload 7, 2) := by decide +kernel
theorem dX7_together_358 : decode cX7_together 358 = .ok (.iload 5, 2) := by decide +kernel
theorem dX7_together_360 : decode cX7_together 360 = .ok (.isub, 1) := by decide +kernel
theorem dX7_together_361 : decode cX7_together 361 = .ok (.invokevirtual 134, 3) := by decide +kernel
theorem dX7_together_364 : decode cX7_together 364 = .ok (.aload_n 0, 1) := by decide +kernel
theorem dX7_together_365 : decode cX7_together 365 = .ok (.iload_n 1, 1) := by decide +kernel
theorem dX7_together_366 : decode cX7_together 366 = .ok (.iload 8, 2) := by decide +kernel
theorem dX7_together_368 : decode cX7_together 368 = .ok (.iload_n 3, 1) := by decide +kernel
theorem dX7_together_369 : decode cX7_together 369 = .ok (.iload_n 2, 1) := by decide +kernel
theorem dX7_together_370 : decode cX7_together 370 = .ok (.iload 9, 2) := by decide +kernel
theorem dX7_together_372 : decode cX7_together 372 = .ok (.iload 4, 2) := by decide +kernel
theorem dX7_together_374 : decode cX7_together 374 = .ok (.iload 7, 2) := by decide +kernel
theorem dX7_together_376 : decode cX7_together 376 = .ok (.iload 10, 2) := by decide +kernel
theorem dX7_together_378 : decode cX7_together 378 = .ok (.invokevirtual 205, 3) := by decide +kernel
theorem dX7_together_381 : decode cX7_together 381 = .ok (.aload_n 0, 1) := by decide +kernel
theorem dX7_together_382 : decode cX7_together 382 = .ok (.iload_n 1, 1) := by decide +kernel
theorem dX7_together_383 : decode cX7_together 383 = .ok (.iload 8, 2) := by decide +kernel
theorem dX7_together_385 : decode cX7_together 385 = .ok (.iload_n 3, 1) := by decide +kernel
theorem dX7_together_386 : decode cX7_together 386 = .ok (.iload_n 2, 1) := by decide +kernel
theorem dX7_together_387 : decode cX7_together 387 = .ok (.iload 9, 2) := by decide +kernel
theorem dX7_together_389 : decode cX7_together 389 = .ok (.iload 4, 2) := by decide +kernel
theorem dX7_together_391 : decode cX7_together 391 = .ok (.iload 7, 2) := by decide +kernel
theorem dX7_together_393 : decode cX7_together 393 = .ok (.iload 10, 2) := by decide +kernel
theorem dX7_together_395 : decode cX7_together 395 = .ok (.invokevirtual 209, 3) := by decide +kernel
theorem dX7_together_398 : decode cX7_together 398 = .ok (.iload 8, 2) := by decide +kernel
theorem dX7_together_400 : decode cX7_together 400 = .ok (.istore 12, 2) := by decide +kernel
theorem dX7_together_402 : decode cX7_together 402 = .ok (.iload 12, 2) := by decide +kernel
theorem dX7_together_404 : decode cX7_together 404 = .ok (.iload_n 3, 1) := by decide +kernel
theorem dX7_together_405 : decode cX7_together 405 = .ok (.if_icmp .ge 39, 3) := by decide +kernel
theorem dX7_together_408 : decode cX7_together 408 = .ok (.iload 5, 2) := by decide +kernel
theorem dX7_together_410 : decode cX7_together 410 = .ok (.aload_n 0, 1) := by decide +kernel
theorem dX7_together_411 : decode cX7_together 411 = .ok (.getfield 37, 3) := by decide +kernel
theorem dX7_together_414 : decode cX7_together 414 = .ok (.bipush 10, 2) := by decide +kernel
theorem dX7_together_416 : decode cX7_together 416 = .ok (.iload_n 1, 1) := by decide +kernel
theorem dX7_together_417 : decode cX7_together 417 = .ok (.imul, 1) := by decide +kernel
theorem dX7_together_418 : decode cX7_together 418 = .ok (.iload 12, 2) := by decide +kernel
theorem dX7_together_420 : decode cX7_together 420 = .ok (.iadd, 1) := by decide +kernel
theorem dX7_together_421 : decode cX7_together 421 = .ok (.iaload, 1) := by decide +kernel
theorem dX7_together_422 : decode cX7_together 422 = .ok (.aload_n 0, 1) := by decide +kernel
theorem dX7_together_423 : decode cX7_together 423 = .ok (.getfield 34, 3) := by decide +kernel
theorem dX7_together_426 : decode cX7_together 426 = .ok (.bipush 10, 2) := by decide +kernel
theorem dX7_together_428 : decode cX7_together 428 = .ok (.iload_n 1, 1) := by decide +kernel
theorem dX7_together_429 : decode cX7_together 429 = .ok (.imul, 1) := by decide +kernel
theorem dX7_together_430 : decode cX7_together 430 = .ok (.iload 12, 2) := by decide +kernel
theorem dX7_together_432 : decode cX7_together 432 = .ok (.iadd, 1) := by decide +kernel
theorem dX7_together_433 : decode cX7_together 433 = .ok (.iaload, 1) := by decide +kernel
theorem dX7_together_434 : decode cX7_together 434 = .ok (.isub, 1) := by decide +kernel
theorem dX7_together_435 : decode cX7_together 435 = .ok (.iadd, 1) := by decide +kernel
theorem dX7_together_436 : decode cX7_together 436 = .ok (.istore 5, 2) := by decide +kernel
theorem dX7_together_438 : decode cX7_together 438 = .ok (.iinc 12 1, 3) := by decide +kernel
theorem dX7_together_441 : decode cX7_together 441 = .ok (.goto (-39), 3) := by decide +kernel
theorem dX7_together_444 : decode cX7_together 444 = .ok (.aload_n 0, 1) := by decide +kernel
theorem dX7_together_445 : decode cX7_together 445 = .ok (.invokevirtual 212, 3) := by decide +kernel
theorem dX7_together_448 : decode cX7_together 448 = .ok (.goto (-405), 3) := by decide +kernel
theorem dX7_together_451 : decode cX7_together 451 = .ok (.aload_n 0, 1) := by decide +kernel
theorem dX7_together_452 : decode cX7_together 452 = .ok (.getfield 105, 3) := by decide +kernel
theorem dX7_together_455 : decode cX7_together 455 = .ok (.bipush 12, 2) := by decide +kernel
theorem dX7_together_457 : decode cX7_together 457 = .ok (.if_icmp .eq 10, 3) := by decide +kernel
theorem dX7_together_460 : decode cX7_together 460 = .ok (.aload_n 0, 1) := by decide +kernel
theorem dX7_together_461 : decode cX7_together 461 = .ok (.invokevirtual 215, 3) := by decide +kernel
theorem dX7_together_464 : decode cX7_together 464 = .ok (.ifCond .ne 6, 3) := by decide +kernel
theorem dX7_together_467 : decode cX7_together 467 = .ok (.bipush (-104), 2) := by decide +kernel
theorem dX7_together_469 : decode cX7_together 469 = .ok (.ireturn, 1) := by decide +kernel
theorem dX7_together_470 : decode cX7_together 470 = .ok (.aload_n 0, 1) := by decide +kernel
theorem dX7_together_471 : decode cX7_together 471 = .ok (.invokevirtual 152, 3) := by decide +kernel
theorem dX7_together_474 : decode cX7_together 474 = .ok (.ireturn, 1) := by decide +kernel
theorem dX7_layAhead_0 : decode cX7_layAhead 0 = .ok (.iload 7, 2) := by decide +kernel
theorem dX7_layAhead_2 : decode cX7_layAhead 2 = .ok (.istore 9, 2) := by decide +kernel
theorem dX7_layAhead_4 : decode cX7_layAhead 4 = .ok (.iload_n 2, 1) := by decide +kernel
theorem dX7_layAhead_5 : decode cX7_layAhead 5 = .ok (.istore 10, 2) := by decide +kernel
theorem dX7_layAhead_7 : decode cX7_layAhead 7 = .ok (.iload 9, 2) := by decide +kernel
theorem dX7_layAhead_9 : decode cX7_layAhead 9 = .ok (.iload 8, 2) := by decide +kernel
theorem dX7_layAhead_11 : decode cX7_layAhead 11 = .ok (.if_icmp .lt 9, 3) := by decide +kernel
theorem dX7_layAhead_14 : decode cX7_layAhead 14 = .ok (.iload 10, 2) := by decide +kernel
theorem dX7_layAhead_16 : decode cX7_layAhead 16 = .ok (.iload_n 3, 1) := by decide +kernel
theorem dX7_layAhead_17 : decode cX7_layAhead 17 = .ok (.if_icmp .ge 111, 3) := by decide +kernel
theorem dX7_layAhead_20 : decode cX7_layAhead 20 = .ok (.iload 10, 2) := by decide +kernel
theorem dX7_layAhead_22 : decode cX7_layAhead 22 = .ok (.iload_n 3, 1) := by decide +kernel
theorem dX7_layAhead_23 : decode cX7_layAhead 23 = .ok (.if_icmp .ge 83, 3) := by decide +kernel
theorem dX7_layAhead_26 : decode cX7_layAhead 26 = .ok (.aload_n 0, 1) := by decide +kernel
theorem dX7_layAhead_27 : decode cX7_layAhead 27 = .ok (.iload_n 1, 1) := by decide +kernel
theorem dX7_layAhead_28 : decode cX7_layAhead 28 = .ok (.iload 10, 2) := by decide +kernel
theorem dX7_layAhead_30 : decode cX7_layAhead 30 = .ok (.invokevirtual 198, 3) := by decide +kernel
theorem dX7_layAhead_33 : decode cX7_layAhead 33 = .ok (.iload 9, 2) := by decide +kernel
theorem dX7_layAhead_35 : decode cX7_layAhead 35 = .ok (.if_icmp .ne 71, 3) := by decide +kernel
theorem dX7_layAhead_38 : decode cX7_layAhead 38 = .ok (.iconst 0, 1) := by decide +kernel
theorem dX7_layAhead_39 : decode cX7_layAhead 39 = .ok (.istore 11, 2) := by decide +kernel
theorem dX7_layAhead_41 : decode cX7_layAhead 41 = .ok (.iload 11, 2) := by decide +kernel
theorem dX7_layAhead_43 : decode cX7_layAhead 43 = .ok (.aload_n 0, 1) := by decide +kernel
theorem dX7_layAhead_44 : decode cX7_layAhead 44 = .ok (.getfield 34, 3) := by decide +kernel
theorem dX7_layAhead_47 : decode cX7_layAhead 47 = .ok (.bipush 10, 2) := by decide +kernel
theorem dX7_layAhead_49 : decode cX7_layAhead 49 = .ok (.iload_n 1, 1) := by decide +kernel
theorem dX7_layAhead_50 : decode cX7_layAhead 50 = .ok (.imul, 1) := by decide +kernel
theorem dX7_layAhead_51 : decode cX7_layAhead 51 = .ok (.iload 10, 2) := by decide +kernel
theorem dX7_layAhead_53 : decode cX7_layAhead 53 = .ok (.iadd, 1) := by decide +kernel
theorem dX7_layAhead_54 : decode cX7_layAhead 54 = .ok (.iaload, 1) := by decide +kernel
theorem dX7_layAhead_55 : decode cX7_layAhead 55 = .ok (.if_icmp .ge 28, 3) := by decide +kernel
theorem dX7_layAhead_58 : decode cX7_layAhead 58 = .ok (.aload_n 0, 1) := by decide +kernel
theorem dX7_layAhead_59 : decode cX7_layAhead 59 = .ok (.aload_n 0, 1) := by decide +kernel
theorem dX7_layAhead_60 : decode cX7_layAhead 60 = .ok (.getfield 40, 3) := by decide +kernel
theorem dX7_layAhead_63 : decode cX7_layAhead 63 = .ok (.aload_n 0, 1) := by decide +kernel
theorem dX7_layAhead_64 : decode cX7_layAhead 64 = .ok (.iload_n 1, 1) := by decide +kernel
theorem dX7_layAhead_65 : decode cX7_layAhead 65 = .ok (.iload 10, 2) := by decide +kernel
theorem dX7_layAhead_67 : decode cX7_layAhead 67 = .ok (.invokevirtual 168, 3) := by decide +kernel
theorem dX7_layAhead_70 : decode cX7_layAhead 70 = .ok (.iload 11, 2) := by decide +kernel
theorem dX7_layAhead_72 : decode cX7_layAhead 72 = .ok (.iadd, 1) := by decide +kernel
theorem dX7_layAhead_73 : decode cX7_layAhead 73 = .ok (.iaload, 1) := by decide +kernel
theorem dX7_layAhead_74 : decode cX7_layAhead 74 = .ok (.invokevirtual 138, 3) := by decide +kernel
theorem dX7_layAhead_77 : decode cX7_layAhead 77 = .ok (.iinc 11 1, 3) := by decide +kernel
theorem dX7_layAhead_80 : decode cX7_layAhead 80 = .ok (.goto (-39), 3) := by decide +kernel
theorem dX7_layAhead_83 : decode cX7_layAhead 83 = .ok (.iload 9, 2) := by decide +kernel
theorem dX7_layAhead_85 : decode cX7_layAhead 85 = .ok (.aload_n 0, 1) := by decide +kernel
theorem dX7_layAhead_86 : decode cX7_layAhead 86 = .ok (.getfield 37, 3) := by decide +kernel
theorem dX7_layAhead_89 : decode cX7_layAhead 89 = .ok (.bipush 10, 2) := by decide +kernel
theorem dX7_layAhead_91 : decode cX7_layAhead 91 = .ok (.iload_n 1, 1) := by decide +kernel
theorem dX7_layAhead_92 : decode cX7_layAhead 92 = .ok (.imul, 1) := by decide +kernel
theorem dX7_layAhead_93 : decode cX7_layAhead 93 = .ok (.iload 10, 2) := by decide +kernel
theorem dX7_layAhead_95 : decode cX7_layAhead 95 = .ok (.iadd, 1) := by decide +kernel
theorem dX7_layAhead_96 : decode cX7_layAhead 96 = .ok (.iaload, 1) := by decide +kernel
theorem dX7_layAhead_97 : decode cX7_layAhead 97 = .ok (.iadd, 1) := by decide +kernel
theorem dX7_layAhead_98 : decode cX7_layAhead 98 = .ok (.istore 9, 2) := by decide +kernel
theorem dX7_layAhead_100 : decode cX7_layAhead 100 = .ok (.iinc 10 1, 3) := by decide +kernel
theorem dX7_layAhead_103 : decode cX7_layAhead 103 = .ok (.goto (-96), 3) := by decide +kernel
theorem dX7_layAhead_106 : decode cX7_layAhead 106 = .ok (.aload_n 0, 1) := by decide +kernel
theorem dX7_layAhead_107 : decode cX7_layAhead 107 = .ok (.aload_n 0, 1) := by decide +kernel
theorem dX7_layAhead_108 : decode cX7_layAhead 108 = .ok (.iload 4, 2) := by decide +kernel
theorem dX7_layAhead_110 : decode cX7_layAhead 110 = .ok (.iload 5, 2) := by decide +kernel
theorem dX7_layAhead_112 : decode cX7_layAhead 112 = .ok (.iload 6, 2) := by decide +kernel
theorem dX7_layAhead_114 : decode cX7_layAhead 114 = .ok (.iload 9, 2) := by decide +kernel
theorem dX7_layAhead_116 : decode cX7_layAhead 116 = .ok (.invokevirtual 219, 3) := by decide +kernel
theorem dX7_layAhead_119 : decode cX7_layAhead 119 = .ok (.invokevirtual 138, 3) := by decide +kernel
theorem dX7_layAhead_122 : decode cX7_layAhead 122 = .ok (.iinc 9 1, 3) := by decide +kernel
theorem dX7_layAhead_125 : decode cX7_layAhead 125 = .ok (.goto (-118), 3) := by decide +kernel
theorem dX7_layAhead_128 : decode cX7_layAhead 128 = .ok (.return_, 1) := by decide +kernel
theorem dX7_takenAt_0 : decode cX7_takenAt 0 = .ok (.iconst (-1), 1) := by decide +kernel
theorem dX7_takenAt_1 : decode cX7_takenAt 1 = .ok (.istore 5, 2) := by decide +kernel
theorem dX7_takenAt_3 : decode cX7_takenAt 3 = .ok (.iload_n 2, 1) := by decide +kernel
theorem dX7_takenAt_4 : decode cX7_takenAt 4 = .ok (.istore 6, 2) := by decide +kernel
theorem dX7_takenAt_6 : decode cX7_takenAt 6 = .ok (.iload 6, 2) := by decide +kernel
theorem dX7_takenAt_8 : decode cX7_takenAt 8 = .ok (.iload_n 3, 1) := by decide +kernel
theorem dX7_takenAt_9 : decode cX7_takenAt 9 = .ok (.if_icmp .ge 75, 3) := by decide +kernel
theorem dX7_takenAt_12 : decode cX7_takenAt 12 = .ok (.aload_n 0, 1) := by decide +kernel
theorem dX7_takenAt_13 : decode cX7_takenAt 13 = .ok (.getfield 31, 3) := by decide +kernel
theorem dX7_takenAt_16 : decode cX7_takenAt 16 = .ok (.bipush 10, 2) := by decide +kernel
theorem dX7_takenAt_18 : decode cX7_takenAt 18 = .ok (.iload_n 1, 1) := by decide +kernel
theorem dX7_takenAt_19 : decode cX7_takenAt 19 = .ok (.imul, 1) := by decide +kernel
theorem dX7_takenAt_20 : decode cX7_takenAt 20 = .ok (.iload 6, 2) := by decide +kernel
theorem dX7_takenAt_22 : decode cX7_takenAt 22 = .ok (.iadd, 1) := by decide +kernel
theorem dX7_takenAt_23 : decode cX7_takenAt 23 = .ok (.iaload, 1) := by decide +kernel
theorem dX7_takenAt_24 : decode cX7_takenAt 24 = .ok (.istore 7, 2) := by decide +kernel
theorem dX7_takenAt_26 : decode cX7_takenAt 26 = .ok (.iload 4, 2) := by decide +kernel
theorem dX7_takenAt_28 : decode cX7_takenAt 28 = .ok (.iload 7, 2) := by decide +kernel
theorem dX7_takenAt_30 : decode cX7_takenAt 30 = .ok (.iload 7, 2) := by decide +kernel
theorem dX7_takenAt_32 : decode cX7_takenAt 32 = .ok (.aload_n 0, 1) := by decide +kernel
theorem dX7_takenAt_33 : decode cX7_takenAt 33 = .ok (.getfield 34, 3) := by decide +kernel
theorem dX7_takenAt_36 : decode cX7_takenAt 36 = .ok (.bipush 10, 2) := by decide +kernel
theorem dX7_takenAt_38 : decode cX7_takenAt 38 = .ok (.iload_n 1, 1) := by decide +kernel
theorem dX7_takenAt_39 : decode cX7_takenAt 39 = .ok (.imul, 1) := by decide +kernel
theorem dX7_takenAt_40 : decode cX7_takenAt 40 = .ok (.iload 6, 2) := by decide +kernel
theorem dX7_takenAt_42 : decode cX7_takenAt 42 = .ok (.iadd, 1) := by decide +kernel
theorem dX7_takenAt_43 : decode cX7_takenAt 43 = .ok (.iaload, 1) := by decide +kernel
theorem dX7_takenAt_44 : decode cX7_takenAt 44 = .ok (.iadd, 1) := by decide +kernel
theorem dX7_takenAt_45 : decode cX7_takenAt 45 = .ok (.iconst 1, 1) := by decide +kernel
theorem dX7_takenAt_46 : decode cX7_takenAt 46 = .ok (.isub, 1) := by decide +kernel
theorem dX7_takenAt_47 : decode cX7_takenAt 47 = .ok (.invokestatic 101, 3) := by decide +kernel
theorem dX7_takenAt_50 : decode cX7_takenAt 50 = .ok (.ifCond .eq 24, 3) := by decide +kernel
theorem dX7_takenAt_53 : decode cX7_takenAt 53 = .ok (.aload_n 0, 1) := by decide +kernel
theorem dX7_takenAt_54 : decode cX7_takenAt 54 = .ok (.getfield 40, 3) := by decide +kernel
theorem dX7_takenAt_57 : decode cX7_takenAt 57 = .ok (.aload_n 0, 1) := by decide +kernel
theorem dX7_takenAt_58 : decode cX7_takenAt 58 = .ok (.iload_n 1, 1) := by decide +kernel
theorem dX7_takenAt_59 : decode cX7_takenAt 59 = .ok (.iload 6, 2) := by decide +kernel
theorem dX7_takenAt_61 : decode cX7_takenAt 61 = .ok (.invokevirtual 168, 3) := by decide +kernel
theorem dX7_takenAt_64 : decode cX7_takenAt 64 = .ok (.iload 4, 2) := by decide +kernel
theorem dX7_takenAt_66 : decode cX7_takenAt 66 = .ok (.iadd, 1) := by decide +kernel
theorem dX7_takenAt_67 : decode cX7_takenAt 67 = .ok (.iload 7, 2) := by decide +kernel
theorem dX7_takenAt_69 : decode cX7_takenAt 69 = .ok (.isub, 1) := by decide +kernel
theorem dX7_takenAt_70 : decode cX7_takenAt 70 = .ok (.iaload, 1) := by decide +kernel
theorem dX7_takenAt_71 : decode cX7_takenAt 71 = .ok (.goto 5, 3) := by decide +kernel
theorem dX7_takenAt_74 : decode cX7_takenAt 74 = .ok (.iload 5, 2) := by decide +kernel
theorem dX7_takenAt_76 : decode cX7_takenAt 76 = .ok (.istore 5, 2) := by decide +kernel
theorem dX7_takenAt_78 : decode cX7_takenAt 78 = .ok (.iinc 6 1, 3) := by decide +kernel
theorem dX7_takenAt_81 : decode cX7_takenAt 81 = .ok (.goto (-75), 3) := by decide +kernel
theorem dX7_takenAt_84 : decode cX7_takenAt 84 = .ok (.iload 5, 2) := by decide +kernel
theorem dX7_takenAt_86 : decode cX7_takenAt 86 = .ok (.ireturn, 1) := by decide +kernel
theorem dX7_layBehind_0 : decode cX7_layBehind 0 = .ok (.iload 7, 2) := by decide +kernel
theorem dX7_layBehind_2 : decode cX7_layBehind 2 = .ok (.istore 9, 2) := by decide +kernel
theorem dX7_layBehind_4 : decode cX7_layBehind 4 = .ok (.iload 5, 2) := by decide +kernel
theorem dX7_layBehind_6 : decode cX7_layBehind 6 = .ok (.istore 10, 2) := by decide +kernel
theorem dX7_layBehind_8 : decode cX7_layBehind 8 = .ok (.iload 9, 2) := by decide +kernel
theorem dX7_layBehind_10 : decode cX7_layBehind 10 = .ok (.iload 8, 2) := by decide +kernel
theorem dX7_layBehind_12 : decode cX7_layBehind 12 = .ok (.if_icmp .lt 10, 3) := by decide +kernel
theorem dX7_layBehind_15 : decode cX7_layBehind 15 = .ok (.iload 10, 2) := by decide +kernel
theorem dX7_layBehind_17 : decode cX7_layBehind 17 = .ok (.iload 6, 2) := by decide +kernel
theorem dX7_layBehind_19 : decode cX7_layBehind 19 = .ok (.if_icmp .ge 118, 3) := by decide +kernel
theorem dX7_layBehind_22 : decode cX7_layBehind 22 = .ok (.iload 10, 2) := by decide +kernel
theorem dX7_layBehind_24 : decode cX7_layBehind 24 = .ok (.iload 6, 2) := by decide +kernel
theorem dX7_layBehind_26 : decode cX7_layBehind 26 = .ok (.if_icmp .ge 92, 3) := by decide +kernel
theorem dX7_layBehind_29 : decode cX7_layBehind 29 = .ok (.aload_n 0, 1) := by decide +kernel
theorem dX7_layBehind_30 : decode cX7_layBehind 30 = .ok (.getfield 31, 3) := by decide +kernel
theorem dX7_layBehind_33 : decode cX7_layBehind 33 = .ok (.bipush 10, 2) := by decide +kernel
theorem dX7_layBehind_35 : decode cX7_layBehind 35 = .ok (.iload 4, 2) := by decide +kernel
theorem dX7_layBehind_37 : decode cX7_layBehind 37 = .ok (.imul, 1) := by decide +kernel
theorem dX7_layBehind_38 : decode cX7_layBehind 38 = .ok (.iload 10, 2) := by decide +kernel
theorem dX7_layBehind_40 : decode cX7_layBehind 40 = .ok (.iadd, 1) := by decide +kernel
theorem dX7_layBehind_41 : decode cX7_layBehind 41 = .ok (.iaload, 1) := by decide +kernel
theorem dX7_layBehind_42 : decode cX7_layBehind 42 = .ok (.iload 9, 2) := by decide +kernel
theorem dX7_layBehind_44 : decode cX7_layBehind 44 = .ok (.if_icmp .ne 74, 3) := by decide +kernel
theorem dX7_layBehind_47 : decode cX7_layBehind 47 = .ok (.iconst 0, 1) := by decide +kernel
theorem dX7_layBehind_48 : decode cX7_layBehind 48 = .ok (.istore 11, 2) := by decide +kernel
theorem dX7_layBehind_50 : decode cX7_layBehind 50 = .ok (.iload 11, 2) := by decide +kernel
theorem dX7_layBehind_52 : decode cX7_layBehind 52 = .ok (.aload_n 0, 1) := by decide +kernel
theorem dX7_layBehind_53 : decode cX7_layBehind 53 = .ok (.getfield 37, 3) := by decide +kernel
theorem dX7_layBehind_56 : decode cX7_layBehind 56 = .ok (.bipush 10, 2) := by decide +kernel
theorem dX7_layBehind_58 : decode cX7_layBehind 58 = .ok (.iload 4, 2) := by decide +kernel
theorem dX7_layBehind_60 : decode cX7_layBehind 60 = .ok (.imul, 1) := by decide +kernel
theorem dX7_layBehind_61 : decode cX7_layBehind 61 = .ok (.iload 10, 2) := by decide +kernel
theorem dX7_layBehind_63 : decode cX7_layBehind 63 = .ok (.iadd, 1) := by decide +kernel
theorem dX7_layBehind_64 : decode cX7_layBehind 64 = .ok (.iaload, 1) := by decide +kernel
theorem dX7_layBehind_65 : decode cX7_layBehind 65 = .ok (.if_icmp .ge 29, 3) := by decide +kernel
theorem dX7_layBehind_68 : decode cX7_layBehind 68 = .ok (.aload_n 0, 1) := by decide +kernel
theorem dX7_layBehind_69 : decode cX7_layBehind 69 = .ok (.aload_n 0, 1) := by decide +kernel
theorem dX7_layBehind_70 : decode cX7_layBehind 70 = .ok (.getfield 43, 3) := by decide +kernel
theorem dX7_layBehind_73 : decode cX7_layBehind 73 = .ok (.aload_n 0, 1) := by decide +kernel
theorem dX7_layBehind_74 : decode cX7_layBehind 74 = .ok (.iload 4, 2) := by decide +kernel
theorem dX7_layBehind_76 : decode cX7_layBehind 76 = .ok (.iload 10, 2) := by decide +kernel
theorem dX7_layBehind_78 : decode cX7_layBehind 78 = .ok (.invokevirtual 171, 3) := by decide +kernel
theorem dX7_layBehind_81 : decode cX7_layBehind 81 = .ok (.iload 11, 2) := by decide +kernel
theorem dX7_layBehind_83 : decode cX7_layBehind 83 = .ok (.iadd, 1) := by decide +kernel
theorem dX7_layBehind_84 : decode cX7_layBehind 84 = .ok (.iaload, 1) := by decide +kernel
theorem dX7_layBehind_85 : decode cX7_layBehind 85 = .ok (.invokevirtual 141, 3) := by decide +kernel
theorem dX7_layBehind_88 : decode cX7_layBehind 88 = .ok (.iinc 11 1, 3) := by decide +kernel
theorem dX7_layBehind_91 : decode cX7_layBehind 91 = .ok (.goto (-41), 3) := by decide +kernel
theorem dX7_layBehind_94 : decode cX7_layBehind 94 = .ok (.iload 9, 2) := by decide +kernel
theorem dX7_layBehind_96 : decode cX7_layBehind 96 = .ok (.aload_n 0, 1) := by decide +kernel
theorem dX7_layBehind_97 : decode cX7_layBehind 97 = .ok (.getfield 34, 3) := by decide +kernel
theorem dX7_layBehind_100 : decode cX7_layBehind 100 = .ok (.bipush 10, 2) := by decide +kernel
theorem dX7_layBehind_102 : decode cX7_layBehind 102 = .ok (.iload 4, 2) := by decide +kernel
theorem dX7_layBehind_104 : decode cX7_layBehind 104 = .ok (.imul, 1) := by decide +kernel
theorem dX7_layBehind_105 : decode cX7_layBehind 105 = .ok (.iload 10, 2) := by decide +kernel
theorem dX7_layBehind_107 : decode cX7_layBehind 107 = .ok (.iadd, 1) := by decide +kernel
theorem dX7_layBehind_108 : decode cX7_layBehind 108 = .ok (.iaload, 1) := by decide +kernel
theorem dX7_layBehind_109 : decode cX7_layBehind 109 = .ok (.iadd, 1) := by decide +kernel
theorem dX7_layBehind_110 : decode cX7_layBehind 110 = .ok (.istore 9, 2) := by decide +kernel
theorem dX7_layBehind_112 : decode cX7_layBehind 112 = .ok (.iinc 10 1, 3) := by decide +kernel
theorem dX7_layBehind_115 : decode cX7_layBehind 115 = .ok (.goto (-107), 3) := by decide +kernel
theorem dX7_layBehind_118 : decode cX7_layBehind 118 = .ok (.aload_n 0, 1) := by decide +kernel
theorem dX7_layBehind_119 : decode cX7_layBehind 119 = .ok (.aload_n 0, 1) := by decide +kernel
theorem dX7_layBehind_120 : decode cX7_layBehind 120 = .ok (.iload_n 1, 1) := by decide +kernel
theorem dX7_layBehind_121 : decode cX7_layBehind 121 = .ok (.iload_n 2, 1) := by decide +kernel
theorem dX7_layBehind_122 : decode cX7_layBehind 122 = .ok (.iload_n 3, 1) := by decide +kernel
theorem dX7_layBehind_123 : decode cX7_layBehind 123 = .ok (.iload 9, 2) := by decide +kernel
theorem dX7_layBehind_125 : decode cX7_layBehind 125 = .ok (.invokevirtual 223, 3) := by decide +kernel
theorem dX7_layBehind_128 : decode cX7_layBehind 128 = .ok (.invokevirtual 141, 3) := by decide +kernel
theorem dX7_layBehind_131 : decode cX7_layBehind 131 = .ok (.iinc 9 1, 3) := by decide +kernel
theorem dX7_layBehind_134 : decode cX7_layBehind 134 = .ok (.goto (-126), 3) := by decide +kernel
theorem dX7_layBehind_137 : decode cX7_layBehind 137 = .ok (.return_, 1) := by decide +kernel
theorem dX7_broughtAt_0 : decode cX7_broughtAt 0 = .ok (.iconst (-1), 1) := by decide +kernel
theorem dX7_broughtAt_1 : decode cX7_broughtAt 1 = .ok (.istore 5, 2) := by decide +kernel
theorem dX7_broughtAt_3 : decode cX7_broughtAt 3 = .ok (.iload_n 2, 1) := by decide +kernel
theorem dX7_broughtAt_4 : decode cX7_broughtAt 4 = .ok (.istore 6, 2) := by decide +kernel
theorem dX7_broughtAt_6 : decode cX7_broughtAt 6 = .ok (.iload 6, 2) := by decide +kernel
theorem dX7_broughtAt_8 : decode cX7_broughtAt 8 = .ok (.iload_n 3, 1) := by decide +kernel
theorem dX7_broughtAt_9 : decode cX7_broughtAt 9 = .ok (.if_icmp .ge 70, 3) := by decide +kernel
theorem dX7_broughtAt_12 : decode cX7_broughtAt 12 = .ok (.aload_n 0, 1) := by decide +kernel
theorem dX7_broughtAt_13 : decode cX7_broughtAt 13 = .ok (.iload_n 1, 1) := by decide +kernel
theorem dX7_broughtAt_14 : decode cX7_broughtAt 14 = .ok (.iload 6, 2) := by decide +kernel
theorem dX7_broughtAt_16 : decode cX7_broughtAt 16 = .ok (.invokevirtual 198, 3) := by decide +kernel
theorem dX7_broughtAt_19 : decode cX7_broughtAt 19 = .ok (.istore 7, 2) := by decide +kernel
theorem dX7_broughtAt_21 : decode cX7_broughtAt 21 = .ok (.iload 4, 2) := by decide +kernel
theorem dX7_broughtAt_23 : decode cX7_broughtAt 23 = .ok (.iload 7, 2) := by decide +kernel
theorem dX7_broughtAt_25 : decode cX7_broughtAt 25 = .ok (.iload 7, 2) := by decide +kernel
theorem dX7_broughtAt_27 : decode cX7_broughtAt 27 = .ok (.aload_n 0, 1) := by decide +kernel
theorem dX7_broughtAt_28 : decode cX7_broughtAt 28 = .ok (.getfield 37, 3) := by decide +kernel
theorem dX7_broughtAt_31 : decode cX7_broughtAt 31 = .ok (.bipush 10, 2) := by decide +kernel
theorem dX7_broughtAt_33 : decode cX7_broughtAt 33 = .ok (.iload_n 1, 1) := by decide +kernel
theorem dX7_broughtAt_34 : decode cX7_broughtAt 34 = .ok (.imul, 1) := by decide +kernel
theorem dX7_broughtAt_35 : decode cX7_broughtAt 35 = .ok (.iload 6, 2) := by decide +kernel
theorem dX7_broughtAt_37 : decode cX7_broughtAt 37 = .ok (.iadd, 1) := by decide +kernel
theorem dX7_broughtAt_38 : decode cX7_broughtAt 38 = .ok (.iaload, 1) := by decide +kernel
theorem dX7_broughtAt_39 : decode cX7_broughtAt 39 = .ok (.iadd, 1) := by decide +kernel
theorem dX7_broughtAt_40 : decode cX7_broughtAt 40 = .ok (.iconst 1, 1) := by decide +kernel
theorem dX7_broughtAt_41 : decode cX7_broughtAt 41 = .ok (.isub, 1) := by decide +kernel
theorem dX7_broughtAt_42 : decode cX7_broughtAt 42 = .ok (.invokestatic 101, 3) := by decide +kernel
theorem dX7_broughtAt_45 : decode cX7_broughtAt 45 = .ok (.ifCond .eq 24, 3) := by decide +kernel
theorem dX7_broughtAt_48 : decode cX7_broughtAt 48 = .ok (.aload_n 0, 1) := by decide +kernel
theorem dX7_broughtAt_49 : decode cX7_broughtAt 49 = .ok (.getfield 43, 3) := by decide +kernel
theorem dX7_broughtAt_52 : decode cX7_broughtAt 52 = .ok (.aload_n 0, 1) := by decide +kernel
theorem dX7_broughtAt_53 : decode cX7_broughtAt 53 = .ok (.iload_n 1, 1) := by decide +kernel
theorem dX7_broughtAt_54 : decode cX7_broughtAt 54 = .ok (.iload 6, 2) := by decide +kernel
theorem dX7_broughtAt_56 : decode cX7_broughtAt 56 = .ok (.invokevirtual 171, 3) := by decide +kernel
theorem dX7_broughtAt_59 : decode cX7_broughtAt 59 = .ok (.iload 4, 2) := by decide +kernel
theorem dX7_broughtAt_61 : decode cX7_broughtAt 61 = .ok (.iadd, 1) := by decide +kernel
theorem dX7_broughtAt_62 : decode cX7_broughtAt 62 = .ok (.iload 7, 2) := by decide +kernel
theorem dX7_broughtAt_64 : decode cX7_broughtAt 64 = .ok (.isub, 1) := by decide +kernel
theorem dX7_broughtAt_65 : decode cX7_broughtAt 65 = .ok (.iaload, 1) := by decide +kernel
theorem dX7_broughtAt_66 : decode cX7_broughtAt 66 = .ok (.goto 5, 3) := by decide +kernel
theorem dX7_broughtAt_69 : decode cX7_broughtAt 69 = .ok (.iload 5, 2) := by decide +kernel
theorem dX7_broughtAt_71 : decode cX7_broughtAt 71 = .ok (.istore 5, 2) := by decide +kernel
theorem dX7_broughtAt_73 : decode cX7_broughtAt 73 = .ok (.iinc 6 1, 3) := by decide +kernel
theorem dX7_broughtAt_76 : decode cX7_broughtAt 76 = .ok (.goto (-70), 3) := by decide +kernel
theorem dX7_broughtAt_79 : decode cX7_broughtAt 79 = .ok (.iload 5, 2) := by decide +kernel
theorem dX7_broughtAt_81 : decode cX7_broughtAt 81 = .ok (.ireturn, 1) := by decide +kernel
theorem dX7_layMoved_0 : decode cX7_layMoved 0 = .ok (.aload_n 0, 1) := by decide +kernel
theorem dX7_layMoved_1 : decode cX7_layMoved 1 = .ok (.invokevirtual 128, 3) := by decide +kernel
theorem dX7_layMoved_4 : decode cX7_layMoved 4 = .ok (.iconst 0, 1) := by decide +kernel
theorem dX7_layMoved_5 : decode cX7_layMoved 5 = .ok (.istore 4, 2) := by decide +kernel
theorem dX7_layMoved_7 : decode cX7_layMoved 7 = .ok (.iload 4, 2) := by decide +kernel
theorem dX7_layMoved_9 : decode cX7_layMoved 9 = .ok (.aload_n 0, 1) := by decide +kernel
theorem dX7_layMoved_10 : decode cX7_layMoved 10 = .ok (.getfield 28, 3) := by decide +kernel
theorem dX7_layMoved_13 : decode cX7_layMoved 13 = .ok (.iload_n 1, 1) := by decide +kernel
theorem dX7_layMoved_14 : decode cX7_layMoved 14 = .ok (.iaload, 1) := by decide +kernel
theorem dX7_layMoved_15 : decode cX7_layMoved 15 = .ok (.if_icmp .ge 249, 3) := by decide +kernel
theorem dX7_layMoved_18 : decode cX7_layMoved 18 = .ok (.aload_n 0, 1) := by decide +kernel
theorem dX7_layMoved_19 : decode cX7_layMoved 19 = .ok (.getfield 31, 3) := by decide +kernel
theorem dX7_layMoved_22 : decode cX7_layMoved 22 = .ok (.bipush 10, 2) := by decide +kernel
theorem dX7_layMoved_24 : decode cX7_layMoved 24 = .ok (.iload_n 1, 1) := by decide +kernel
theorem dX7_layMoved_25 : decode cX7_layMoved 25 = .ok (.imul, 1) := by decide +kernel
theorem dX7_layMoved_26 : decode cX7_layMoved 26 = .ok (.iload 4, 2) := by decide +kernel
theorem dX7_layMoved_28 : decode cX7_layMoved 28 = .ok (.iadd, 1) := by decide +kernel
theorem dX7_layMoved_29 : decode cX7_layMoved 29 = .ok (.iaload, 1) := by decide +kernel
theorem dX7_layMoved_30 : decode cX7_layMoved 30 = .ok (.istore 5, 2) := by decide +kernel
theorem dX7_layMoved_32 : decode cX7_layMoved 32 = .ok (.iload 5, 2) := by decide +kernel
theorem dX7_layMoved_34 : decode cX7_layMoved 34 = .ok (.istore 6, 2) := by decide +kernel
theorem dX7_layMoved_36 : decode cX7_layMoved 36 = .ok (.iconst 0, 1) := by decide +kernel
theorem dX7_layMoved_37 : decode cX7_layMoved 37 = .ok (.istore 7, 2) := by decide +kernel
theorem dX7_layMoved_39 : decode cX7_layMoved 39 = .ok (.iload 7, 2) := by decide +kernel
theorem dX7_layMoved_41 : decode cX7_layMoved 41 = .ok (.aload_n 0, 1) := by decide +kernel
theorem dX7_layMoved_42 : decode cX7_layMoved 42 = .ok (.getfield 28, 3) := by decide +kernel
theorem dX7_layMoved_45 : decode cX7_layMoved 45 = .ok (.iload_n 2, 1) := by decide +kernel
theorem dX7_layMoved_46 : decode cX7_layMoved 46 = .ok (.iaload, 1) := by decide +kernel
theorem dX7_layMoved_47 : decode cX7_layMoved 47 = .ok (.if_icmp .ge 115, 3) := by decide +kernel
theorem dX7_layMoved_50 : decode cX7_layMoved 50 = .ok (.aload_n 0, 1) := by decide +kernel
theorem dX7_layMoved_51 : decode cX7_layMoved 51 = .ok (.getfield 37, 3) := by decide +kernel
theorem dX7_layMoved_54 : decode cX7_layMoved 54 = .ok (.bipush 10, 2) := by decide +kernel
theorem dX7_layMoved_56 : decode cX7_layMoved 56 = .ok (.iload_n 2, 1) := by decide +kernel
theorem dX7_layMoved_57 : decode cX7_layMoved 57 = .ok (.imul, 1) := by decide +kernel
theorem dX7_layMoved_58 : decode cX7_layMoved 58 = .ok (.iload 7, 2) := by decide +kernel
theorem dX7_layMoved_60 : decode cX7_layMoved 60 = .ok (.iadd, 1) := by decide +kernel
theorem dX7_layMoved_61 : decode cX7_layMoved 61 = .ok (.iaload, 1) := by decide +kernel
theorem dX7_layMoved_62 : decode cX7_layMoved 62 = .ok (.aload_n 0, 1) := by decide +kernel
theorem dX7_layMoved_63 : decode cX7_layMoved 63 = .ok (.getfield 34, 3) := by decide +kernel
theorem dX7_layMoved_66 : decode cX7_layMoved 66 = .ok (.bipush 10, 2) := by decide +kernel
theorem dX7_layMoved_68 : decode cX7_layMoved 68 = .ok (.iload_n 2, 1) := by decide +kernel
theorem dX7_layMoved_69 : decode cX7_layMoved 69 = .ok (.imul, 1) := by decide +kernel
theorem dX7_layMoved_70 : decode cX7_layMoved 70 = .ok (.iload 7, 2) := by decide +kernel
theorem dX7_layMoved_72 : decode cX7_layMoved 72 = .ok (.iadd, 1) := by decide +kernel
theorem dX7_layMoved_73 : decode cX7_layMoved 73 = .ok (.iaload, 1) := by decide +kernel
theorem dX7_layMoved_74 : decode cX7_layMoved 74 = .ok (.isub, 1) := by decide +kernel
theorem dX7_layMoved_75 : decode cX7_layMoved 75 = .ok (.istore 8, 2) := by decide +kernel
theorem dX7_layMoved_77 : decode cX7_layMoved 77 = .ok (.iload_n 3, 1) := by decide +kernel
theorem dX7_layMoved_78 : decode cX7_layMoved 78 = .ok (.ifCond .eq 23, 3) := by decide +kernel
theorem dX7_layMoved_81 : decode cX7_layMoved 81 = .ok (.aload_n 0, 1) := by decide +kernel
theorem dX7_layMoved_82 : decode cX7_layMoved 82 = .ok (.iload_n 2, 1) := by decide +kernel
theorem dX7_layMoved_83 : decode cX7_layMoved 83 = .ok (.iload 7, 2) := by decide +kernel
theorem dX7_layMoved_85 : decode cX7_layMoved 85 = .ok (.invokevirtual 198, 3) := by decide +kernel
theorem dX7_layMoved_88 : decode cX7_layMoved 88 = .ok (.iload 5, 2) := by decide +kernel
theorem dX7_layMoved_90 : decode cX7_layMoved 90 = .ok (.if_icmp .ge 7, 3) := by decide +kernel
theorem dX7_layMoved_93 : decode cX7_layMoved 93 = .ok (.iconst 1, 1) := by decide +kernel
theorem dX7_layMoved_94 : decode cX7_layMoved 94 = .ok (.goto 34, 3) := by decide +kernel
theorem dX7_layMoved_97 : decode cX7_layMoved 97 = .ok (.iconst 0, 1) := by decide +kernel
theorem dX7_layMoved_98 : decode cX7_layMoved 98 = .ok (.goto 30, 3) := by decide +kernel
theorem dX7_layMoved_101 : decode cX7_layMoved 101 = .ok (.aload_n 0, 1) := by decide +kernel
theorem dX7_layMoved_102 : decode cX7_layMoved 102 = .ok (.getfield 31, 3) := by decide +kernel
theorem dX7_layMoved_105 : decode cX7_layMoved 105 = .ok (.bipush 10, 2) := by decide +kernel
theorem dX7_layMoved_107 : decode cX7_layMoved 107 = .ok (.iload_n 2, 1) := by decide +kernel
theorem dX7_layMoved_108 : decode cX7_layMoved 108 = .ok (.imul, 1) := by decide +kernel
theorem dX7_layMoved_109 : decode cX7_layMoved 109 = .ok (.iload 7, 2) := by decide +kernel
theorem dX7_layMoved_111 : decode cX7_layMoved 111 = .ok (.iadd, 1) := by decide +kernel
theorem dX7_layMoved_112 : decode cX7_layMoved 112 = .ok (.iaload, 1) := by decide +kernel
theorem dX7_layMoved_113 : decode cX7_layMoved 113 = .ok (.aload_n 0, 1) := by decide +kernel
theorem dX7_layMoved_114 : decode cX7_layMoved 114 = .ok (.iload_n 1, 1) := by decide +kernel
theorem dX7_layMoved_115 : decode cX7_layMoved 115 = .ok (.iload 4, 2) := by decide +kernel
theorem dX7_layMoved_117 : decode cX7_layMoved 117 = .ok (.invokevirtual 198, 3) := by decide +kernel
theorem dX7_layMoved_120 : decode cX7_layMoved 120 = .ok (.if_icmp .ge 7, 3) := by decide +kernel
theorem dX7_layMoved_123 : decode cX7_layMoved 123 = .ok (.iconst 1, 1) := by decide +kernel
theorem dX7_layMoved_124 : decode cX7_layMoved 124 = .ok (.goto 4, 3) := by decide +kernel
theorem dX7_layMoved_127 : decode cX7_layMoved 127 = .ok (.iconst 0, 1) := by decide +kernel
theorem dX7_layMoved_128 : decode cX7_layMoved 128 = .ok (.istore 9, 2) := by decide +kernel
theorem dX7_layMoved_130 : decode cX7_layMoved 130 = .ok (.iload 6, 2) := by decide +kernel
theorem dX7_layMoved_132 : decode cX7_layMoved 132 = .ok (.iload 9, 2) := by decide +kernel
theorem dX7_layMoved_134 : decode cX7_layMoved 134 = .ok (.ifCond .ne 7, 3) := by decide +kernel
theorem dX7_layMoved_137 : decode cX7_layMoved 137 = .ok (.iconst 0, 1) := by decide +kernel
theorem dX7_layMoved_138 : decode cX7_layMoved 138 = .ok (.goto 15, 3) := by decide +kernel
theorem dX7_layMoved_141 : decode cX7_layMoved 141 = .ok (.iload_n 3, 1) := by decide +kernel
theorem dX7_layMoved_142 : decode cX7_layMoved 142 = .ok (.ifCond .eq 9, 3) := by decide +kernel
theorem dX7_layMoved_145 : decode cX7_layMoved 145 = .ok (.iload 8, 2) := by decide +kernel
theorem dX7_layMoved_147 : decode cX7_layMoved 147 = .ok (.ineg, 1) := by decide +kernel
theorem dX7_layMoved_148 : decode cX7_layMoved 148 = .ok (.goto 5, 3) := by decide +kernel
theorem dX7_layMoved_151 : decode cX7_layMoved 151 = .ok (.iload 8, 2) := by decide +kernel
theorem dX7_layMoved_153 : decode cX7_layMoved 153 = .ok (.iadd, 1) := by decide +kernel
theorem dX7_layMoved_154 : decode cX7_layMoved 154 = .ok (.istore 6, 2) := by decide +kernel
theorem dX7_layMoved_156 : decode cX7_layMoved 156 = .ok (.iinc 7 1, 3) := by decide +kernel
theorem dX7_layMoved_159 : decode cX7_layMoved 159 = .ok (.goto (-120), 3) := by decide +kernel
theorem dX7_layMoved_162 : decode cX7_layMoved 162 = .ok (.aload_n 0, 1) := by decide +kernel
theorem dX7_layMoved_163 : decode cX7_layMoved 163 = .ok (.iload 6, 2) := by decide +kernel
theorem dX7_layMoved_165 : decode cX7_layMoved 165 = .ok (.invokevirtual 134, 3) := by decide +kernel
theorem dX7_layMoved_168 : decode cX7_layMoved 168 = .ok (.iconst 0, 1) := by decide +kernel
theorem dX7_layMoved_169 : decode cX7_layMoved 169 = .ok (.istore 7, 2) := by decide +kernel
theorem dX7_layMoved_171 : decode cX7_layMoved 171 = .ok (.iload 7, 2) := by decide +kernel
theorem dX7_layMoved_173 : decode cX7_layMoved 173 = .ok (.aload_n 0, 1) := by decide +kernel
theorem dX7_layMoved_174 : decode cX7_layMoved 174 = .ok (.getfield 34, 3) := by decide +kernel
theorem dX7_layMoved_177 : decode cX7_layMoved 177 = .ok (.bipush 10, 2) := by decide +kernel
theorem dX7_layMoved_179 : decode cX7_layMoved 179 = .ok (.iload_n 1, 1) := by decide +kernel
theorem dX7_layMoved_180 : decode cX7_layMoved 180 = .ok (.imul, 1) := by decide +kernel
theorem dX7_layMoved_181 : decode cX7_layMoved 181 = .ok (.iload 4, 2) := by decide +kernel
theorem dX7_layMoved_183 : decode cX7_layMoved 183 = .ok (.iadd, 1) := by decide +kernel
theorem dX7_layMoved_184 : decode cX7_layMoved 184 = .ok (.iaload, 1) := by decide +kernel
theorem dX7_layMoved_185 : decode cX7_layMoved 185 = .ok (.if_icmp .ge 28, 3) := by decide +kernel
theorem dX7_layMoved_188 : decode cX7_layMoved 188 = .ok (.aload_n 0, 1) := by decide +kernel
theorem dX7_layMoved_189 : decode cX7_layMoved 189 = .ok (.aload_n 0, 1) := by decide +kernel
theorem dX7_layMoved_190 : decode cX7_layMoved 190 = .ok (.getfield 40, 3) := by decide +kernel
theorem dX7_layMoved_193 : decode cX7_layMoved 193 = .ok (.aload_n 0, 1) := by decide +kernel
theorem dX7_layMoved_194 : decode cX7_layMoved 194 = .ok (.iload_n 1, 1) := by decide +kernel
theorem dX7_layMoved_195 : decode cX7_layMoved 195 = .ok (.iload 4, 2) := by decide +kernel
theorem dX7_layMoved_197 : decode cX7_layMoved 197 = .ok (.invokevirtual 168, 3) := by decide +kernel
theorem dX7_layMoved_200 : decode cX7_layMoved 200 = .ok (.iload 7, 2) := by decide +kernel
theorem dX7_layMoved_202 : decode cX7_layMoved 202 = .ok (.iadd, 1) := by decide +kernel
theorem dX7_layMoved_203 : decode cX7_layMoved 203 = .ok (.iaload, 1) := by decide +kernel
theorem dX7_layMoved_204 : decode cX7_layMoved 204 = .ok (.invokevirtual 138, 3) := by decide +kernel
theorem dX7_layMoved_207 : decode cX7_layMoved 207 = .ok (.iinc 7 1, 3) := by decide +kernel
theorem dX7_layMoved_210 : decode cX7_layMoved 210 = .ok (.goto (-39), 3) := by decide +kernel
theorem dX7_layMoved_213 : decode cX7_layMoved 213 = .ok (.iconst 0, 1) := by decide +kernel
theorem dX7_layMoved_214 : decode cX7_layMoved 214 = .ok (.istore 7, 2) := by decide +kernel
theorem dX7_layMoved_216 : decode cX7_layMoved 216 = .ok (.iload 7, 2) := by decide +kernel
theorem dX7_layMoved_218 : decode cX7_layMoved 218 = .ok (.aload_n 0, 1) := by decide +kernel
theorem dX7_layMoved_219 : decode cX7_layMoved 219 = .ok (.getfield 37, 3) := by decide +kernel
theorem dX7_layMoved_222 : decode cX7_layMoved 222 = .ok (.bipush 10, 2) := by decide +kernel
theorem dX7_layMoved_224 : decode cX7_layMoved 224 = .ok (.iload_n 1, 1) := by decide +kernel
theorem dX7_layMoved_225 : decode cX7_layMoved 225 = .ok (.imul, 1) := by decide +kernel
theorem dX7_layMoved_226 : decode cX7_layMoved 226 = .ok (.iload 4, 2) := by decide +kernel
theorem dX7_layMoved_228 : decode cX7_layMoved 228 = .ok (.iadd, 1) := by decide +kernel
theorem dX7_layMoved_229 : decode cX7_layMoved 229 = .ok (.iaload, 1) := by decide +kernel
theorem dX7_layMoved_230 : decode cX7_layMoved 230 = .ok (.if_icmp .ge 28, 3) := by decide +kernel
theorem dX7_layMoved_233 : decode cX7_layMoved 233 = .ok (.aload_n 0, 1) := by decide +kernel
theorem dX7_layMoved_234 : decode cX7_layMoved 234 = .ok (.aload_n 0, 1) := by decide +kernel
theorem dX7_layMoved_235 : decode cX7_layMoved 235 = .ok (.getfield 43, 3) := by decide +kernel
theorem dX7_layMoved_238 : decode cX7_layMoved 238 = .ok (.aload_n 0, 1) := by decide +kernel
theorem dX7_layMoved_239 : decode cX7_layMoved 239 = .ok (.iload_n 1, 1) := by decide +kernel
theorem dX7_layMoved_240 : decode cX7_layMoved 240 = .ok (.iload 4, 2) := by decide +kernel
theorem dX7_layMoved_242 : decode cX7_layMoved 242 = .ok (.invokevirtual 171, 3) := by decide +kernel
theorem dX7_layMoved_245 : decode cX7_layMoved 245 = .ok (.iload 7, 2) := by decide +kernel
theorem dX7_layMoved_247 : decode cX7_layMoved 247 = .ok (.iadd, 1) := by decide +kernel
theorem dX7_layMoved_248 : decode cX7_layMoved 248 = .ok (.iaload, 1) := by decide +kernel
theorem dX7_layMoved_249 : decode cX7_layMoved 249 = .ok (.invokevirtual 141, 3) := by decide +kernel
theorem dX7_layMoved_252 : decode cX7_layMoved 252 = .ok (.iinc 7 1, 3) := by decide +kernel
theorem dX7_layMoved_255 : decode cX7_layMoved 255 = .ok (.goto (-39), 3) := by decide +kernel
theorem dX7_layMoved_258 : decode cX7_layMoved 258 = .ok (.iinc 4 1, 3) := by decide +kernel
theorem dX7_layMoved_261 : decode cX7_layMoved 261 = .ok (.goto (-254), 3) := by decide +kernel
theorem dX7_layMoved_264 : decode cX7_layMoved 264 = .ok (.return_, 1) := by decide +kernel
theorem dX7_swap_0 : decode cX7_swap 0 = .ok (.aload_n 0, 1) := by decide +kernel
theorem dX7_swap_1 : decode cX7_swap 1 = .ok (.iload_n 1, 1) := by decide +kernel
theorem dX7_swap_2 : decode cX7_swap 2 = .ok (.invokevirtual 155, 3) := by decide +kernel
theorem dX7_swap_5 : decode cX7_swap 5 = .ok (.ifCond .eq 11, 3) := by decide +kernel
theorem dX7_swap_8 : decode cX7_swap 8 = .ok (.aload_n 0, 1) := by decide +kernel
theorem dX7_swap_9 : decode cX7_swap 9 = .ok (.iload_n 2, 1) := by decide +kernel
theorem dX7_swap_10 : decode cX7_swap 10 = .ok (.invokevirtual 155, 3) := by decide +kernel
theorem dX7_swap_13 : decode cX7_swap 13 = .ok (.ifCond .ne 6, 3) := by decide +kernel
theorem dX7_swap_16 : decode cX7_swap 16 = .ok (.bipush (-101), 2) := by decide +kernel
theorem dX7_swap_18 : decode cX7_swap 18 = .ok (.ireturn, 1) := by decide +kernel
theorem dX7_swap_19 : decode cX7_swap 19 = .ok (.iconst 0, 1) := by decide +kernel
theorem dX7_swap_20 : decode cX7_swap 20 = .ok (.istore_n 3, 1) := by decide +kernel
theorem dX7_swap_21 : decode cX7_swap 21 = .ok (.iload_n 3, 1) := by decide +kernel
theorem dX7_swap_22 : decode cX7_swap 22 = .ok (.aload_n 0, 1) := by decide +kernel
theorem dX7_swap_23 : decode cX7_swap 23 = .ok (.getfield 28, 3) := by decide +kernel
theorem dX7_swap_26 : decode cX7_swap 26 = .ok (.iload_n 1, 1) := by decide +kernel
theorem dX7_swap_27 : decode cX7_swap 27 = .ok (.iaload, 1) := by decide +kernel
theorem dX7_swap_28 : decode cX7_swap 28 = .ok (.if_icmp .ge 44, 3) := by decide +kernel
theorem dX7_swap_31 : decode cX7_swap 31 = .ok (.iconst 0, 1) := by decide +kernel
theorem dX7_swap_32 : decode cX7_swap 32 = .ok (.istore 4, 2) := by decide +kernel
theorem dX7_swap_34 : decode cX7_swap 34 = .ok (.iload 4, 2) := by decide +kernel
theorem dX7_swap_36 : decode cX7_swap 36 = .ok (.aload_n 0, 1) := by decide +kernel
theorem dX7_swap_37 : decode cX7_swap 37 = .ok (.getfield 28, 3) := by decide +kernel
theorem dX7_swap_40 : decode cX7_swap 40 = .ok (.iload_n 2, 1) := by decide +kernel
theorem dX7_swap_41 : decode cX7_swap 41 = .ok (.iaload, 1) := by decide +kernel
theorem dX7_swap_42 : decode cX7_swap 42 = .ok (.if_icmp .ge 24, 3) := by decide +kernel
theorem dX7_swap_45 : decode cX7_swap 45 = .ok (.aload_n 0, 1) := by decide +kernel
theorem dX7_swap_46 : decode cX7_swap 46 = .ok (.iload_n 1, 1) := by decide +kernel
theorem dX7_swap_47 : decode cX7_swap 47 = .ok (.iload_n 3, 1) := by decide +kernel
theorem dX7_swap_48 : decode cX7_swap 48 = .ok (.iload_n 2, 1) := by decide +kernel
theorem dX7_swap_49 : decode cX7_swap 49 = .ok (.iload 4, 2) := by decide +kernel
theorem dX7_swap_51 : decode cX7_swap 51 = .ok (.invokevirtual 226, 3) := by decide +kernel
theorem dX7_swap_54 : decode cX7_swap 54 = .ok (.ifCond .eq 6, 3) := by decide +kernel
theorem dX7_swap_57 : decode cX7_swap 57 = .ok (.bipush (-103), 2) := by decide +kernel
theorem dX7_swap_59 : decode cX7_swap 59 = .ok (.ireturn, 1) := by decide +kernel
theorem dX7_swap_60 : decode cX7_swap 60 = .ok (.iinc 4 1, 3) := by decide +kernel
theorem dX7_swap_63 : decode cX7_swap 63 = .ok (.goto (-29), 3) := by decide +kernel
theorem dX7_swap_66 : decode cX7_swap 66 = .ok (.iinc 3 1, 3) := by decide +kernel
theorem dX7_swap_69 : decode cX7_swap 69 = .ok (.goto (-48), 3) := by decide +kernel
theorem dX7_swap_72 : decode cX7_swap 72 = .ok (.aload_n 0, 1) := by decide +kernel
theorem dX7_swap_73 : decode cX7_swap 73 = .ok (.getfield 105, 3) := by decide +kernel
theorem dX7_swap_76 : decode cX7_swap 76 = .ok (.iconst 2, 1) := by decide +kernel
theorem dX7_swap_77 : decode cX7_swap 77 = .ok (.iadd, 1) := by decide +kernel
theorem dX7_swap_78 : decode cX7_swap 78 = .ok (.bipush 12, 2) := by decide +kernel
theorem dX7_swap_80 : decode cX7_swap 80 = .ok (.if_icmp .le 6, 3) := by decide +kernel
theorem dX7_swap_83 : decode cX7_swap 83 = .ok (.bipush (-104), 2) := by decide +kernel
theorem dX7_swap_85 : decode cX7_swap 85 = .ok (.ireturn, 1) := by decide +kernel
theorem dX7_swap_86 : decode cX7_swap 86 = .ok (.aload_n 0, 1) := by decide +kernel
theorem dX7_swap_87 : decode cX7_swap 87 = .ok (.iload_n 2, 1) := by decide +kernel
theorem dX7_swap_88 : decode cX7_swap 88 = .ok (.iload_n 1, 1) := by decide +kernel
theorem dX7_swap_89 : decode cX7_swap 89 = .ok (.iconst 1, 1) := by decide +kernel
theorem dX7_swap_90 : decode cX7_swap 90 = .ok (.invokevirtual 229, 3) := by decide +kernel
theorem dX7_swap_93 : decode cX7_swap 93 = .ok (.aload_n 0, 1) := by decide +kernel
theorem dX7_swap_94 : decode cX7_swap 94 = .ok (.invokevirtual 152, 3) := by decide +kernel
theorem dX7_swap_97 : decode cX7_swap 97 = .ok (.istore_n 3, 1) := by decide +kernel
theorem dX7_swap_98 : decode cX7_swap 98 = .ok (.aload_n 0, 1) := by decide +kernel
theorem dX7_swap_99 : decode cX7_swap 99 = .ok (.iload_n 1, 1) := by decide +kernel
theorem dX7_swap_100 : decode cX7_swap 100 = .ok (.iload_n 2, 1) := by decide +kernel
theorem dX7_swap_101 : decode cX7_swap 101 = .ok (.iconst 0, 1) := by decide +kernel
theorem dX7_swap_102 : decode cX7_swap 102 = .ok (.invokevirtual 229, 3) := by decide +kernel
theorem dX7_swap_105 : decode cX7_swap 105 = .ok (.aload_n 0, 1) := by decide +kernel
theorem dX7_swap_106 : decode cX7_swap 106 = .ok (.invokevirtual 152, 3) := by decide +kernel
theorem dX7_swap_109 : decode cX7_swap 109 = .ok (.pop, 1) := by decide +kernel
theorem dX7_swap_110 : decode cX7_swap 110 = .ok (.iload_n 3, 1) := by decide +kernel
theorem dX7_swap_111 : decode cX7_swap 111 = .ok (.ireturn, 1) := by decide +kernel
theorem dX7_layX_0 : decode cX7_layX 0 = .ok (.aload_n 0, 1) := by decide +kernel
theorem dX7_layX_1 : decode cX7_layX 1 = .ok (.iload_n 1, 1) := by decide +kernel
theorem dX7_layX_2 : decode cX7_layX 2 = .ok (.iload_n 2, 1) := by decide +kernel
theorem dX7_layX_3 : decode cX7_layX 3 = .ok (.invokevirtual 144, 3) := by decide +kernel
theorem dX7_layX_6 : decode cX7_layX 6 = .ok (.aload_n 0, 1) := by decide +kernel
theorem dX7_layX_7 : decode cX7_layX 7 = .ok (.aload_n 0, 1) := by decide +kernel
theorem dX7_layX_8 : decode cX7_layX 8 = .ok (.getfield 119, 3) := by decide +kernel
theorem dX7_layX_11 : decode cX7_layX 11 = .ok (.putfield 233, 3) := by decide +kernel
theorem dX7_layX_14 : decode cX7_layX 14 = .ok (.iconst 0, 1) := by decide +kernel
theorem dX7_layX_15 : decode cX7_layX 15 = .ok (.istore_n 3, 1) := by decide +kernel
theorem dX7_layX_16 : decode cX7_layX 16 = .ok (.iload_n 3, 1) := by decide +kernel
theorem dX7_layX_17 : decode cX7_layX 17 = .ok (.aload_n 0, 1) := by decide +kernel
theorem dX7_layX_18 : decode cX7_layX 18 = .ok (.getfield 119, 3) := by decide +kernel
theorem dX7_layX_21 : decode cX7_layX 21 = .ok (.if_icmp .ge 45, 3) := by decide +kernel
theorem dX7_layX_24 : decode cX7_layX 24 = .ok (.aload_n 0, 1) := by decide +kernel
theorem dX7_layX_25 : decode cX7_layX 25 = .ok (.getfield 70, 3) := by decide +kernel
theorem dX7_layX_28 : decode cX7_layX 28 = .ok (.iload_n 3, 1) := by decide +kernel
theorem dX7_layX_29 : decode cX7_layX 29 = .ok (.aload_n 0, 1) := by decide +kernel
theorem dX7_layX_30 : decode cX7_layX 30 = .ok (.getfield 46, 3) := by decide +kernel
theorem dX7_layX_33 : decode cX7_layX 33 = .ok (.iload_n 3, 1) := by decide +kernel
theorem dX7_layX_34 : decode cX7_layX 34 = .ok (.iaload, 1) := by decide +kernel
theorem dX7_layX_35 : decode cX7_layX 35 = .ok (.iastore, 1) := by decide +kernel
theorem dX7_layX_36 : decode cX7_layX 36 = .ok (.aload_n 0, 1) := by decide +kernel
theorem dX7_layX_37 : decode cX7_layX 37 = .ok (.getfield 73, 3) := by decide +kernel
theorem dX7_layX_40 : decode cX7_layX 40 = .ok (.iload_n 3, 1) := by decide +kernel
theorem dX7_layX_41 : decode cX7_layX 41 = .ok (.aload_n 0, 1) := by decide +kernel
theorem dX7_layX_42 : decode cX7_layX 42 = .ok (.getfield 49, 3) := by decide +kernel
theorem dX7_layX_45 : decode cX7_layX 45 = .ok (.iload_n 3, 1) := by decide +kernel
theorem dX7_layX_46 : decode cX7_layX 46 = .ok (.iaload, 1) := by decide +kernel
theorem dX7_layX_47 : decode cX7_layX 47 = .ok (.iastore, 1) := by decide +kernel
theorem dX7_layX_48 : decode cX7_layX 48 = .ok (.aload_n 0, 1) := by decide +kernel
theorem dX7_layX_49 : decode cX7_layX 49 = .ok (.getfield 76, 3) := by decide +kernel
theorem dX7_layX_52 : decode cX7_layX 52 = .ok (.iload_n 3, 1) := by decide +kernel
theorem dX7_layX_53 : decode cX7_layX 53 = .ok (.aload_n 0, 1) := by decide +kernel
theorem dX7_layX_54 : decode cX7_layX 54 = .ok (.getfield 52, 3) := by decide +kernel
theorem dX7_layX_57 : decode cX7_layX 57 = .ok (.iload_n 3, 1) := by decide +kernel
theorem dX7_layX_58 : decode cX7_layX 58 = .ok (.iaload, 1) := by decide +kernel
theorem dX7_layX_59 : decode cX7_layX 59 = .ok (.iastore, 1) := by decide +kernel
theorem dX7_layX_60 : decode cX7_layX 60 = .ok (.iinc 3 1, 3) := by decide +kernel
theorem dX7_layX_63 : decode cX7_layX 63 = .ok (.goto (-47), 3) := by decide +kernel
theorem dX7_layX_66 : decode cX7_layX 66 = .ok (.iconst 0, 1) := by decide +kernel
theorem dX7_layX_67 : decode cX7_layX 67 = .ok (.istore_n 3, 1) := by decide +kernel
theorem dX7_layX_68 : decode cX7_layX 68 = .ok (.iload_n 3, 1) := by decide +kernel
theorem dX7_layX_69 : decode cX7_layX 69 = .ok (.aload_n 0, 1) := by decide +kernel
theorem dX7_layX_70 : decode cX7_layX 70 = .ok (.getfield 125, 3) := by decide +kernel
theorem dX7_layX_73 : decode cX7_layX 73 = .ok (.if_icmp .ge 21, 3) := by decide +kernel
theorem dX7_layX_76 : decode cX7_layX 76 = .ok (.aload_n 0, 1) := by decide +kernel
theorem dX7_layX_77 : decode cX7_layX 77 = .ok (.getfield 79, 3) := by decide +kernel
theorem dX7_layX_80 : decode cX7_layX 80 = .ok (.iload_n 3, 1) := by decide +kernel
theorem dX7_layX_81 : decode cX7_layX 81 = .ok (.aload_n 0, 1) := by decide +kernel
theorem dX7_layX_82 : decode cX7_layX 82 = .ok (.getfield 58, 3) := by decide +kernel
theorem dX7_layX_85 : decode cX7_layX 85 = .ok (.iload_n 3, 1) := by decide +kernel
theorem dX7_layX_86 : decode cX7_layX 86 = .ok (.iaload, 1) := by decide +kernel
theorem dX7_layX_87 : decode cX7_layX 87 = .ok (.iastore, 1) := by decide +kernel
theorem dX7_layX_88 : decode cX7_layX 88 = .ok (.iinc 3 1, 3) := by decide +kernel
theorem dX7_layX_91 : decode cX7_layX 91 = .ok (.goto (-23), 3) := by decide +kernel
theorem dX7_layX_94 : decode cX7_layX 94 = .ok (.return_, 1) := by decide +kernel
theorem dX7_xFrom_0 : decode cX7_xFrom 0 = .ok (.iconst 0, 1) := by decide +kernel
theorem dX7_xFrom_1 : decode cX7_xFrom 1 = .ok (.istore_n 2, 1) := by decide +kernel
theorem dX7_xFrom_2 : decode cX7_xFrom 2 = .ok (.iconst 0, 1) := by decide +kernel
theorem dX7_xFrom_3 : decode cX7_xFrom 3 = .ok (.istore_n 3, 1) := by decide +kernel
theorem dX7_xFrom_4 : decode cX7_xFrom 4 = .ok (.iload_n 3, 1) := by decide +kernel
theorem dX7_xFrom_5 : decode cX7_xFrom 5 = .ok (.iload_n 1, 1) := by decide +kernel
theorem dX7_xFrom_6 : decode cX7_xFrom 6 = .ok (.if_icmp .ge 18, 3) := by decide +kernel
theorem dX7_xFrom_9 : decode cX7_xFrom 9 = .ok (.iload_n 2, 1) := by decide +kernel
theorem dX7_xFrom_10 : decode cX7_xFrom 10 = .ok (.aload_n 0, 1) := by decide +kernel
theorem dX7_xFrom_11 : decode cX7_xFrom 11 = .ok (.getfield 76, 3) := by decide +kernel
theorem dX7_xFrom_14 : decode cX7_xFrom 14 = .ok (.iload_n 3, 1) := by decide +kernel
theorem dX7_xFrom_15 : decode cX7_xFrom 15 = .ok (.iaload, 1) := by decide +kernel
theorem dX7_xFrom_16 : decode cX7_xFrom 16 = .ok (.iadd, 1) := by decide +kernel
theorem dX7_xFrom_17 : decode cX7_xFrom 17 = .ok (.istore_n 2, 1) := by decide +kernel
theorem dX7_xFrom_18 : decode cX7_xFrom 18 = .ok (.iinc 3 1, 3) := by decide +kernel
theorem dX7_xFrom_21 : decode cX7_xFrom 21 = .ok (.goto (-17), 3) := by decide +kernel
theorem dX7_xFrom_24 : decode cX7_xFrom 24 = .ok (.iload_n 2, 1) := by decide +kernel
theorem dX7_xFrom_25 : decode cX7_xFrom 25 = .ok (.ireturn, 1) := by decide +kernel
theorem dX7_workFrom_0 : decode cX7_workFrom 0 = .ok (.iconst 0, 1) := by decide +kernel
theorem dX7_workFrom_1 : decode cX7_workFrom 1 = .ok (.istore_n 2, 1) := by decide +kernel
theorem dX7_workFrom_2 : decode cX7_workFrom 2 = .ok (.iconst 0, 1) := by decide +kernel
theorem dX7_workFrom_3 : decode cX7_workFrom 3 = .ok (.istore_n 3, 1) := by decide +kernel
theorem dX7_workFrom_4 : decode cX7_workFrom 4 = .ok (.iload_n 3, 1) := by decide +kernel
theorem dX7_workFrom_5 : decode cX7_workFrom 5 = .ok (.iload_n 1, 1) := by decide +kernel
theorem dX7_workFrom_6 : decode cX7_workFrom 6 = .ok (.if_icmp .ge 18, 3) := by decide +kernel
theorem dX7_workFrom_9 : decode cX7_workFrom 9 = .ok (.iload_n 2, 1) := by decide +kernel
theorem dX7_workFrom_10 : decode cX7_workFrom 10 = .ok (.aload_n 0, 1) := by decide +kernel
theorem dX7_workFrom_11 : decode cX7_workFrom 11 = .ok (.getfield 52, 3) := by decide +kernel
theorem dX7_workFrom_14 : decode cX7_workFrom 14 = .ok (.iload_n 3, 1) := by decide +kernel
theorem dX7_workFrom_15 : decode cX7_workFrom 15 = .ok (.iaload, 1) := by decide +kernel
theorem dX7_workFrom_16 : decode cX7_workFrom 16 = .ok (.iadd, 1) := by decide +kernel
theorem dX7_workFrom_17 : decode cX7_workFrom 17 = .ok (.istore_n 2, 1) := by decide +kernel
theorem dX7_workFrom_18 : decode cX7_workFrom 18 = .ok (.iinc 3 1, 3) := by decide +kernel
theorem dX7_workFrom_21 : decode cX7_workFrom 21 = .ok (.goto (-17), 3) := by decide +kernel
theorem dX7_workFrom_24 : decode cX7_workFrom 24 = .ok (.iload_n 2, 1) := by decide +kernel
theorem dX7_workFrom_25 : decode cX7_workFrom 25 = .ok (.ireturn, 1) := by decide +kernel
theorem dX7_alike_0 : decode cX7_alike 0 = .ok (.aload_n 0, 1) := by decide +kernel
theorem dX7_alike_1 : decode cX7_alike 1 = .ok (.getfield 70, 3) := by decide +kernel
theorem dX7_alike_4 : decode cX7_alike 4 = .ok (.iload_n 1, 1) := by decide +kernel
theorem dX7_alike_5 : decode cX7_alike 5 = .ok (.iaload, 1) := by decide +kernel
theorem dX7_alike_6 : decode cX7_alike 6 = .ok (.aload_n 0, 1) := by decide +kernel
theorem dX7_alike_7 : decode cX7_alike 7 = .ok (.getfield 46, 3) := by decide +kernel
theorem dX7_alike_10 : decode cX7_alike 10 = .ok (.iload_n 2, 1) := by decide +kernel
theorem dX7_alike_11 : decode cX7_alike 11 = .ok (.iaload, 1) := by decide +kernel
theorem dX7_alike_12 : decode cX7_alike 12 = .ok (.if_icmp .ne 37, 3) := by decide +kernel
theorem dX7_alike_15 : decode cX7_alike 15 = .ok (.aload_n 0, 1) := by decide +kernel
theorem dX7_alike_16 : decode cX7_alike 16 = .ok (.getfield 73, 3) := by decide +kernel
theorem dX7_alike_19 : decode cX7_alike 19 = .ok (.iload_n 1, 1) := by decide +kernel
theorem dX7_alike_20 : decode cX7_alike 20 = .ok (.iaload, 1) := by decide +kernel
theorem dX7_alike_21 : decode cX7_alike 21 = .ok (.aload_n 0, 1) := by decide +kernel
theorem dX7_alike_22 : decode cX7_alike 22 = .ok (.getfield 49, 3) := by decide +kernel
theorem dX7_alike_25 : decode cX7_alike 25 = .ok (.iload_n 2, 1) := by decide +kernel
theorem dX7_alike_26 : decode cX7_alike 26 = .ok (.iaload, 1) := by decide +kernel
theorem dX7_alike_27 : decode cX7_alike 27 = .ok (.if_icmp .ne 22, 3) := by decide +kernel
theorem dX7_alike_30 : decode cX7_alike 30 = .ok (.aload_n 0, 1) := by decide +kernel
theorem dX7_alike_31 : decode cX7_alike 31 = .ok (.getfield 76, 3) := by decide +kernel
theorem dX7_alike_34 : decode cX7_alike 34 = .ok (.iload_n 1, 1) := by decide +kernel
theorem dX7_alike_35 : decode cX7_alike 35 = .ok (.iaload, 1) := by decide +kernel
theorem dX7_alike_36 : decode cX7_alike 36 = .ok (.aload_n 0, 1) := by decide +kernel
theorem dX7_alike_37 : decode cX7_alike 37 = .ok (.getfield 52, 3) := by decide +kernel
theorem dX7_alike_40 : decode cX7_alike 40 = .ok (.iload_n 2, 1) := by decide +kernel
theorem dX7_alike_41 : decode cX7_alike 41 = .ok (.iaload, 1) := by decide +kernel
theorem dX7_alike_42 : decode cX7_alike 42 = .ok (.if_icmp .ne 7, 3) := by decide +kernel
theorem dX7_alike_45 : decode cX7_alike 45 = .ok (.iconst 1, 1) := by decide +kernel
theorem dX7_alike_46 : decode cX7_alike 46 = .ok (.goto 4, 3) := by decide +kernel
theorem dX7_alike_49 : decode cX7_alike 49 = .ok (.iconst 0, 1) := by decide +kernel
theorem dX7_alike_50 : decode cX7_alike 50 = .ok (.istore_n 3, 1) := by decide +kernel
theorem dX7_alike_51 : decode cX7_alike 51 = .ok (.iconst 0, 1) := by decide +kernel
theorem dX7_alike_52 : decode cX7_alike 52 = .ok (.istore 4, 2) := by decide +kernel
theorem dX7_alike_54 : decode cX7_alike 54 = .ok (.iload 4, 2) := by decide +kernel
theorem dX7_alike_56 : decode cX7_alike 56 = .ok (.aload_n 0, 1) := by decide +kernel
theorem dX7_alike_57 : decode cX7_alike 57 = .ok (.getfield 76, 3) := by decide +kernel
theorem dX7_alike_60 : decode cX7_alike 60 = .ok (.iload_n 1, 1) := by decide +kernel
theorem dX7_alike_61 : decode cX7_alike 61 = .ok (.iaload, 1) := by decide +kernel
theorem dX7_alike_62 : decode cX7_alike 62 = .ok (.if_icmp .ge 48, 3) := by decide +kernel
theorem dX7_alike_65 : decode cX7_alike 65 = .ok (.iload_n 3, 1) := by decide +kernel
theorem dX7_alike_66 : decode cX7_alike 66 = .ok (.ifCond .eq 44, 3) := by decide +kernel
theorem dX7_alike_69 : decode cX7_alike 69 = .ok (.aload_n 0, 1) := by decide +kernel
theorem dX7_alike_70 : decode cX7_alike 70 = .ok (.getfield 79, 3) := by decide +kernel
theorem dX7_alike_73 : decode cX7_alike 73 = .ok (.aload_n 0, 1) := by decide +kernel
theorem dX7_alike_74 : decode cX7_alike 74 = .ok (.iload_n 1, 1) := by decide +kernel
theorem dX7_alike_75 : decode cX7_alike 75 = .ok (.invokevirtual 236, 3) := by decide +kernel
theorem dX7_alike_78 : decode cX7_alike 78 = .ok (.iload 4, 2) := by decide +kernel
theorem dX7_alike_80 : decode cX7_alike 80 = .ok (.iadd, 1) := by decide +kernel
theorem dX7_alike_81 : decode cX7_alike 81 = .ok (.iaload, 1) := by decide +kernel
theorem dX7_alike_82 : decode cX7_alike 82 = .ok (.aload_n 0, 1) := by decide +kernel
theorem dX7_alike_83 : decode cX7_alike 83 = .ok (.getfield 58, 3) := by decide +kernel
theorem dX7_alike_86 : decode cX7_alike 86 = .ok (.aload_n 0, 1) := by decide +kernel
theorem dX7_alike_87 : decode cX7_alike 87 = .ok (.iload_n 2, 1) := by decide +kernel
theorem dX7_alike_88 : decode cX7_alike 88 = .ok (.invokevirtual 239, 3) := by decide +kernel
theorem dX7_alike_91 : decode cX7_alike 91 = .ok (.iload 4, 2) := by decide +kernel
theorem dX7_alike_93 : decode cX7_alike 93 = .ok (.iadd, 1) := by decide +kernel
theorem dX7_alike_94 : decode cX7_alike 94 = .ok (.iaload, 1) := by decide +kernel
theorem dX7_alike_95 : decode cX7_alike 95 = .ok (.if_icmp .ne 7, 3) := by decide +kernel
theorem dX7_alike_98 : decode cX7_alike 98 = .ok (.iconst 1, 1) := by decide +kernel
theorem dX7_alike_99 : decode cX7_alike 99 = .ok (.goto 4, 3) := by decide +kernel
theorem dX7_alike_102 : decode cX7_alike 102 = .ok (.iconst 0, 1) := by decide +kernel
theorem dX7_alike_103 : decode cX7_alike 103 = .ok (.istore_n 3, 1) := by decide +kernel
theorem dX7_alike_104 : decode cX7_alike 104 = .ok (.iinc 4 1, 3) := by decide +kernel
theorem dX7_alike_107 : decode cX7_alike 107 = .ok (.goto (-53), 3) := by decide +kernel
theorem dX7_alike_110 : decode cX7_alike 110 = .ok (.iload_n 3, 1) := by decide +kernel
theorem dX7_alike_111 : decode cX7_alike 111 = .ok (.ireturn, 1) := by decide +kernel
theorem dX7_clashes_0 : decode cX7_clashes 0 = .ok (.iconst 0, 1) := by decide +kernel
theorem dX7_clashes_1 : decode cX7_clashes 1 = .ok (.istore_n 2, 1) := by decide +kernel
theorem dX7_clashes_2 : decode cX7_clashes 2 = .ok (.iload_n 2, 1) := by decide +kernel
theorem dX7_clashes_3 : decode cX7_clashes 3 = .ok (.aload_n 0, 1) := by decide +kernel
theorem dX7_clashes_4 : decode cX7_clashes 4 = .ok (.getfield 119, 3) := by decide +kernel
theorem dX7_clashes_7 : decode cX7_clashes 7 = .ok (.if_icmp .ge 74, 3) := by decide +kernel
theorem dX7_clashes_10 : decode cX7_clashes 10 = .ok (.aload_n 0, 1) := by decide +kernel
theorem dX7_clashes_11 : decode cX7_clashes 11 = .ok (.getfield 70, 3) := by decide +kernel
theorem dX7_clashes_14 : decode cX7_clashes 14 = .ok (.iload_n 1, 1) := by decide +kernel
theorem dX7_clashes_15 : decode cX7_clashes 15 = .ok (.iaload, 1) := by decide +kernel
theorem dX7_clashes_16 : decode cX7_clashes 16 = .ok (.aload_n 0, 1) := by decide +kernel
theorem dX7_clashes_17 : decode cX7_clashes 17 = .ok (.getfield 46, 3) := by decide +kernel
theorem dX7_clashes_20 : decode cX7_clashes 20 = .ok (.iload_n 2, 1) := by decide +kernel
theorem dX7_clashes_21 : decode cX7_clashes 21 = .ok (.iaload, 1) := by decide +kernel
theorem dX7_clashes_22 : decode cX7_clashes 22 = .ok (.aload_n 0, 1) := by decide +kernel
theorem dX7_clashes_23 : decode cX7_clashes 23 = .ok (.getfield 49, 3) := by decide +kernel
theorem dX7_clashes_26 : decode cX7_clashes 26 = .ok (.iload_n 2, 1) := by decide +kernel
theorem dX7_clashes_27 : decode cX7_clashes 27 = .ok (.iaload, 1) := by decide +kernel
theorem dX7_clashes_28 : decode cX7_clashes 28 = .ok (.iadd, 1) := by decide +kernel
theorem dX7_clashes_29 : decode cX7_clashes 29 = .ok (.if_icmp .gt 29, 3) := by decide +kernel
theorem dX7_clashes_32 : decode cX7_clashes 32 = .ok (.aload_n 0, 1) := by decide +kernel
theorem dX7_clashes_33 : decode cX7_clashes 33 = .ok (.getfield 46, 3) := by decide +kernel
theorem dX7_clashes_36 : decode cX7_clashes 36 = .ok (.iload_n 2, 1) := by decide +kernel
theorem dX7_clashes_37 : decode cX7_clashes 37 = .ok (.iaload, 1) := by decide +kernel
theorem dX7_clashes_38 : decode cX7_clashes 38 = .ok (.aload_n 0, 1) := by decide +kernel
theorem dX7_clashes_39 : decode cX7_clashes 39 = .ok (.getfield 70, 3) := by decide +kernel
theorem dX7_clashes_42 : decode cX7_clashes 42 = .ok (.iload_n 1, 1) := by decide +kernel
theorem dX7_clashes_43 : decode cX7_clashes 43 = .ok (.iaload, 1) := by decide +kernel
theorem dX7_clashes_44 : decode cX7_clashes 44 = .ok (.aload_n 0, 1) := by decide +kernel
theorem dX7_clashes_45 : decode cX7_clashes 45 = .ok (.getfield 73, 3) := by decide +kernel
theorem dX7_clashes_48 : decode cX7_clashes 48 = .ok (.iload_n 1, 1) := by decide +kernel
theorem dX7_clashes_49 : decode cX7_clashes 49 = .ok (.iaload, 1) := by decide +kernel
theorem dX7_clashes_50 : decode cX7_clashes 50 = .ok (.iadd, 1) := by decide +kernel
theorem dX7_clashes_51 : decode cX7_clashes 51 = .ok (.if_icmp .gt 7, 3) := by decide +kernel
theorem dX7_clashes_54 : decode cX7_clashes 54 = .ok (.iconst 1, 1) := by decide +kernel
theorem dX7_clashes_55 : decode cX7_clashes 55 = .ok (.goto 4, 3) := by decide +kernel
theorem dX7_clashes_58 : decode cX7_clashes 58 = .ok (.iconst 0, 1) := by decide +kernel
theorem dX7_clashes_59 : decode cX7_clashes 59 = .ok (.istore_n 3, 1) := by decide +kernel
theorem dX7_clashes_60 : decode cX7_clashes 60 = .ok (.iload_n 3, 1) := by decide +kernel
theorem dX7_clashes_61 : decode cX7_clashes 61 = .ok (.ifCond .eq 14, 3) := by decide +kernel
theorem dX7_clashes_64 : decode cX7_clashes 64 = .ok (.aload_n 0, 1) := by decide +kernel
theorem dX7_clashes_65 : decode cX7_clashes 65 = .ok (.iload_n 1, 1) := by decide +kernel
theorem dX7_clashes_66 : decode cX7_clashes 66 = .ok (.iload_n 2, 1) := by decide +kernel
theorem dX7_clashes_67 : decode cX7_clashes 67 = .ok (.invokevirtual 242, 3) := by decide +kernel
