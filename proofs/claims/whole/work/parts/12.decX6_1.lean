theorem dX6_clashes_55 : decode cX6_clashes 55 = .ok (.ifCond .ne 6, 3) := by decide +kernel
theorem dX6_clashes_58 : decode cX6_clashes 58 = .ok (.iinc 1 1, 3) := by decide +kernel
theorem dX6_clashes_61 : decode cX6_clashes 61 = .ok (.iinc 2 1, 3) := by decide +kernel
theorem dX6_clashes_64 : decode cX6_clashes 64 = .ok (.goto (-60), 3) := by decide +kernel
theorem dX6_clashes_67 : decode cX6_clashes 67 = .ok (.iload_n 1, 1) := by decide +kernel
theorem dX6_clashes_68 : decode cX6_clashes 68 = .ok (.ireturn, 1) := by decide +kernel
theorem dX6_uniteBothDifferences_0 : decode cX6_uniteBothDifferences 0 = .ok (.iconst 0, 1) := by decide +kernel
theorem dX6_uniteBothDifferences_1 : decode cX6_uniteBothDifferences 1 = .ok (.istore_n 1, 1) := by decide +kernel
theorem dX6_uniteBothDifferences_2 : decode cX6_uniteBothDifferences 2 = .ok (.iconst 0, 1) := by decide +kernel
theorem dX6_uniteBothDifferences_3 : decode cX6_uniteBothDifferences 3 = .ok (.istore_n 2, 1) := by decide +kernel
theorem dX6_uniteBothDifferences_4 : decode cX6_uniteBothDifferences 4 = .ok (.aload_n 0, 1) := by decide +kernel
theorem dX6_uniteBothDifferences_5 : decode cX6_uniteBothDifferences 5 = .ok (.getfield 54, 3) := by decide +kernel
theorem dX6_uniteBothDifferences_8 : decode cX6_uniteBothDifferences 8 = .ok (.invokevirtual 347, 3) := by decide +kernel
theorem dX6_uniteBothDifferences_11 : decode cX6_uniteBothDifferences 11 = .ok (.iconst 0, 1) := by decide +kernel
theorem dX6_uniteBothDifferences_12 : decode cX6_uniteBothDifferences 12 = .ok (.istore_n 3, 1) := by decide +kernel
theorem dX6_uniteBothDifferences_13 : decode cX6_uniteBothDifferences 13 = .ok (.iload_n 3, 1) := by decide +kernel
theorem dX6_uniteBothDifferences_14 : decode cX6_uniteBothDifferences 14 = .ok (.bipush 20, 2) := by decide +kernel
theorem dX6_uniteBothDifferences_16 : decode cX6_uniteBothDifferences 16 = .ok (.if_icmp .ge 172, 3) := by decide +kernel
theorem dX6_uniteBothDifferences_19 : decode cX6_uniteBothDifferences 19 = .ok (.iload_n 1, 1) := by decide +kernel
theorem dX6_uniteBothDifferences_20 : decode cX6_uniteBothDifferences 20 = .ok (.aload_n 0, 1) := by decide +kernel
theorem dX6_uniteBothDifferences_21 : decode cX6_uniteBothDifferences 21 = .ok (.getfield 47, 3) := by decide +kernel
theorem dX6_uniteBothDifferences_24 : decode cX6_uniteBothDifferences 24 = .ok (.invokevirtual 170, 3) := by decide +kernel
theorem dX6_uniteBothDifferences_27 : decode cX6_uniteBothDifferences 27 = .ok (.if_icmp .ge 7, 3) := by decide +kernel
theorem dX6_uniteBothDifferences_30 : decode cX6_uniteBothDifferences 30 = .ok (.iconst 1, 1) := by decide +kernel
theorem dX6_uniteBothDifferences_31 : decode cX6_uniteBothDifferences 31 = .ok (.goto 4, 3) := by decide +kernel
theorem dX6_uniteBothDifferences_34 : decode cX6_uniteBothDifferences 34 = .ok (.iconst 0, 1) := by decide +kernel
theorem dX6_uniteBothDifferences_35 : decode cX6_uniteBothDifferences 35 = .ok (.istore 4, 2) := by decide +kernel
theorem dX6_uniteBothDifferences_37 : decode cX6_uniteBothDifferences 37 = .ok (.iload_n 2, 1) := by decide +kernel
theorem dX6_uniteBothDifferences_38 : decode cX6_uniteBothDifferences 38 = .ok (.aload_n 0, 1) := by decide +kernel
theorem dX6_uniteBothDifferences_39 : decode cX6_uniteBothDifferences 39 = .ok (.getfield 51, 3) := by decide +kernel
theorem dX6_uniteBothDifferences_42 : decode cX6_uniteBothDifferences 42 = .ok (.invokevirtual 170, 3) := by decide +kernel
theorem dX6_uniteBothDifferences_45 : decode cX6_uniteBothDifferences 45 = .ok (.if_icmp .ge 7, 3) := by decide +kernel
theorem dX6_uniteBothDifferences_48 : decode cX6_uniteBothDifferences 48 = .ok (.iconst 1, 1) := by decide +kernel
theorem dX6_uniteBothDifferences_49 : decode cX6_uniteBothDifferences 49 = .ok (.goto 4, 3) := by decide +kernel
theorem dX6_uniteBothDifferences_52 : decode cX6_uniteBothDifferences 52 = .ok (.iconst 0, 1) := by decide +kernel
theorem dX6_uniteBothDifferences_53 : decode cX6_uniteBothDifferences 53 = .ok (.istore 5, 2) := by decide +kernel
theorem dX6_uniteBothDifferences_55 : decode cX6_uniteBothDifferences 55 = .ok (.iload 4, 2) := by decide +kernel
theorem dX6_uniteBothDifferences_57 : decode cX6_uniteBothDifferences 57 = .ok (.ifCond .eq 97, 3) := by decide +kernel
theorem dX6_uniteBothDifferences_60 : decode cX6_uniteBothDifferences 60 = .ok (.iload 5, 2) := by decide +kernel
theorem dX6_uniteBothDifferences_62 : decode cX6_uniteBothDifferences 62 = .ok (.ifCond .eq 22, 3) := by decide +kernel
theorem dX6_uniteBothDifferences_65 : decode cX6_uniteBothDifferences 65 = .ok (.aload_n 0, 1) := by decide +kernel
theorem dX6_uniteBothDifferences_66 : decode cX6_uniteBothDifferences 66 = .ok (.getfield 47, 3) := by decide +kernel
theorem dX6_uniteBothDifferences_69 : decode cX6_uniteBothDifferences 69 = .ok (.iload_n 1, 1) := by decide +kernel
theorem dX6_uniteBothDifferences_70 : decode cX6_uniteBothDifferences 70 = .ok (.invokevirtual 188, 3) := by decide +kernel
theorem dX6_uniteBothDifferences_73 : decode cX6_uniteBothDifferences 73 = .ok (.aload_n 0, 1) := by decide +kernel
theorem dX6_uniteBothDifferences_74 : decode cX6_uniteBothDifferences 74 = .ok (.getfield 51, 3) := by decide +kernel
theorem dX6_uniteBothDifferences_77 : decode cX6_uniteBothDifferences 77 = .ok (.iload_n 2, 1) := by decide +kernel
theorem dX6_uniteBothDifferences_78 : decode cX6_uniteBothDifferences 78 = .ok (.invokevirtual 188, 3) := by decide +kernel
theorem dX6_uniteBothDifferences_81 : decode cX6_uniteBothDifferences 81 = .ok (.if_icmp .gt 73, 3) := by decide +kernel
theorem dX6_uniteBothDifferences_84 : decode cX6_uniteBothDifferences 84 = .ok (.iload 5, 2) := by decide +kernel
theorem dX6_uniteBothDifferences_86 : decode cX6_uniteBothDifferences 86 = .ok (.ifCond .eq 26, 3) := by decide +kernel
theorem dX6_uniteBothDifferences_89 : decode cX6_uniteBothDifferences 89 = .ok (.aload_n 0, 1) := by decide +kernel
theorem dX6_uniteBothDifferences_90 : decode cX6_uniteBothDifferences 90 = .ok (.getfield 47, 3) := by decide +kernel
theorem dX6_uniteBothDifferences_93 : decode cX6_uniteBothDifferences 93 = .ok (.iload_n 1, 1) := by decide +kernel
theorem dX6_uniteBothDifferences_94 : decode cX6_uniteBothDifferences 94 = .ok (.invokevirtual 188, 3) := by decide +kernel
theorem dX6_uniteBothDifferences_97 : decode cX6_uniteBothDifferences 97 = .ok (.aload_n 0, 1) := by decide +kernel
theorem dX6_uniteBothDifferences_98 : decode cX6_uniteBothDifferences 98 = .ok (.getfield 51, 3) := by decide +kernel
theorem dX6_uniteBothDifferences_101 : decode cX6_uniteBothDifferences 101 = .ok (.iload_n 2, 1) := by decide +kernel
theorem dX6_uniteBothDifferences_102 : decode cX6_uniteBothDifferences 102 = .ok (.invokevirtual 188, 3) := by decide +kernel
theorem dX6_uniteBothDifferences_105 : decode cX6_uniteBothDifferences 105 = .ok (.if_icmp .ne 7, 3) := by decide +kernel
theorem dX6_uniteBothDifferences_108 : decode cX6_uniteBothDifferences 108 = .ok (.iconst 1, 1) := by decide +kernel
theorem dX6_uniteBothDifferences_109 : decode cX6_uniteBothDifferences 109 = .ok (.goto 4, 3) := by decide +kernel
theorem dX6_uniteBothDifferences_112 : decode cX6_uniteBothDifferences 112 = .ok (.iconst 0, 1) := by decide +kernel
theorem dX6_uniteBothDifferences_113 : decode cX6_uniteBothDifferences 113 = .ok (.istore 6, 2) := by decide +kernel
theorem dX6_uniteBothDifferences_115 : decode cX6_uniteBothDifferences 115 = .ok (.aload_n 0, 1) := by decide +kernel
theorem dX6_uniteBothDifferences_116 : decode cX6_uniteBothDifferences 116 = .ok (.getfield 54, 3) := by decide +kernel
theorem dX6_uniteBothDifferences_119 : decode cX6_uniteBothDifferences 119 = .ok (.aload_n 0, 1) := by decide +kernel
theorem dX6_uniteBothDifferences_120 : decode cX6_uniteBothDifferences 120 = .ok (.getfield 47, 3) := by decide +kernel
theorem dX6_uniteBothDifferences_123 : decode cX6_uniteBothDifferences 123 = .ok (.iload_n 1, 1) := by decide +kernel
theorem dX6_uniteBothDifferences_124 : decode cX6_uniteBothDifferences 124 = .ok (.aload_n 0, 1) := by decide +kernel
theorem dX6_uniteBothDifferences_125 : decode cX6_uniteBothDifferences 125 = .ok (.getfield 47, 3) := by decide +kernel
theorem dX6_uniteBothDifferences_128 : decode cX6_uniteBothDifferences 128 = .ok (.iload_n 1, 1) := by decide +kernel
theorem dX6_uniteBothDifferences_129 : decode cX6_uniteBothDifferences 129 = .ok (.invokevirtual 188, 3) := by decide +kernel
theorem dX6_uniteBothDifferences_132 : decode cX6_uniteBothDifferences 132 = .ok (.invokevirtual 348, 3) := by decide +kernel
theorem dX6_uniteBothDifferences_135 : decode cX6_uniteBothDifferences 135 = .ok (.iinc 1 1, 3) := by decide +kernel
theorem dX6_uniteBothDifferences_138 : decode cX6_uniteBothDifferences 138 = .ok (.iload_n 2, 1) := by decide +kernel
theorem dX6_uniteBothDifferences_139 : decode cX6_uniteBothDifferences 139 = .ok (.iload 6, 2) := by decide +kernel
theorem dX6_uniteBothDifferences_141 : decode cX6_uniteBothDifferences 141 = .ok (.ifCond .eq 7, 3) := by decide +kernel
theorem dX6_uniteBothDifferences_144 : decode cX6_uniteBothDifferences 144 = .ok (.iconst 1, 1) := by decide +kernel
theorem dX6_uniteBothDifferences_145 : decode cX6_uniteBothDifferences 145 = .ok (.goto 4, 3) := by decide +kernel
theorem dX6_uniteBothDifferences_148 : decode cX6_uniteBothDifferences 148 = .ok (.iconst 0, 1) := by decide +kernel
theorem dX6_uniteBothDifferences_149 : decode cX6_uniteBothDifferences 149 = .ok (.iadd, 1) := by decide +kernel
theorem dX6_uniteBothDifferences_150 : decode cX6_uniteBothDifferences 150 = .ok (.istore_n 2, 1) := by decide +kernel
theorem dX6_uniteBothDifferences_151 : decode cX6_uniteBothDifferences 151 = .ok (.goto 31, 3) := by decide +kernel
theorem dX6_uniteBothDifferences_154 : decode cX6_uniteBothDifferences 154 = .ok (.iload 5, 2) := by decide +kernel
theorem dX6_uniteBothDifferences_156 : decode cX6_uniteBothDifferences 156 = .ok (.ifCond .eq 26, 3) := by decide +kernel
theorem dX6_uniteBothDifferences_159 : decode cX6_uniteBothDifferences 159 = .ok (.aload_n 0, 1) := by decide +kernel
theorem dX6_uniteBothDifferences_160 : decode cX6_uniteBothDifferences 160 = .ok (.getfield 54, 3) := by decide +kernel
theorem dX6_uniteBothDifferences_163 : decode cX6_uniteBothDifferences 163 = .ok (.aload_n 0, 1) := by decide +kernel
theorem dX6_uniteBothDifferences_164 : decode cX6_uniteBothDifferences 164 = .ok (.getfield 51, 3) := by decide +kernel
theorem dX6_uniteBothDifferences_167 : decode cX6_uniteBothDifferences 167 = .ok (.iload_n 2, 1) := by decide +kernel
theorem dX6_uniteBothDifferences_168 : decode cX6_uniteBothDifferences 168 = .ok (.aload_n 0, 1) := by decide +kernel
theorem dX6_uniteBothDifferences_169 : decode cX6_uniteBothDifferences 169 = .ok (.getfield 51, 3) := by decide +kernel
theorem dX6_uniteBothDifferences_172 : decode cX6_uniteBothDifferences 172 = .ok (.iload_n 2, 1) := by decide +kernel
theorem dX6_uniteBothDifferences_173 : decode cX6_uniteBothDifferences 173 = .ok (.invokevirtual 188, 3) := by decide +kernel
theorem dX6_uniteBothDifferences_176 : decode cX6_uniteBothDifferences 176 = .ok (.invokevirtual 348, 3) := by decide +kernel
theorem dX6_uniteBothDifferences_179 : decode cX6_uniteBothDifferences 179 = .ok (.iinc 2 1, 3) := by decide +kernel
theorem dX6_uniteBothDifferences_182 : decode cX6_uniteBothDifferences 182 = .ok (.iinc 3 1, 3) := by decide +kernel
theorem dX6_uniteBothDifferences_185 : decode cX6_uniteBothDifferences 185 = .ok (.goto (-172), 3) := by decide +kernel
theorem dX6_uniteBothDifferences_188 : decode cX6_uniteBothDifferences 188 = .ok (.return_, 1) := by decide +kernel
theorem dX6_findStore_0 : decode cX6_findStore 0 = .ok (.aload_n 0, 1) := by decide +kernel
theorem dX6_findStore_1 : decode cX6_findStore 1 = .ok (.dup, 1) := by decide +kernel
theorem dX6_findStore_2 : decode cX6_findStore 2 = .ok (.getfield 257, 3) := by decide +kernel
theorem dX6_findStore_5 : decode cX6_findStore 5 = .ok (.iconst 1, 1) := by decide +kernel
theorem dX6_findStore_6 : decode cX6_findStore 6 = .ok (.iadd, 1) := by decide +kernel
theorem dX6_findStore_7 : decode cX6_findStore 7 = .ok (.putfield 257, 3) := by decide +kernel
theorem dX6_findStore_10 : decode cX6_findStore 10 = .ok (.aload_n 0, 1) := by decide +kernel
theorem dX6_findStore_11 : decode cX6_findStore 11 = .ok (.getfield 67, 3) := by decide +kernel
theorem dX6_findStore_14 : decode cX6_findStore 14 = .ok (.iload_n 1, 1) := by decide +kernel
theorem dX6_findStore_15 : decode cX6_findStore 15 = .ok (.iload_n 2, 1) := by decide +kernel
theorem dX6_findStore_16 : decode cX6_findStore 16 = .ok (.invokevirtual 352, 3) := by decide +kernel
theorem dX6_findStore_19 : decode cX6_findStore 19 = .ok (.iconst 0, 1) := by decide +kernel
theorem dX6_findStore_20 : decode cX6_findStore 20 = .ok (.istore_n 3, 1) := by decide +kernel
theorem dX6_findStore_21 : decode cX6_findStore 21 = .ok (.iload_n 3, 1) := by decide +kernel
theorem dX6_findStore_22 : decode cX6_findStore 22 = .ok (.iload_n 1, 1) := by decide +kernel
theorem dX6_findStore_23 : decode cX6_findStore 23 = .ok (.if_icmp .ge 74, 3) := by decide +kernel
theorem dX6_findStore_26 : decode cX6_findStore 26 = .ok (.aload_n 0, 1) := by decide +kernel
theorem dX6_findStore_27 : decode cX6_findStore 27 = .ok (.iload_n 3, 1) := by decide +kernel
theorem dX6_findStore_28 : decode cX6_findStore 28 = .ok (.invokevirtual 92, 3) := by decide +kernel
theorem dX6_findStore_31 : decode cX6_findStore 31 = .ok (.astore 4, 2) := by decide +kernel
theorem dX6_findStore_33 : decode cX6_findStore 33 = .ok (.aload 4, 2) := by decide +kernel
theorem dX6_findStore_35 : decode cX6_findStore 35 = .ok (.ifnull 24, 3) := by decide +kernel
theorem dX6_findStore_38 : decode cX6_findStore 38 = .ok (.aload_n 0, 1) := by decide +kernel
theorem dX6_findStore_39 : decode cX6_findStore 39 = .ok (.getfield 67, 3) := by decide +kernel
theorem dX6_findStore_42 : decode cX6_findStore 42 = .ok (.iload_n 3, 1) := by decide +kernel
theorem dX6_findStore_43 : decode cX6_findStore 43 = .ok (.aload 4, 2) := by decide +kernel
theorem dX6_findStore_45 : decode cX6_findStore 45 = .ok (.getfield 96, 3) := by decide +kernel
theorem dX6_findStore_48 : decode cX6_findStore 48 = .ok (.invokevirtual 127, 3) := by decide +kernel
theorem dX6_findStore_51 : decode cX6_findStore 51 = .ok (.aload 4, 2) := by decide +kernel
theorem dX6_findStore_53 : decode cX6_findStore 53 = .ok (.getfield 124, 3) := by decide +kernel
theorem dX6_findStore_56 : decode cX6_findStore 56 = .ok (.invokevirtual 354, 3) := by decide +kernel
theorem dX6_findStore_59 : decode cX6_findStore 59 = .ok (.iconst 0, 1) := by decide +kernel
theorem dX6_findStore_60 : decode cX6_findStore 60 = .ok (.istore 5, 2) := by decide +kernel
theorem dX6_findStore_62 : decode cX6_findStore 62 = .ok (.iload 5, 2) := by decide +kernel
theorem dX6_findStore_64 : decode cX6_findStore 64 = .ok (.iload_n 1, 1) := by decide +kernel
theorem dX6_findStore_65 : decode cX6_findStore 65 = .ok (.if_icmp .ge 26, 3) := by decide +kernel
theorem dX6_findStore_68 : decode cX6_findStore 68 = .ok (.aload_n 0, 1) := by decide +kernel
theorem dX6_findStore_69 : decode cX6_findStore 69 = .ok (.getfield 67, 3) := by decide +kernel
theorem dX6_findStore_72 : decode cX6_findStore 72 = .ok (.iload_n 3, 1) := by decide +kernel
theorem dX6_findStore_73 : decode cX6_findStore 73 = .ok (.iload 5, 2) := by decide +kernel
theorem dX6_findStore_75 : decode cX6_findStore 75 = .ok (.aload_n 0, 1) := by decide +kernel
theorem dX6_findStore_76 : decode cX6_findStore 76 = .ok (.iload 5, 2) := by decide +kernel
theorem dX6_findStore_78 : decode cX6_findStore 78 = .ok (.iload_n 3, 1) := by decide +kernel
theorem dX6_findStore_79 : decode cX6_findStore 79 = .ok (.invokevirtual 304, 3) := by decide +kernel
theorem dX6_findStore_82 : decode cX6_findStore 82 = .ok (.invokevirtual 357, 3) := by decide +kernel
theorem dX6_findStore_85 : decode cX6_findStore 85 = .ok (.iinc 5 1, 3) := by decide +kernel
theorem dX6_findStore_88 : decode cX6_findStore 88 = .ok (.goto (-26), 3) := by decide +kernel
theorem dX6_findStore_91 : decode cX6_findStore 91 = .ok (.iinc 3 1, 3) := by decide +kernel
theorem dX6_findStore_94 : decode cX6_findStore 94 = .ok (.goto (-73), 3) := by decide +kernel
theorem dX6_findStore_97 : decode cX6_findStore 97 = .ok (.aload_n 0, 1) := by decide +kernel
theorem dX6_findStore_98 : decode cX6_findStore 98 = .ok (.getfield 67, 3) := by decide +kernel
theorem dX6_findStore_101 : decode cX6_findStore 101 = .ok (.invokevirtual 360, 3) := by decide +kernel
theorem dX6_findStore_104 : decode cX6_findStore 104 = .ok (.return_, 1) := by decide +kernel
