theorem dX7_init_0 : decode cX7_init 0 = .ok (.aload_n 0, 1) := by decide +kernel
theorem dX7_init_1 : decode cX7_init 1 = .ok (.invokespecial 1, 3) := by decide +kernel
theorem dX7_init_4 : decode cX7_init 4 = .ok (.aload_n 0, 1) := by decide +kernel
theorem dX7_init_5 : decode cX7_init 5 = .ok (.bipush 48, 2) := by decide +kernel
theorem dX7_init_7 : decode cX7_init 7 = .ok (.newarray .int, 2) := by decide +kernel
theorem dX7_init_9 : decode cX7_init 9 = .ok (.putfield 7, 3) := by decide +kernel
theorem dX7_init_12 : decode cX7_init 12 = .ok (.aload_n 0, 1) := by decide +kernel
theorem dX7_init_13 : decode cX7_init 13 = .ok (.bipush 10, 2) := by decide +kernel
theorem dX7_init_15 : decode cX7_init 15 = .ok (.newarray .int, 2) := by decide +kernel
theorem dX7_init_17 : decode cX7_init 17 = .ok (.putfield 13, 3) := by decide +kernel
theorem dX7_init_20 : decode cX7_init 20 = .ok (.aload_n 0, 1) := by decide +kernel
theorem dX7_init_21 : decode cX7_init 21 = .ok (.sipush 140, 3) := by decide +kernel
theorem dX7_init_24 : decode cX7_init 24 = .ok (.newarray .int, 2) := by decide +kernel
theorem dX7_init_26 : decode cX7_init 26 = .ok (.putfield 16, 3) := by decide +kernel
theorem dX7_init_29 : decode cX7_init 29 = .ok (.aload_n 0, 1) := by decide +kernel
theorem dX7_init_30 : decode cX7_init 30 = .ok (.bipush 10, 2) := by decide +kernel
theorem dX7_init_32 : decode cX7_init 32 = .ok (.newarray .int, 2) := by decide +kernel
theorem dX7_init_34 : decode cX7_init 34 = .ok (.putfield 19, 3) := by decide +kernel
theorem dX7_init_37 : decode cX7_init 37 = .ok (.aload_n 0, 1) := by decide +kernel
theorem dX7_init_38 : decode cX7_init 38 = .ok (.bipush 10, 2) := by decide +kernel
theorem dX7_init_40 : decode cX7_init 40 = .ok (.newarray .int, 2) := by decide +kernel
theorem dX7_init_42 : decode cX7_init 42 = .ok (.putfield 22, 3) := by decide +kernel
theorem dX7_init_45 : decode cX7_init 45 = .ok (.aload_n 0, 1) := by decide +kernel
theorem dX7_init_46 : decode cX7_init 46 = .ok (.bipush 10, 2) := by decide +kernel
theorem dX7_init_48 : decode cX7_init 48 = .ok (.newarray .int, 2) := by decide +kernel
theorem dX7_init_50 : decode cX7_init 50 = .ok (.putfield 25, 3) := by decide +kernel
theorem dX7_init_53 : decode cX7_init 53 = .ok (.aload_n 0, 1) := by decide +kernel
theorem dX7_init_54 : decode cX7_init 54 = .ok (.bipush 12, 2) := by decide +kernel
theorem dX7_init_56 : decode cX7_init 56 = .ok (.newarray .int, 2) := by decide +kernel
theorem dX7_init_58 : decode cX7_init 58 = .ok (.putfield 28, 3) := by decide +kernel
theorem dX7_init_61 : decode cX7_init 61 = .ok (.aload_n 0, 1) := by decide +kernel
theorem dX7_init_62 : decode cX7_init 62 = .ok (.bipush 120, 2) := by decide +kernel
theorem dX7_init_64 : decode cX7_init 64 = .ok (.newarray .int, 2) := by decide +kernel
theorem dX7_init_66 : decode cX7_init 66 = .ok (.putfield 31, 3) := by decide +kernel
theorem dX7_init_69 : decode cX7_init 69 = .ok (.aload_n 0, 1) := by decide +kernel
theorem dX7_init_70 : decode cX7_init 70 = .ok (.bipush 120, 2) := by decide +kernel
theorem dX7_init_72 : decode cX7_init 72 = .ok (.newarray .int, 2) := by decide +kernel
theorem dX7_init_74 : decode cX7_init 74 = .ok (.putfield 34, 3) := by decide +kernel
theorem dX7_init_77 : decode cX7_init 77 = .ok (.aload_n 0, 1) := by decide +kernel
theorem dX7_init_78 : decode cX7_init 78 = .ok (.bipush 120, 2) := by decide +kernel
theorem dX7_init_80 : decode cX7_init 80 = .ok (.newarray .int, 2) := by decide +kernel
theorem dX7_init_82 : decode cX7_init 82 = .ok (.putfield 37, 3) := by decide +kernel
theorem dX7_init_85 : decode cX7_init 85 = .ok (.aload_n 0, 1) := by decide +kernel
theorem dX7_init_86 : decode cX7_init 86 = .ok (.sipush 336, 3) := by decide +kernel
theorem dX7_init_89 : decode cX7_init 89 = .ok (.newarray .int, 2) := by decide +kernel
theorem dX7_init_91 : decode cX7_init 91 = .ok (.putfield 40, 3) := by decide +kernel
theorem dX7_init_94 : decode cX7_init 94 = .ok (.aload_n 0, 1) := by decide +kernel
theorem dX7_init_95 : decode cX7_init 95 = .ok (.sipush 336, 3) := by decide +kernel
theorem dX7_init_98 : decode cX7_init 98 = .ok (.newarray .int, 2) := by decide +kernel
theorem dX7_init_100 : decode cX7_init 100 = .ok (.putfield 43, 3) := by decide +kernel
theorem dX7_init_103 : decode cX7_init 103 = .ok (.aload_n 0, 1) := by decide +kernel
theorem dX7_init_104 : decode cX7_init 104 = .ok (.bipush 40, 2) := by decide +kernel
theorem dX7_init_106 : decode cX7_init 106 = .ok (.newarray .int, 2) := by decide +kernel
theorem dX7_init_108 : decode cX7_init 108 = .ok (.putfield 46, 3) := by decide +kernel
theorem dX7_init_111 : decode cX7_init 111 = .ok (.aload_n 0, 1) := by decide +kernel
theorem dX7_init_112 : decode cX7_init 112 = .ok (.bipush 40, 2) := by decide +kernel
theorem dX7_init_114 : decode cX7_init 114 = .ok (.newarray .int, 2) := by decide +kernel
theorem dX7_init_116 : decode cX7_init 116 = .ok (.putfield 49, 3) := by decide +kernel
theorem dX7_init_119 : decode cX7_init 119 = .ok (.aload_n 0, 1) := by decide +kernel
theorem dX7_init_120 : decode cX7_init 120 = .ok (.bipush 40, 2) := by decide +kernel
theorem dX7_init_122 : decode cX7_init 122 = .ok (.newarray .int, 2) := by decide +kernel
theorem dX7_init_124 : decode cX7_init 124 = .ok (.putfield 52, 3) := by decide +kernel
theorem dX7_init_127 : decode cX7_init 127 = .ok (.aload_n 0, 1) := by decide +kernel
theorem dX7_init_128 : decode cX7_init 128 = .ok (.bipush 120, 2) := by decide +kernel
theorem dX7_init_130 : decode cX7_init 130 = .ok (.newarray .int, 2) := by decide +kernel
theorem dX7_init_132 : decode cX7_init 132 = .ok (.putfield 55, 3) := by decide +kernel
theorem dX7_init_135 : decode cX7_init 135 = .ok (.aload_n 0, 1) := by decide +kernel
theorem dX7_init_136 : decode cX7_init 136 = .ok (.bipush 120, 2) := by decide +kernel
theorem dX7_init_138 : decode cX7_init 138 = .ok (.newarray .int, 2) := by decide +kernel
theorem dX7_init_140 : decode cX7_init 140 = .ok (.putfield 58, 3) := by decide +kernel
theorem dX7_init_143 : decode cX7_init 143 = .ok (.aload_n 0, 1) := by decide +kernel
theorem dX7_init_144 : decode cX7_init 144 = .ok (.sipush 225, 3) := by decide +kernel
theorem dX7_init_147 : decode cX7_init 147 = .ok (.newarray .int, 2) := by decide +kernel
theorem dX7_init_149 : decode cX7_init 149 = .ok (.putfield 61, 3) := by decide +kernel
theorem dX7_init_152 : decode cX7_init 152 = .ok (.aload_n 0, 1) := by decide +kernel
theorem dX7_init_153 : decode cX7_init 153 = .ok (.bipush 14, 2) := by decide +kernel
theorem dX7_init_155 : decode cX7_init 155 = .ok (.newarray .int, 2) := by decide +kernel
theorem dX7_init_157 : decode cX7_init 157 = .ok (.putfield 64, 3) := by decide +kernel
theorem dX7_init_160 : decode cX7_init 160 = .ok (.aload_n 0, 1) := by decide +kernel
theorem dX7_init_161 : decode cX7_init 161 = .ok (.bipush 80, 2) := by decide +kernel
theorem dX7_init_163 : decode cX7_init 163 = .ok (.newarray .int, 2) := by decide +kernel
theorem dX7_init_165 : decode cX7_init 165 = .ok (.putfield 67, 3) := by decide +kernel
theorem dX7_init_168 : decode cX7_init 168 = .ok (.aload_n 0, 1) := by decide +kernel
theorem dX7_init_169 : decode cX7_init 169 = .ok (.bipush 15, 2) := by decide +kernel
theorem dX7_init_171 : decode cX7_init 171 = .ok (.newarray .int, 2) := by decide +kernel
theorem dX7_init_173 : decode cX7_init 173 = .ok (.putfield 70, 3) := by decide +kernel
theorem dX7_init_176 : decode cX7_init 176 = .ok (.aload_n 0, 1) := by decide +kernel
theorem dX7_init_177 : decode cX7_init 177 = .ok (.bipush 15, 2) := by decide +kernel
theorem dX7_init_179 : decode cX7_init 179 = .ok (.newarray .int, 2) := by decide +kernel
theorem dX7_init_181 : decode cX7_init 181 = .ok (.putfield 73, 3) := by decide +kernel
theorem dX7_init_184 : decode cX7_init 184 = .ok (.aload_n 0, 1) := by decide +kernel
theorem dX7_init_185 : decode cX7_init 185 = .ok (.bipush 15, 2) := by decide +kernel
theorem dX7_init_187 : decode cX7_init 187 = .ok (.newarray .int, 2) := by decide +kernel
theorem dX7_init_189 : decode cX7_init 189 = .ok (.putfield 76, 3) := by decide +kernel
theorem dX7_init_192 : decode cX7_init 192 = .ok (.aload_n 0, 1) := by decide +kernel
theorem dX7_init_193 : decode cX7_init 193 = .ok (.bipush 28, 2) := by decide +kernel
theorem dX7_init_195 : decode cX7_init 195 = .ok (.newarray .int, 2) := by decide +kernel
theorem dX7_init_197 : decode cX7_init 197 = .ok (.putfield 79, 3) := by decide +kernel
theorem dX7_init_200 : decode cX7_init 200 = .ok (.aload_n 0, 1) := by decide +kernel
theorem dX7_init_201 : decode cX7_init 201 = .ok (.bipush 36, 2) := by decide +kernel
theorem dX7_init_203 : decode cX7_init 203 = .ok (.newarray .int, 2) := by decide +kernel
theorem dX7_init_205 : decode cX7_init 205 = .ok (.putfield 82, 3) := by decide +kernel
theorem dX7_init_208 : decode cX7_init 208 = .ok (.aload_n 0, 1) := by decide +kernel
theorem dX7_init_209 : decode cX7_init 209 = .ok (.bipush 6, 2) := by decide +kernel
theorem dX7_init_211 : decode cX7_init 211 = .ok (.newarray .int, 2) := by decide +kernel
theorem dX7_init_213 : decode cX7_init 213 = .ok (.putfield 85, 3) := by decide +kernel
theorem dX7_init_216 : decode cX7_init 216 = .ok (.aload_n 0, 1) := by decide +kernel
theorem dX7_init_217 : decode cX7_init 217 = .ok (.bipush 6, 2) := by decide +kernel
theorem dX7_init_219 : decode cX7_init 219 = .ok (.newarray .int, 2) := by decide +kernel
theorem dX7_init_221 : decode cX7_init 221 = .ok (.putfield 88, 3) := by decide +kernel
theorem dX7_init_224 : decode cX7_init 224 = .ok (.aload_n 0, 1) := by decide +kernel
theorem dX7_init_225 : decode cX7_init 225 = .ok (.bipush 6, 2) := by decide +kernel
theorem dX7_init_227 : decode cX7_init 227 = .ok (.newarray .int, 2) := by decide +kernel
theorem dX7_init_229 : decode cX7_init 229 = .ok (.putfield 91, 3) := by decide +kernel
theorem dX7_init_232 : decode cX7_init 232 = .ok (.aload_n 0, 1) := by decide +kernel
theorem dX7_init_233 : decode cX7_init 233 = .ok (.bipush 6, 2) := by decide +kernel
theorem dX7_init_235 : decode cX7_init 235 = .ok (.newarray .int, 2) := by decide +kernel
theorem dX7_init_237 : decode cX7_init 237 = .ok (.putfield 94, 3) := by decide +kernel
theorem dX7_init_240 : decode cX7_init 240 = .ok (.return_, 1) := by decide +kernel
theorem dX7_within_0 : decode cX7_within 0 = .ok (.iload_n 0, 1) := by decide +kernel
theorem dX7_within_1 : decode cX7_within 1 = .ok (.iload_n 1, 1) := by decide +kernel
theorem dX7_within_2 : decode cX7_within 2 = .ok (.if_icmp .lt 12, 3) := by decide +kernel
theorem dX7_within_5 : decode cX7_within 5 = .ok (.iload_n 0, 1) := by decide +kernel
theorem dX7_within_6 : decode cX7_within 6 = .ok (.iload_n 2, 1) := by decide +kernel
theorem dX7_within_7 : decode cX7_within 7 = .ok (.if_icmp .gt 7, 3) := by decide +kernel
theorem dX7_within_10 : decode cX7_within 10 = .ok (.iconst 1, 1) := by decide +kernel
theorem dX7_within_11 : decode cX7_within 11 = .ok (.goto 4, 3) := by decide +kernel
theorem dX7_within_14 : decode cX7_within 14 = .ok (.iconst 0, 1) := by decide +kernel
theorem dX7_within_15 : decode cX7_within 15 = .ok (.ireturn, 1) := by decide +kernel
theorem dX7_isVersion_0 : decode cX7_isVersion 0 = .ok (.iload_n 1, 1) := by decide +kernel
theorem dX7_isVersion_1 : decode cX7_isVersion 1 = .ok (.iconst 0, 1) := by decide +kernel
theorem dX7_isVersion_2 : decode cX7_isVersion 2 = .ok (.aload_n 0, 1) := by decide +kernel
theorem dX7_isVersion_3 : decode cX7_isVersion 3 = .ok (.getfield 97, 3) := by decide +kernel
theorem dX7_isVersion_6 : decode cX7_isVersion 6 = .ok (.iconst 1, 1) := by decide +kernel
theorem dX7_isVersion_7 : decode cX7_isVersion 7 = .ok (.isub, 1) := by decide +kernel
theorem dX7_isVersion_8 : decode cX7_isVersion 8 = .ok (.invokestatic 101, 3) := by decide +kernel
theorem dX7_isVersion_11 : decode cX7_isVersion 11 = .ok (.ireturn, 1) := by decide +kernel
theorem dX7_isPatch_0 : decode cX7_isPatch 0 = .ok (.iload_n 1, 1) := by decide +kernel
theorem dX7_isPatch_1 : decode cX7_isPatch 1 = .ok (.iconst 0, 1) := by decide +kernel
theorem dX7_isPatch_2 : decode cX7_isPatch 2 = .ok (.aload_n 0, 1) := by decide +kernel
theorem dX7_isPatch_3 : decode cX7_isPatch 3 = .ok (.getfield 105, 3) := by decide +kernel
theorem dX7_isPatch_6 : decode cX7_isPatch 6 = .ok (.iconst 1, 1) := by decide +kernel
theorem dX7_isPatch_7 : decode cX7_isPatch 7 = .ok (.isub, 1) := by decide +kernel
theorem dX7_isPatch_8 : decode cX7_isPatch 8 = .ok (.invokestatic 101, 3) := by decide +kernel
theorem dX7_isPatch_11 : decode cX7_isPatch 11 = .ok (.ireturn, 1) := by decide +kernel
theorem dX7_line_0 : decode cX7_line 0 = .ok (.iload_n 1, 1) := by decide +kernel
theorem dX7_line_1 : decode cX7_line 1 = .ok (.iconst 0, 1) := by decide +kernel
theorem dX7_line_2 : decode cX7_line 2 = .ok (.aload_n 0, 1) := by decide +kernel
theorem dX7_line_3 : decode cX7_line 3 = .ok (.getfield 108, 3) := by decide +kernel
theorem dX7_line_6 : decode cX7_line 6 = .ok (.invokestatic 101, 3) := by decide +kernel
theorem dX7_line_9 : decode cX7_line 9 = .ok (.ifCond .eq 13, 3) := by decide +kernel
theorem dX7_line_12 : decode cX7_line 12 = .ok (.iload_n 2, 1) := by decide +kernel
theorem dX7_line_13 : decode cX7_line 13 = .ok (.iconst 0, 1) := by decide +kernel
theorem dX7_line_14 : decode cX7_line 14 = .ok (.bipush 99, 2) := by decide +kernel
theorem dX7_line_16 : decode cX7_line 16 = .ok (.invokestatic 101, 3) := by decide +kernel
theorem dX7_line_19 : decode cX7_line 19 = .ok (.ifCond .ne 6, 3) := by decide +kernel
theorem dX7_line_22 : decode cX7_line 22 = .ok (.bipush (-102), 2) := by decide +kernel
theorem dX7_line_24 : decode cX7_line 24 = .ok (.ireturn, 1) := by decide +kernel
theorem dX7_line_25 : decode cX7_line 25 = .ok (.aload_n 0, 1) := by decide +kernel
theorem dX7_line_26 : decode cX7_line 26 = .ok (.getfield 108, 3) := by decide +kernel
theorem dX7_line_29 : decode cX7_line 29 = .ok (.bipush 14, 2) := by decide +kernel
theorem dX7_line_31 : decode cX7_line 31 = .ok (.if_icmp .ne 6, 3) := by decide +kernel
theorem dX7_line_34 : decode cX7_line 34 = .ok (.bipush (-104), 2) := by decide +kernel
theorem dX7_line_36 : decode cX7_line 36 = .ok (.ireturn, 1) := by decide +kernel
theorem dX7_line_37 : decode cX7_line 37 = .ok (.aload_n 0, 1) := by decide +kernel
theorem dX7_line_38 : decode cX7_line 38 = .ok (.getfield 108, 3) := by decide +kernel
theorem dX7_line_41 : decode cX7_line 41 = .ok (.istore_n 3, 1) := by decide +kernel
theorem dX7_line_42 : decode cX7_line 42 = .ok (.iload_n 3, 1) := by decide +kernel
theorem dX7_line_43 : decode cX7_line 43 = .ok (.iload_n 1, 1) := by decide +kernel
theorem dX7_line_44 : decode cX7_line 44 = .ok (.if_icmp .le 23, 3) := by decide +kernel
theorem dX7_line_47 : decode cX7_line 47 = .ok (.aload_n 0, 1) := by decide +kernel
theorem dX7_line_48 : decode cX7_line 48 = .ok (.getfield 7, 3) := by decide +kernel
theorem dX7_line_51 : decode cX7_line 51 = .ok (.iload_n 3, 1) := by decide +kernel
theorem dX7_line_52 : decode cX7_line 52 = .ok (.aload_n 0, 1) := by decide +kernel
theorem dX7_line_53 : decode cX7_line 53 = .ok (.getfield 7, 3) := by decide +kernel
theorem dX7_line_56 : decode cX7_line 56 = .ok (.iload_n 3, 1) := by decide +kernel
theorem dX7_line_57 : decode cX7_line 57 = .ok (.iconst 1, 1) := by decide +kernel
theorem dX7_line_58 : decode cX7_line 58 = .ok (.isub, 1) := by decide +kernel
theorem dX7_line_59 : decode cX7_line 59 = .ok (.iaload, 1) := by decide +kernel
theorem dX7_line_60 : decode cX7_line 60 = .ok (.iastore, 1) := by decide +kernel
theorem dX7_line_61 : decode cX7_line 61 = .ok (.iinc 3 (-1), 3) := by decide +kernel
theorem dX7_line_64 : decode cX7_line 64 = .ok (.goto (-22), 3) := by decide +kernel
theorem dX7_line_67 : decode cX7_line 67 = .ok (.aload_n 0, 1) := by decide +kernel
theorem dX7_line_68 : decode cX7_line 68 = .ok (.getfield 7, 3) := by decide +kernel
theorem dX7_line_71 : decode cX7_line 71 = .ok (.iload_n 1, 1) := by decide +kernel
theorem dX7_line_72 : decode cX7_line 72 = .ok (.iload_n 2, 1) := by decide +kernel
theorem dX7_line_73 : decode cX7_line 73 = .ok (.iastore, 1) := by decide +kernel
theorem dX7_line_74 : decode cX7_line 74 = .ok (.aload_n 0, 1) := by decide +kernel
theorem dX7_line_75 : decode cX7_line 75 = .ok (.dup, 1) := by decide +kernel
theorem dX7_line_76 : decode cX7_line 76 = .ok (.getfield 108, 3) := by decide +kernel
theorem dX7_line_79 : decode cX7_line 79 = .ok (.iconst 1, 1) := by decide +kernel
theorem dX7_line_80 : decode cX7_line 80 = .ok (.iadd, 1) := by decide +kernel
theorem dX7_line_81 : decode cX7_line 81 = .ok (.putfield 108, 3) := by decide +kernel
theorem dX7_line_84 : decode cX7_line 84 = .ok (.aload_n 0, 1) := by decide +kernel
theorem dX7_line_85 : decode cX7_line 85 = .ok (.getfield 108, 3) := by decide +kernel
theorem dX7_line_88 : decode cX7_line 88 = .ok (.ireturn, 1) := by decide +kernel
theorem dX7_drop_0 : decode cX7_drop 0 = .ok (.iload_n 1, 1) := by decide +kernel
theorem dX7_drop_1 : decode cX7_drop 1 = .ok (.iconst 0, 1) := by decide +kernel
theorem dX7_drop_2 : decode cX7_drop 2 = .ok (.aload_n 0, 1) := by decide +kernel
theorem dX7_drop_3 : decode cX7_drop 3 = .ok (.getfield 108, 3) := by decide +kernel
theorem dX7_drop_6 : decode cX7_drop 6 = .ok (.iconst 1, 1) := by decide +kernel
theorem dX7_drop_7 : decode cX7_drop 7 = .ok (.isub, 1) := by decide +kernel
theorem dX7_drop_8 : decode cX7_drop 8 = .ok (.invokestatic 101, 3) := by decide +kernel
theorem dX7_drop_11 : decode cX7_drop 11 = .ok (.ifCond .ne 6, 3) := by decide +kernel
theorem dX7_drop_14 : decode cX7_drop 14 = .ok (.bipush (-101), 2) := by decide +kernel
theorem dX7_drop_16 : decode cX7_drop 16 = .ok (.ireturn, 1) := by decide +kernel
theorem dX7_drop_17 : decode cX7_drop 17 = .ok (.aload_n 0, 1) := by decide +kernel
theorem dX7_drop_18 : decode cX7_drop 18 = .ok (.getfield 7, 3) := by decide +kernel
theorem dX7_drop_21 : decode cX7_drop 21 = .ok (.iload_n 1, 1) := by decide +kernel
theorem dX7_drop_22 : decode cX7_drop 22 = .ok (.iaload, 1) := by decide +kernel
theorem dX7_drop_23 : decode cX7_drop 23 = .ok (.istore_n 2, 1) := by decide +kernel
theorem dX7_drop_24 : decode cX7_drop 24 = .ok (.aload_n 0, 1) := by decide +kernel
theorem dX7_drop_25 : decode cX7_drop 25 = .ok (.dup, 1) := by decide +kernel
theorem dX7_drop_26 : decode cX7_drop 26 = .ok (.getfield 108, 3) := by decide +kernel
theorem dX7_drop_29 : decode cX7_drop 29 = .ok (.iconst 1, 1) := by decide +kernel
theorem dX7_drop_30 : decode cX7_drop 30 = .ok (.isub, 1) := by decide +kernel
theorem dX7_drop_31 : decode cX7_drop 31 = .ok (.putfield 108, 3) := by decide +kernel
theorem dX7_drop_34 : decode cX7_drop 34 = .ok (.iload_n 1, 1) := by decide +kernel
theorem dX7_drop_35 : decode cX7_drop 35 = .ok (.istore_n 3, 1) := by decide +kernel
theorem dX7_drop_36 : decode cX7_drop 36 = .ok (.iload_n 3, 1) := by decide +kernel
theorem dX7_drop_37 : decode cX7_drop 37 = .ok (.aload_n 0, 1) := by decide +kernel
theorem dX7_drop_38 : decode cX7_drop 38 = .ok (.getfield 108, 3) := by decide +kernel
theorem dX7_drop_41 : decode cX7_drop 41 = .ok (.if_icmp .ge 23, 3) := by decide +kernel
theorem dX7_drop_44 : decode cX7_drop 44 = .ok (.aload_n 0, 1) := by decide +kernel
theorem dX7_drop_45 : decode cX7_drop 45 = .ok (.getfield 7, 3) := by decide +kernel
theorem dX7_drop_48 : decode cX7_drop 48 = .ok (.iload_n 3, 1) := by decide +kernel
theorem dX7_drop_49 : decode cX7_drop 49 = .ok (.aload_n 0, 1) := by decide +kernel
theorem dX7_drop_50 : decode cX7_drop 50 = .ok (.getfield 7, 3) := by decide +kernel
theorem dX7_drop_53 : decode cX7_drop 53 = .ok (.iload_n 3, 1) := by decide +kernel
theorem dX7_drop_54 : decode cX7_drop 54 = .ok (.iconst 1, 1) := by decide +kernel
theorem dX7_drop_55 : decode cX7_drop 55 = .ok (.iadd, 1) := by decide +kernel
theorem dX7_drop_56 : decode cX7_drop 56 = .ok (.iaload, 1) := by decide +kernel
theorem dX7_drop_57 : decode cX7_drop 57 = .ok (.iastore, 1) := by decide +kernel
theorem dX7_drop_58 : decode cX7_drop 58 = .ok (.iinc 3 1, 3) := by decide +kernel
theorem dX7_drop_61 : decode cX7_drop 61 = .ok (.goto (-25), 3) := by decide +kernel
theorem dX7_drop_64 : decode cX7_drop 64 = .ok (.iload_n 2, 1) := by decide +kernel
theorem dX7_drop_65 : decode cX7_drop 65 = .ok (.ireturn, 1) := by decide +kernel
theorem dX7_take_0 : decode cX7_take 0 = .ok (.iload_n 1, 1) := by decide +kernel
theorem dX7_take_1 : decode cX7_take 1 = .ok (.iconst (-1), 1) := by decide +kernel
theorem dX7_take_2 : decode cX7_take 2 = .ok (.if_icmp .eq 14, 3) := by decide +kernel
theorem dX7_take_5 : decode cX7_take 5 = .ok (.aload_n 0, 1) := by decide +kernel
theorem dX7_take_6 : decode cX7_take 6 = .ok (.iload_n 1, 1) := by decide +kernel
theorem dX7_take_7 : decode cX7_take 7 = .ok (.invokevirtual 111, 3) := by decide +kernel
theorem dX7_take_10 : decode cX7_take 10 = .ok (.ifCond .ne 6, 3) := by decide +kernel
theorem dX7_take_13 : decode cX7_take 13 = .ok (.bipush (-101), 2) := by decide +kernel
theorem dX7_take_15 : decode cX7_take 15 = .ok (.ireturn, 1) := by decide +kernel
theorem dX7_take_16 : decode cX7_take 16 = .ok (.aload_n 0, 1) := by decide +kernel
theorem dX7_take_17 : decode cX7_take 17 = .ok (.iload_n 1, 1) := by decide +kernel
theorem dX7_take_18 : decode cX7_take 18 = .ok (.iconst (-1), 1) := by decide +kernel
theorem dX7_take_19 : decode cX7_take 19 = .ok (.if_icmp .ne 7, 3) := by decide +kernel
theorem dX7_take_22 : decode cX7_take 22 = .ok (.iconst 0, 1) := by decide +kernel
theorem dX7_take_23 : decode cX7_take 23 = .ok (.goto 9, 3) := by decide +kernel
theorem dX7_take_26 : decode cX7_take 26 = .ok (.aload_n 0, 1) := by decide +kernel
theorem dX7_take_27 : decode cX7_take 27 = .ok (.getfield 13, 3) := by decide +kernel
theorem dX7_take_30 : decode cX7_take 30 = .ok (.iload_n 1, 1) := by decide +kernel
theorem dX7_take_31 : decode cX7_take 31 = .ok (.iaload, 1) := by decide +kernel
theorem dX7_take_32 : decode cX7_take 32 = .ok (.putfield 108, 3) := by decide +kernel
theorem dX7_take_35 : decode cX7_take 35 = .ok (.iconst 0, 1) := by decide +kernel
theorem dX7_take_36 : decode cX7_take 36 = .ok (.istore_n 2, 1) := by decide +kernel
theorem dX7_take_37 : decode cX7_take 37 = .ok (.iload_n 2, 1) := by decide +kernel
theorem dX7_take_38 : decode cX7_take 38 = .ok (.aload_n 0, 1) := by decide +kernel
theorem dX7_take_39 : decode cX7_take 39 = .ok (.getfield 108, 3) := by decide +kernel
theorem dX7_take_42 : decode cX7_take 42 = .ok (.if_icmp .ge 26, 3) := by decide +kernel
theorem dX7_take_45 : decode cX7_take 45 = .ok (.aload_n 0, 1) := by decide +kernel
theorem dX7_take_46 : decode cX7_take 46 = .ok (.getfield 7, 3) := by decide +kernel
theorem dX7_take_49 : decode cX7_take 49 = .ok (.iload_n 2, 1) := by decide +kernel
theorem dX7_take_50 : decode cX7_take 50 = .ok (.aload_n 0, 1) := by decide +kernel
theorem dX7_take_51 : decode cX7_take 51 = .ok (.getfield 16, 3) := by decide +kernel
theorem dX7_take_54 : decode cX7_take 54 = .ok (.bipush 14, 2) := by decide +kernel
theorem dX7_take_56 : decode cX7_take 56 = .ok (.iload_n 1, 1) := by decide +kernel
theorem dX7_take_57 : decode cX7_take 57 = .ok (.imul, 1) := by decide +kernel
theorem dX7_take_58 : decode cX7_take 58 = .ok (.iload_n 2, 1) := by decide +kernel
theorem dX7_take_59 : decode cX7_take 59 = .ok (.iadd, 1) := by decide +kernel
theorem dX7_take_60 : decode cX7_take 60 = .ok (.iaload, 1) := by decide +kernel
theorem dX7_take_61 : decode cX7_take 61 = .ok (.iastore, 1) := by decide +kernel
theorem dX7_take_62 : decode cX7_take 62 = .ok (.iinc 2 1, 3) := by decide +kernel
theorem dX7_take_65 : decode cX7_take 65 = .ok (.goto (-28), 3) := by decide +kernel
theorem dX7_take_68 : decode cX7_take 68 = .ok (.aload_n 0, 1) := by decide +kernel
theorem dX7_take_69 : decode cX7_take 69 = .ok (.getfield 108, 3) := by decide +kernel
theorem dX7_take_72 : decode cX7_take 72 = .ok (.ireturn, 1) := by decide +kernel
theorem dX7_desk_0 : decode cX7_desk 0 = .ok (.iload_n 1, 1) := by decide +kernel
theorem dX7_desk_1 : decode cX7_desk 1 = .ok (.iconst 0, 1) := by decide +kernel
theorem dX7_desk_2 : decode cX7_desk 2 = .ok (.aload_n 0, 1) := by decide +kernel
theorem dX7_desk_3 : decode cX7_desk 3 = .ok (.getfield 108, 3) := by decide +kernel
theorem dX7_desk_6 : decode cX7_desk 6 = .ok (.iconst 1, 1) := by decide +kernel
theorem dX7_desk_7 : decode cX7_desk 7 = .ok (.isub, 1) := by decide +kernel
theorem dX7_desk_8 : decode cX7_desk 8 = .ok (.invokestatic 101, 3) := by decide +kernel
theorem dX7_desk_11 : decode cX7_desk 11 = .ok (.ifCond .eq 12, 3) := by decide +kernel
theorem dX7_desk_14 : decode cX7_desk 14 = .ok (.aload_n 0, 1) := by decide +kernel
theorem dX7_desk_15 : decode cX7_desk 15 = .ok (.getfield 7, 3) := by decide +kernel
theorem dX7_desk_18 : decode cX7_desk 18 = .ok (.iload_n 1, 1) := by decide +kernel
theorem dX7_desk_19 : decode cX7_desk 19 = .ok (.iaload, 1) := by decide +kernel
theorem dX7_desk_20 : decode cX7_desk 20 = .ok (.goto 4, 3) := by decide +kernel
theorem dX7_desk_23 : decode cX7_desk 23 = .ok (.iconst (-1), 1) := by decide +kernel
theorem dX7_desk_24 : decode cX7_desk 24 = .ok (.ireturn, 1) := by decide +kernel
theorem dX7_keep_0 : decode cX7_keep 0 = .ok (.iload_n 1, 1) := by decide +kernel
theorem dX7_keep_1 : decode cX7_keep 1 = .ok (.iconst (-1), 1) := by decide +kernel
theorem dX7_keep_2 : decode cX7_keep 2 = .ok (.if_icmp .eq 11, 3) := by decide +kernel
theorem dX7_keep_5 : decode cX7_keep 5 = .ok (.aload_n 0, 1) := by decide +kernel
theorem dX7_keep_6 : decode cX7_keep 6 = .ok (.iload_n 1, 1) := by decide +kernel
theorem dX7_keep_7 : decode cX7_keep 7 = .ok (.invokevirtual 111, 3) := by decide +kernel
theorem dX7_keep_10 : decode cX7_keep 10 = .ok (.ifCond .eq 16, 3) := by decide +kernel
theorem dX7_keep_13 : decode cX7_keep 13 = .ok (.iload_n 2, 1) := by decide +kernel
theorem dX7_keep_14 : decode cX7_keep 14 = .ok (.iconst (-1), 1) := by decide +kernel
theorem dX7_keep_15 : decode cX7_keep 15 = .ok (.if_icmp .eq 14, 3) := by decide +kernel
theorem dX7_keep_18 : decode cX7_keep 18 = .ok (.aload_n 0, 1) := by decide +kernel
theorem dX7_keep_19 : decode cX7_keep 19 = .ok (.iload_n 2, 1) := by decide +kernel
theorem dX7_keep_20 : decode cX7_keep 20 = .ok (.invokevirtual 111, 3) := by decide +kernel
theorem dX7_keep_23 : decode cX7_keep 23 = .ok (.ifCond .ne 6, 3) := by decide +kernel
theorem dX7_keep_26 : decode cX7_keep 26 = .ok (.bipush (-101), 2) := by decide +kernel
theorem dX7_keep_28 : decode cX7_keep 28 = .ok (.ireturn, 1) := by decide +kernel
theorem dX7_keep_29 : decode cX7_keep 29 = .ok (.iload_n 2, 1) := by decide +kernel
theorem dX7_keep_30 : decode cX7_keep 30 = .ok (.iconst (-1), 1) := by decide +kernel
theorem dX7_keep_31 : decode cX7_keep 31 = .ok (.if_icmp .eq 16, 3) := by decide +kernel
theorem dX7_keep_34 : decode cX7_keep 34 = .ok (.iload_n 1, 1) := by decide +kernel
theorem dX7_keep_35 : decode cX7_keep 35 = .ok (.iload_n 2, 1) := by decide +kernel
theorem dX7_keep_36 : decode cX7_keep 36 = .ok (.if_icmp .eq 8, 3) := by decide +kernel
theorem dX7_keep_39 : decode cX7_keep 39 = .ok (.iload_n 1, 1) := by decide +kernel
theorem dX7_keep_40 : decode cX7_keep 40 = .ok (.iconst (-1), 1) := by decide +kernel
theorem dX7_keep_41 : decode cX7_keep 41 = .ok (.if_icmp .ne 6, 3) := by decide +kernel
theorem dX7_keep_44 : decode cX7_keep 44 = .ok (.bipush (-102), 2) := by decide +kernel
theorem dX7_keep_46 : decode cX7_keep 46 = .ok (.ireturn, 1) := by decide +kernel
theorem dX7_keep_47 : decode cX7_keep 47 = .ok (.aload_n 0, 1) := by decide +kernel
theorem dX7_keep_48 : decode cX7_keep 48 = .ok (.getfield 97, 3) := by decide +kernel
theorem dX7_keep_51 : decode cX7_keep 51 = .ok (.bipush 10, 2) := by decide +kernel
theorem dX7_keep_53 : decode cX7_keep 53 = .ok (.if_icmp .ne 6, 3) := by decide +kernel
theorem dX7_keep_56 : decode cX7_keep 56 = .ok (.bipush (-104), 2) := by decide +kernel
theorem dX7_keep_58 : decode cX7_keep 58 = .ok (.ireturn, 1) := by decide +kernel
theorem dX7_keep_59 : decode cX7_keep 59 = .ok (.iconst 0, 1) := by decide +kernel
theorem dX7_keep_60 : decode cX7_keep 60 = .ok (.istore_n 3, 1) := by decide +kernel
theorem dX7_keep_61 : decode cX7_keep 61 = .ok (.iload_n 3, 1) := by decide +kernel
theorem dX7_keep_62 : decode cX7_keep 62 = .ok (.aload_n 0, 1) := by decide +kernel
theorem dX7_keep_63 : decode cX7_keep 63 = .ok (.getfield 108, 3) := by decide +kernel
theorem dX7_keep_66 : decode cX7_keep 66 = .ok (.if_icmp .ge 29, 3) := by decide +kernel
theorem dX7_keep_69 : decode cX7_keep 69 = .ok (.aload_n 0, 1) := by decide +kernel
theorem dX7_keep_70 : decode cX7_keep 70 = .ok (.getfield 16, 3) := by decide +kernel
theorem dX7_keep_73 : decode cX7_keep 73 = .ok (.bipush 14, 2) := by decide +kernel
theorem dX7_keep_75 : decode cX7_keep 75 = .ok (.aload_n 0, 1) := by decide +kernel
theorem dX7_keep_76 : decode cX7_keep 76 = .ok (.getfield 97, 3) := by decide +kernel
theorem dX7_keep_79 : decode cX7_keep 79 = .ok (.imul, 1) := by decide +kernel
theorem dX7_keep_80 : decode cX7_keep 80 = .ok (.iload_n 3, 1) := by decide +kernel
theorem dX7_keep_81 : decode cX7_keep 81 = .ok (.iadd, 1) := by decide +kernel
theorem dX7_keep_82 : decode cX7_keep 82 = .ok (.aload_n 0, 1) := by decide +kernel
theorem dX7_keep_83 : decode cX7_keep 83 = .ok (.getfield 7, 3) := by decide +kernel
theorem dX7_keep_86 : decode cX7_keep 86 = .ok (.iload_n 3, 1) := by decide +kernel
theorem dX7_keep_87 : decode cX7_keep 87 = .ok (.iaload, 1) := by decide +kernel
theorem dX7_keep_88 : decode cX7_keep 88 = .ok (.iastore, 1) := by decide +kernel
theorem dX7_keep_89 : decode cX7_keep 89 = .ok (.iinc 3 1, 3) := by decide +kernel
theorem dX7_keep_92 : decode cX7_keep 92 = .ok (.goto (-31), 3) := by decide +kernel
theorem dX7_keep_95 : decode cX7_keep 95 = .ok (.aload_n 0, 1) := by decide +kernel
theorem dX7_keep_96 : decode cX7_keep 96 = .ok (.getfield 13, 3) := by decide +kernel
theorem dX7_keep_99 : decode cX7_keep 99 = .ok (.aload_n 0, 1) := by decide +kernel
theorem dX7_keep_100 : decode cX7_keep 100 = .ok (.getfield 97, 3) := by decide +kernel
theorem dX7_keep_103 : decode cX7_keep 103 = .ok (.aload_n 0, 1) := by decide +kernel
theorem dX7_keep_104 : decode cX7_keep 104 = .ok (.getfield 108, 3) := by decide +kernel
theorem dX7_keep_107 : decode cX7_keep 107 = .ok (.iastore, 1) := by decide +kernel
theorem dX7_keep_108 : decode cX7_keep 108 = .ok (.aload_n 0, 1) := by decide +kernel
theorem dX7_keep_109 : decode cX7_keep 109 = .ok (.getfield 19, 3) := by decide +kernel
theorem dX7_keep_112 : decode cX7_keep 112 = .ok (.aload_n 0, 1) := by decide +kernel
theorem dX7_keep_113 : decode cX7_keep 113 = .ok (.getfield 97, 3) := by decide +kernel
theorem dX7_keep_116 : decode cX7_keep 116 = .ok (.iload_n 1, 1) := by decide +kernel
theorem dX7_keep_117 : decode cX7_keep 117 = .ok (.iastore, 1) := by decide +kernel
theorem dX7_keep_118 : decode cX7_keep 118 = .ok (.aload_n 0, 1) := by decide +kernel
theorem dX7_keep_119 : decode cX7_keep 119 = .ok (.getfield 22, 3) := by decide +kernel
theorem dX7_keep_122 : decode cX7_keep 122 = .ok (.aload_n 0, 1) := by decide +kernel
theorem dX7_keep_123 : decode cX7_keep 123 = .ok (.getfield 97, 3) := by decide +kernel
theorem dX7_keep_126 : decode cX7_keep 126 = .ok (.iload_n 2, 1) := by decide +kernel
theorem dX7_keep_127 : decode cX7_keep 127 = .ok (.iastore, 1) := by decide +kernel
theorem dX7_keep_128 : decode cX7_keep 128 = .ok (.aload_n 0, 1) := by decide +kernel
theorem dX7_keep_129 : decode cX7_keep 129 = .ok (.getfield 25, 3) := by decide +kernel
theorem dX7_keep_132 : decode cX7_keep 132 = .ok (.aload_n 0, 1) := by decide +kernel
theorem dX7_keep_133 : decode cX7_keep 133 = .ok (.getfield 97, 3) := by decide +kernel
theorem dX7_keep_136 : decode cX7_keep 136 = .ok (.iconst 1, 1) := by decide +kernel
theorem dX7_keep_137 : decode cX7_keep 137 = .ok (.iastore, 1) := by decide +kernel
theorem dX7_keep_138 : decode cX7_keep 138 = .ok (.aload_n 0, 1) := by decide +kernel
theorem dX7_keep_139 : decode cX7_keep 139 = .ok (.dup, 1) := by decide +kernel
theorem dX7_keep_140 : decode cX7_keep 140 = .ok (.getfield 97, 3) := by decide +kernel
theorem dX7_keep_143 : decode cX7_keep 143 = .ok (.iconst 1, 1) := by decide +kernel
theorem dX7_keep_144 : decode cX7_keep 144 = .ok (.iadd, 1) := by decide +kernel
theorem dX7_keep_145 : decode cX7_keep 145 = .ok (.putfield 97, 3) := by decide +kernel
theorem dX7_keep_148 : decode cX7_keep 148 = .ok (.aload_n 0, 1) := by decide +kernel
theorem dX7_keep_149 : decode cX7_keep 149 = .ok (.getfield 97, 3) := by decide +kernel
theorem dX7_keep_152 : decode cX7_keep 152 = .ok (.iconst 1, 1) := by decide +kernel
theorem dX7_keep_153 : decode cX7_keep 153 = .ok (.isub, 1) := by decide +kernel
theorem dX7_keep_154 : decode cX7_keep 154 = .ok (.ireturn, 1) := by decide +kernel
theorem dX7_text_0 : decode cX7_text 0 = .ok (.aload_n 0, 1) := by decide +kernel
theorem dX7_text_1 : decode cX7_text 1 = .ok (.iload_n 1, 1) := by decide +kernel
theorem dX7_text_2 : decode cX7_text 2 = .ok (.invokevirtual 111, 3) := by decide +kernel
theorem dX7_text_5 : decode cX7_text 5 = .ok (.ifCond .ne 6, 3) := by decide +kernel
theorem dX7_text_8 : decode cX7_text 8 = .ok (.bipush (-101), 2) := by decide +kernel
theorem dX7_text_10 : decode cX7_text 10 = .ok (.ireturn, 1) := by decide +kernel
theorem dX7_text_11 : decode cX7_text 11 = .ok (.iload_n 2, 1) := by decide +kernel
theorem dX7_text_12 : decode cX7_text 12 = .ok (.iconst 0, 1) := by decide +kernel
theorem dX7_text_13 : decode cX7_text 13 = .ok (.aload_n 0, 1) := by decide +kernel
theorem dX7_text_14 : decode cX7_text 14 = .ok (.getfield 13, 3) := by decide +kernel
theorem dX7_text_17 : decode cX7_text 17 = .ok (.iload_n 1, 1) := by decide +kernel
theorem dX7_text_18 : decode cX7_text 18 = .ok (.iaload, 1) := by decide +kernel
theorem dX7_text_19 : decode cX7_text 19 = .ok (.iconst 1, 1) := by decide +kernel
theorem dX7_text_20 : decode cX7_text 20 = .ok (.isub, 1) := by decide +kernel
theorem dX7_text_21 : decode cX7_text 21 = .ok (.invokestatic 101, 3) := by decide +kernel
theorem dX7_text_24 : decode cX7_text 24 = .ok (.ifCond .eq 17, 3) := by decide +kernel
theorem dX7_text_27 : decode cX7_text 27 = .ok (.aload_n 0, 1) := by decide +kernel
theorem dX7_text_28 : decode cX7_text 28 = .ok (.getfield 16, 3) := by decide +kernel
theorem dX7_text_31 : decode cX7_text 31 = .ok (.bipush 14, 2) := by decide +kernel
theorem dX7_text_33 : decode cX7_text 33 = .ok (.iload_n 1, 1) := by decide +kernel
theorem dX7_text_34 : decode cX7_text 34 = .ok (.imul, 1) := by decide +kernel
theorem dX7_text_35 : decode cX7_text 35 = .ok (.iload_n 2, 1) := by decide +kernel
theorem dX7_text_36 : decode cX7_text 36 = .ok (.iadd, 1) := by decide +kernel
theorem dX7_text_37 : decode cX7_text 37 = .ok (.iaload, 1) := by decide +kernel
theorem dX7_text_38 : decode cX7_text 38 = .ok (.goto 4, 3) := by decide +kernel
theorem dX7_text_41 : decode cX7_text 41 = .ok (.iconst (-1), 1) := by decide +kernel
theorem dX7_text_42 : decode cX7_text 42 = .ok (.ireturn, 1) := by decide +kernel
theorem dX7_aboutOf_0 : decode cX7_aboutOf 0 = .ok (.iload_n 2, 1) := by decide +kernel
theorem dX7_aboutOf_1 : decode cX7_aboutOf 1 = .ok (.tableswitch 59 0 3 #[31, 38, 45, 52], 31) := by decide +kernel
theorem dX7_aboutOf_32 : decode cX7_aboutOf 32 = .ok (.aload_n 0, 1) := by decide +kernel
theorem dX7_aboutOf_33 : decode cX7_aboutOf 33 = .ok (.getfield 13, 3) := by decide +kernel
theorem dX7_aboutOf_36 : decode cX7_aboutOf 36 = .ok (.iload_n 1, 1) := by decide +kernel
theorem dX7_aboutOf_37 : decode cX7_aboutOf 37 = .ok (.iaload, 1) := by decide +kernel
theorem dX7_aboutOf_38 : decode cX7_aboutOf 38 = .ok (.ireturn, 1) := by decide +kernel
theorem dX7_aboutOf_39 : decode cX7_aboutOf 39 = .ok (.aload_n 0, 1) := by decide +kernel
theorem dX7_aboutOf_40 : decode cX7_aboutOf 40 = .ok (.getfield 19, 3) := by decide +kernel
theorem dX7_aboutOf_43 : decode cX7_aboutOf 43 = .ok (.iload_n 1, 1) := by decide +kernel
theorem dX7_aboutOf_44 : decode cX7_aboutOf 44 = .ok (.iaload, 1) := by decide +kernel
theorem dX7_aboutOf_45 : decode cX7_aboutOf 45 = .ok (.ireturn, 1) := by decide +kernel
theorem dX7_aboutOf_46 : decode cX7_aboutOf 46 = .ok (.aload_n 0, 1) := by decide +kernel
theorem dX7_aboutOf_47 : decode cX7_aboutOf 47 = .ok (.getfield 22, 3) := by decide +kernel
theorem dX7_aboutOf_50 : decode cX7_aboutOf 50 = .ok (.iload_n 1, 1) := by decide +kernel
theorem dX7_aboutOf_51 : decode cX7_aboutOf 51 = .ok (.iaload, 1) := by decide +kernel
theorem dX7_aboutOf_52 : decode cX7_aboutOf 52 = .ok (.ireturn, 1) := by decide +kernel
theorem dX7_aboutOf_53 : decode cX7_aboutOf 53 = .ok (.aload_n 0, 1) := by decide +kernel
theorem dX7_aboutOf_54 : decode cX7_aboutOf 54 = .ok (.getfield 25, 3) := by decide +kernel
theorem dX7_aboutOf_57 : decode cX7_aboutOf 57 = .ok (.iload_n 1, 1) := by decide +kernel
theorem dX7_aboutOf_58 : decode cX7_aboutOf 58 = .ok (.iaload, 1) := by decide +kernel
theorem dX7_aboutOf_59 : decode cX7_aboutOf 59 = .ok (.ireturn, 1) := by decide +kernel
theorem dX7_aboutOf_60 : decode cX7_aboutOf 60 = .ok (.aload_n 0, 1) := by decide +kernel
theorem dX7_aboutOf_61 : decode cX7_aboutOf 61 = .ok (.getfield 13, 3) := by decide +kernel
theorem dX7_aboutOf_64 : decode cX7_aboutOf 64 = .ok (.iload_n 1, 1) := by decide +kernel
theorem dX7_aboutOf_65 : decode cX7_aboutOf 65 = .ok (.iaload, 1) := by decide +kernel
theorem dX7_aboutOf_66 : decode cX7_aboutOf 66 = .ok (.iconst 1, 1) := by decide +kernel
theorem dX7_aboutOf_67 : decode cX7_aboutOf 67 = .ok (.iadd, 1) := by decide +kernel
theorem dX7_aboutOf_68 : decode cX7_aboutOf 68 = .ok (.ireturn, 1) := by decide +kernel
theorem dX7_about_0 : decode cX7_about 0 = .ok (.aload_n 0, 1) := by decide +kernel
theorem dX7_about_1 : decode cX7_about 1 = .ok (.iload_n 1, 1) := by decide +kernel
theorem dX7_about_2 : decode cX7_about 2 = .ok (.invokevirtual 111, 3) := by decide +kernel
theorem dX7_about_5 : decode cX7_about 5 = .ok (.ifCond .ne 8, 3) := by decide +kernel
theorem dX7_about_8 : decode cX7_about 8 = .ok (.bipush (-101), 2) := by decide +kernel
theorem dX7_about_10 : decode cX7_about 10 = .ok (.goto 23, 3) := by decide +kernel
theorem dX7_about_13 : decode cX7_about 13 = .ok (.iload_n 2, 1) := by decide +kernel
theorem dX7_about_14 : decode cX7_about 14 = .ok (.iconst 0, 1) := by decide +kernel
theorem dX7_about_15 : decode cX7_about 15 = .ok (.iconst 4, 1) := by decide +kernel
theorem dX7_about_16 : decode cX7_about 16 = .ok (.invokestatic 101, 3) := by decide +kernel
theorem dX7_about_19 : decode cX7_about 19 = .ok (.ifCond .eq 12, 3) := by decide +kernel
theorem dX7_about_22 : decode cX7_about 22 = .ok (.aload_n 0, 1) := by decide +kernel
theorem dX7_about_23 : decode cX7_about 23 = .ok (.iload_n 1, 1) := by decide +kernel
theorem dX7_about_24 : decode cX7_about 24 = .ok (.iload_n 2, 1) := by decide +kernel
theorem dX7_about_25 : decode cX7_about 25 = .ok (.invokevirtual 115, 3) := by decide +kernel
theorem dX7_about_28 : decode cX7_about 28 = .ok (.goto 5, 3) := by decide +kernel
theorem dX7_about_31 : decode cX7_about 31 = .ok (.bipush (-102), 2) := by decide +kernel
theorem dX7_about_33 : decode cX7_about 33 = .ok (.ireturn, 1) := by decide +kernel
theorem dX7_asked_0 : decode cX7_asked 0 = .ok (.aload_n 0, 1) := by decide +kernel
theorem dX7_asked_1 : decode cX7_asked 1 = .ok (.iload_n 1, 1) := by decide +kernel
theorem dX7_asked_2 : decode cX7_asked 2 = .ok (.invokevirtual 111, 3) := by decide +kernel
theorem dX7_asked_5 : decode cX7_asked 5 = .ok (.ifCond .ne 6, 3) := by decide +kernel
theorem dX7_asked_8 : decode cX7_asked 8 = .ok (.bipush (-101), 2) := by decide +kernel
theorem dX7_asked_10 : decode cX7_asked 10 = .ok (.ireturn, 1) := by decide +kernel
theorem dX7_asked_11 : decode cX7_asked 11 = .ok (.iload_n 2, 1) := by decide +kernel
theorem dX7_asked_12 : decode cX7_asked 12 = .ok (.iconst 0, 1) := by decide +kernel
theorem dX7_asked_13 : decode cX7_asked 13 = .ok (.bipush 9, 2) := by decide +kernel
theorem dX7_asked_15 : decode cX7_asked 15 = .ok (.invokestatic 101, 3) := by decide +kernel
theorem dX7_asked_18 : decode cX7_asked 18 = .ok (.ifCond .ne 6, 3) := by decide +kernel
theorem dX7_asked_21 : decode cX7_asked 21 = .ok (.bipush (-102), 2) := by decide +kernel
theorem dX7_asked_23 : decode cX7_asked 23 = .ok (.ireturn, 1) := by decide +kernel
theorem dX7_asked_24 : decode cX7_asked 24 = .ok (.aload_n 0, 1) := by decide +kernel
theorem dX7_asked_25 : decode cX7_asked 25 = .ok (.getfield 25, 3) := by decide +kernel
theorem dX7_asked_28 : decode cX7_asked 28 = .ok (.iload_n 1, 1) := by decide +kernel
theorem dX7_asked_29 : decode cX7_asked 29 = .ok (.iaload, 1) := by decide +kernel
theorem dX7_asked_30 : decode cX7_asked 30 = .ok (.istore_n 3, 1) := by decide +kernel
theorem dX7_asked_31 : decode cX7_asked 31 = .ok (.aload_n 0, 1) := by decide +kernel
theorem dX7_asked_32 : decode cX7_asked 32 = .ok (.getfield 25, 3) := by decide +kernel
theorem dX7_asked_35 : decode cX7_asked 35 = .ok (.iload_n 1, 1) := by decide +kernel
theorem dX7_asked_36 : decode cX7_asked 36 = .ok (.iload_n 2, 1) := by decide +kernel
theorem dX7_asked_37 : decode cX7_asked 37 = .ok (.iastore, 1) := by decide +kernel
theorem dX7_asked_38 : decode cX7_asked 38 = .ok (.iload_n 3, 1) := by decide +kernel
theorem dX7_asked_39 : decode cX7_asked 39 = .ok (.ireturn, 1) := by decide +kernel
theorem dX7_newWork_0 : decode cX7_newWork 0 = .ok (.aload_n 0, 1) := by decide +kernel
theorem dX7_newWork_1 : decode cX7_newWork 1 = .ok (.iconst 0, 1) := by decide +kernel
theorem dX7_newWork_2 : decode cX7_newWork 2 = .ok (.putfield 119, 3) := by decide +kernel
theorem dX7_newWork_5 : decode cX7_newWork 5 = .ok (.aload_n 0, 1) := by decide +kernel
theorem dX7_newWork_6 : decode cX7_newWork 6 = .ok (.iconst 0, 1) := by decide +kernel
theorem dX7_newWork_7 : decode cX7_newWork 7 = .ok (.putfield 122, 3) := by decide +kernel
theorem dX7_newWork_10 : decode cX7_newWork 10 = .ok (.aload_n 0, 1) := by decide +kernel
theorem dX7_newWork_11 : decode cX7_newWork 11 = .ok (.iconst 0, 1) := by decide +kernel
theorem dX7_newWork_12 : decode cX7_newWork 12 = .ok (.putfield 125, 3) := by decide +kernel
theorem dX7_newWork_15 : decode cX7_newWork 15 = .ok (.return_, 1) := by decide +kernel
theorem dX7_newHunk_0 : decode cX7_newHunk 0 = .ok (.aload_n 0, 1) := by decide +kernel
theorem dX7_newHunk_1 : decode cX7_newHunk 1 = .ok (.getfield 46, 3) := by decide +kernel
theorem dX7_newHunk_4 : decode cX7_newHunk 4 = .ok (.aload_n 0, 1) := by decide +kernel
theorem dX7_newHunk_5 : decode cX7_newHunk 5 = .ok (.getfield 119, 3) := by decide +kernel
theorem dX7_newHunk_8 : decode cX7_newHunk 8 = .ok (.iload_n 1, 1) := by decide +kernel
theorem dX7_newHunk_9 : decode cX7_newHunk 9 = .ok (.iastore, 1) := by decide +kernel
theorem dX7_newHunk_10 : decode cX7_newHunk 10 = .ok (.aload_n 0, 1) := by decide +kernel
theorem dX7_newHunk_11 : decode cX7_newHunk 11 = .ok (.getfield 49, 3) := by decide +kernel
theorem dX7_newHunk_14 : decode cX7_newHunk 14 = .ok (.aload_n 0, 1) := by decide +kernel
theorem dX7_newHunk_15 : decode cX7_newHunk 15 = .ok (.getfield 119, 3) := by decide +kernel
theorem dX7_newHunk_18 : decode cX7_newHunk 18 = .ok (.iconst 0, 1) := by decide +kernel
theorem dX7_newHunk_19 : decode cX7_newHunk 19 = .ok (.iastore, 1) := by decide +kernel
theorem dX7_newHunk_20 : decode cX7_newHunk 20 = .ok (.aload_n 0, 1) := by decide +kernel
theorem dX7_newHunk_21 : decode cX7_newHunk 21 = .ok (.getfield 52, 3) := by decide +kernel
theorem dX7_newHunk_24 : decode cX7_newHunk 24 = .ok (.aload_n 0, 1) := by decide +kernel
theorem dX7_newHunk_25 : decode cX7_newHunk 25 = .ok (.getfield 119, 3) := by decide +kernel
theorem dX7_newHunk_28 : decode cX7_newHunk 28 = .ok (.iconst 0, 1) := by decide +kernel
theorem dX7_newHunk_29 : decode cX7_newHunk 29 = .ok (.iastore, 1) := by decide +kernel
theorem dX7_newHunk_30 : decode cX7_newHunk 30 = .ok (.aload_n 0, 1) := by decide +kernel
theorem dX7_newHunk_31 : decode cX7_newHunk 31 = .ok (.dup, 1) := by decide +kernel
theorem dX7_newHunk_32 : decode cX7_newHunk 32 = .ok (.getfield 119, 3) := by decide +kernel
theorem dX7_newHunk_35 : decode cX7_newHunk 35 = .ok (.iconst 1, 1) := by decide +kernel
theorem dX7_newHunk_36 : decode cX7_newHunk 36 = .ok (.iadd, 1) := by decide +kernel
theorem dX7_newHunk_37 : decode cX7_newHunk 37 = .ok (.putfield 119, 3) := by decide +kernel
theorem dX7_newHunk_40 : decode cX7_newHunk 40 = .ok (.return_, 1) := by decide +kernel
theorem dX7_goes_0 : decode cX7_goes 0 = .ok (.aload_n 0, 1) := by decide +kernel
theorem dX7_goes_1 : decode cX7_goes 1 = .ok (.getfield 55, 3) := by decide +kernel
theorem dX7_goes_4 : decode cX7_goes 4 = .ok (.aload_n 0, 1) := by decide +kernel
theorem dX7_goes_5 : decode cX7_goes 5 = .ok (.getfield 122, 3) := by decide +kernel
theorem dX7_goes_8 : decode cX7_goes 8 = .ok (.iload_n 1, 1) := by decide +kernel
theorem dX7_goes_9 : decode cX7_goes 9 = .ok (.iastore, 1) := by decide +kernel
theorem dX7_goes_10 : decode cX7_goes 10 = .ok (.aload_n 0, 1) := by decide +kernel
theorem dX7_goes_11 : decode cX7_goes 11 = .ok (.dup, 1) := by decide +kernel
theorem dX7_goes_12 : decode cX7_goes 12 = .ok (.getfield 122, 3) := by decide +kernel
theorem dX7_goes_15 : decode cX7_goes 15 = .ok (.iconst 1, 1) := by decide +kernel
theorem dX7_goes_16 : decode cX7_goes 16 = .ok (.iadd, 1) := by decide +kernel
theorem dX7_goes_17 : decode cX7_goes 17 = .ok (.putfield 122, 3) := by decide +kernel
theorem dX7_goes_20 : decode cX7_goes 20 = .ok (.aload_n 0, 1) := by decide +kernel
theorem dX7_goes_21 : decode cX7_goes 21 = .ok (.getfield 49, 3) := by decide +kernel
theorem dX7_goes_24 : decode cX7_goes 24 = .ok (.aload_n 0, 1) := by decide +kernel
theorem dX7_goes_25 : decode cX7_goes 25 = .ok (.getfield 119, 3) := by decide +kernel
theorem dX7_goes_28 : decode cX7_goes 28 = .ok (.iconst 1, 1) := by decide +kernel
theorem dX7_goes_29 : decode cX7_goes 29 = .ok (.isub, 1) := by decide +kernel
theorem dX7_goes_30 : decode cX7_goes 30 = .ok (.dup2, 1) := by decide +kernel
theorem dX7_goes_31 : decode cX7_goes 31 = .ok (.iaload, 1) := by decide +kernel
theorem dX7_goes_32 : decode cX7_goes 32 = .ok (.iconst 1, 1) := by decide +kernel
theorem dX7_goes_33 : decode cX7_goes 33 = .ok (.iadd, 1) := by decide +kernel
theorem dX7_goes_34 : decode cX7_goes 34 = .ok (.iastore, 1) := by decide +kernel
theorem dX7_goes_35 : decode cX7_goes 35 = .ok (.return_, 1) := by decide +kernel
theorem dX7_comes_0 : decode cX7_comes 0 = .ok (.aload_n 0, 1) := by decide +kernel
theorem dX7_comes_1 : decode cX7_comes 1 = .ok (.getfield 58, 3) := by decide +kernel
theorem dX7_comes_4 : decode cX7_comes 4 = .ok (.aload_n 0, 1) := by decide +kernel
theorem dX7_comes_5 : decode cX7_comes 5 = .ok (.getfield 125, 3) := by decide +kernel
theorem dX7_comes_8 : decode cX7_comes 8 = .ok (.iload_n 1, 1) := by decide +kernel
theorem dX7_comes_9 : decode cX7_comes 9 = .ok (.iastore, 1) := by decide +kernel
theorem dX7_comes_10 : decode cX7_comes 10 = .ok (.aload_n 0, 1) := by decide +kernel
theorem dX7_comes_11 : decode cX7_comes 11 = .ok (.dup, 1) := by decide +kernel
theorem dX7_comes_12 : decode cX7_comes 12 = .ok (.getfield 125, 3) := by decide +kernel
theorem dX7_comes_15 : decode cX7_comes 15 = .ok (.iconst 1, 1) := by decide +kernel
theorem dX7_comes_16 : decode cX7_comes 16 = .ok (.iadd, 1) := by decide +kernel
theorem dX7_comes_17 : decode cX7_comes 17 = .ok (.putfield 125, 3) := by decide +kernel
theorem dX7_comes_20 : decode cX7_comes 20 = .ok (.aload_n 0, 1) := by decide +kernel
theorem dX7_comes_21 : decode cX7_comes 21 = .ok (.getfield 52, 3) := by decide +kernel
theorem dX7_comes_24 : decode cX7_comes 24 = .ok (.aload_n 0, 1) := by decide +kernel
theorem dX7_comes_25 : decode cX7_comes 25 = .ok (.getfield 119, 3) := by decide +kernel
theorem dX7_comes_28 : decode cX7_comes 28 = .ok (.iconst 1, 1) := by decide +kernel
theorem dX7_comes_29 : decode cX7_comes 29 = .ok (.isub, 1) := by decide +kernel
theorem dX7_comes_30 : decode cX7_comes 30 = .ok (.dup2, 1) := by decide +kernel
theorem dX7_comes_31 : decode cX7_comes 31 = .ok (.iaload, 1) := by decide +kernel
theorem dX7_comes_32 : decode cX7_comes 32 = .ok (.iconst 1, 1) := by decide +kernel
theorem dX7_comes_33 : decode cX7_comes 33 = .ok (.iadd, 1) := by decide +kernel
theorem dX7_comes_34 : decode cX7_comes 34 = .ok (.iastore, 1) := by decide +kernel
theorem dX7_comes_35 : decode cX7_comes 35 = .ok (.return_, 1) := by decide +kernel
theorem dX7_workFits_0 : decode cX7_workFits 0 = .ok (.aload_n 0, 1) := by decide +kernel
theorem dX7_workFits_1 : decode cX7_workFits 1 = .ok (.getfield 119, 3) := by decide +kernel
theorem dX7_workFits_4 : decode cX7_workFits 4 = .ok (.bipush 10, 2) := by decide +kernel
theorem dX7_workFits_6 : decode cX7_workFits 6 = .ok (.if_icmp .gt 25, 3) := by decide +kernel
theorem dX7_workFits_9 : decode cX7_workFits 9 = .ok (.aload_n 0, 1) := by decide +kernel
theorem dX7_workFits_10 : decode cX7_workFits 10 = .ok (.getfield 122, 3) := by decide +kernel
theorem dX7_workFits_13 : decode cX7_workFits 13 = .ok (.bipush 28, 2) := by decide +kernel
theorem dX7_workFits_15 : decode cX7_workFits 15 = .ok (.if_icmp .gt 16, 3) := by decide +kernel
theorem dX7_workFits_18 : decode cX7_workFits 18 = .ok (.aload_n 0, 1) := by decide +kernel
theorem dX7_workFits_19 : decode cX7_workFits 19 = .ok (.getfield 125, 3) := by decide +kernel
theorem dX7_workFits_22 : decode cX7_workFits 22 = .ok (.bipush 28, 2) := by decide +kernel
theorem dX7_workFits_24 : decode cX7_workFits 24 = .ok (.if_icmp .gt 7, 3) := by decide +kernel
theorem dX7_workFits_27 : decode cX7_workFits 27 = .ok (.iconst 1, 1) := by decide +kernel
theorem dX7_workFits_28 : decode cX7_workFits 28 = .ok (.goto 4, 3) := by decide +kernel
theorem dX7_workFits_31 : decode cX7_workFits 31 = .ok (.iconst 0, 1) := by decide +kernel
theorem dX7_workFits_32 : decode cX7_workFits 32 = .ok (.ireturn, 1) := by decide +kernel
theorem dX7_storeWork_0 : decode cX7_storeWork 0 = .ok (.aload_n 0, 1) := by decide +kernel
theorem dX7_storeWork_1 : decode cX7_storeWork 1 = .ok (.getfield 28, 3) := by decide +kernel
theorem dX7_storeWork_4 : decode cX7_storeWork 4 = .ok (.aload_n 0, 1) := by decide +kernel
theorem dX7_storeWork_5 : decode cX7_storeWork 5 = .ok (.getfield 105, 3) := by decide +kernel
theorem dX7_storeWork_8 : decode cX7_storeWork 8 = .ok (.aload_n 0, 1) := by decide +kernel
theorem dX7_storeWork_9 : decode cX7_storeWork 9 = .ok (.getfield 119, 3) := by decide +kernel
theorem dX7_storeWork_12 : decode cX7_storeWork 12 = .ok (.iastore, 1) := by decide +kernel
theorem dX7_storeWork_13 : decode cX7_storeWork 13 = .ok (.iconst 0, 1) := by decide +kernel
theorem dX7_storeWork_14 : decode cX7_storeWork 14 = .ok (.istore_n 1, 1) := by decide +kernel
theorem dX7_storeWork_15 : decode cX7_storeWork 15 = .ok (.iload_n 1, 1) := by decide +kernel
theorem dX7_storeWork_16 : decode cX7_storeWork 16 = .ok (.aload_n 0, 1) := by decide +kernel
theorem dX7_storeWork_17 : decode cX7_storeWork 17 = .ok (.getfield 119, 3) := by decide +kernel
theorem dX7_storeWork_20 : decode cX7_storeWork 20 = .ok (.if_icmp .ge 69, 3) := by decide +kernel
theorem dX7_storeWork_23 : decode cX7_storeWork 23 = .ok (.aload_n 0, 1) := by decide +kernel
theorem dX7_storeWork_24 : decode cX7_storeWork 24 = .ok (.getfield 31, 3) := by decide +kernel
theorem dX7_storeWork_27 : decode cX7_storeWork 27 = .ok (.bipush 10, 2) := by decide +kernel
theorem dX7_storeWork_29 : decode cX7_storeWork 29 = .ok (.aload_n 0, 1) := by decide +kernel
theorem dX7_storeWork_30 : decode cX7_storeWork 30 = .ok (.getfield 105, 3) := by decide +kernel
theorem dX7_storeWork_33 : decode cX7_storeWork 33 = .ok (.imul, 1) := by decide +kernel
theorem dX7_storeWork_34 : decode cX7_storeWork 34 = .ok (.iload_n 1, 1) := by decide +kernel
theorem dX7_storeWork_35 : decode cX7_storeWork 35 = .ok (.iadd, 1) := by decide +kernel
theorem dX7_storeWork_36 : decode cX7_storeWork 36 = .ok (.aload_n 0, 1) := by decide +kernel
theorem dX7_storeWork_37 : decode cX7_storeWork 37 = .ok (.getfield 46, 3) := by decide +kernel
theorem dX7_storeWork_40 : decode cX7_storeWork 40 = .ok (.iload_n 1, 1) := by decide +kernel
theorem dX7_storeWork_41 : decode cX7_storeWork 41 = .ok (.iaload, 1) := by decide +kernel
theorem dX7_storeWork_42 : decode cX7_storeWork 42 = .ok (.iastore, 1) := by decide +kernel
theorem dX7_storeWork_43 : decode cX7_storeWork 43 = .ok (.aload_n 0, 1) := by decide +kernel
theorem dX7_storeWork_44 : decode cX7_storeWork 44 = .ok (.getfield 34, 3) := by decide +kernel
theorem dX7_storeWork_47 : decode cX7_storeWork 47 = .ok (.bipush 10, 2) := by decide +kernel
theorem dX7_storeWork_49 : decode cX7_storeWork 49 = .ok (.aload_n 0, 1) := by decide +kernel
theorem dX7_storeWork_50 : decode cX7_storeWork 50 = .ok (.getfield 105, 3) := by decide +kernel
theorem dX7_storeWork_53 : decode cX7_storeWork 53 = .ok (.imul, 1) := by decide +kernel
theorem dX7_storeWork_54 : decode cX7_storeWork 54 = .ok (.iload_n 1, 1) := by decide +kernel
theorem dX7_storeWork_55 : decode cX7_storeWork 55 = .ok (.iadd, 1) := by decide +kernel
theorem dX7_storeWork_56 : decode cX7_storeWork 56 = .ok (.aload_n 0, 1) := by decide +kernel
theorem dX7_storeWork_57 : decode cX7_storeWork 57 = .ok (.getfield 49, 3) := by decide +kernel
theorem dX7_storeWork_60 : decode cX7_storeWork 60 = .ok (.iload_n 1, 1) := by decide +kernel
theorem dX7_storeWork_61 : decode cX7_storeWork 61 = .ok (.iaload, 1) := by decide +kernel
theorem dX7_storeWork_62 : decode cX7_storeWork 62 = .ok (.iastore, 1) := by decide +kernel
theorem dX7_storeWork_63 : decode cX7_storeWork 63 = .ok (.aload_n 0, 1) := by decide +kernel
theorem dX7_storeWork_64 : decode cX7_storeWork 64 = .ok (.getfield 37, 3) := by decide +kernel
theorem dX7_storeWork_67 : decode cX7_storeWork 67 = .ok (.bipush 10, 2) := by decide +kernel
theorem dX7_storeWork_69 : decode cX7_storeWork 69 = .ok (.aload_n 0, 1) := by decide +kernel
theorem dX7_storeWork_70 : decode cX7_storeWork 70 = .ok (.getfield 105, 3) := by decide +kernel
theorem dX7_storeWork_73 : decode cX7_storeWork 73 = .ok (.imul, 1) := by decide +kernel
theorem dX7_storeWork_74 : decode cX7_storeWork 74 = .ok (.iload_n 1, 1) := by decide +kernel
theorem dX7_storeWork_75 : decode cX7_storeWork 75 = .ok (.iadd, 1) := by decide +kernel
theorem dX7_storeWork_76 : decode cX7_storeWork 76 = .ok (.aload_n 0, 1) := by decide +kernel
theorem dX7_storeWork_77 : decode cX7_storeWork 77 = .ok (.getfield 52, 3) := by decide +kernel
theorem dX7_storeWork_80 : decode cX7_storeWork 80 = .ok (.iload_n 1, 1) := by decide +kernel
theorem dX7_storeWork_81 : decode cX7_storeWork 81 = .ok (.iaload, 1) := by decide +kernel
theorem dX7_storeWork_82 : decode cX7_storeWork 82 = .ok (.iastore, 1) := by decide +kernel
theorem dX7_storeWork_83 : decode cX7_storeWork 83 = .ok (.iinc 1 1, 3) := by decide +kernel
theorem dX7_storeWork_86 : decode cX7_storeWork 86 = .ok (.goto (-71), 3) := by decide +kernel
theorem dX7_storeWork_89 : decode cX7_storeWork 89 = .ok (.iconst 0, 1) := by decide +kernel
theorem dX7_storeWork_90 : decode cX7_storeWork 90 = .ok (.istore_n 1, 1) := by decide +kernel
theorem dX7_storeWork_91 : decode cX7_storeWork 91 = .ok (.iload_n 1, 1) := by decide +kernel
theorem dX7_storeWork_92 : decode cX7_storeWork 92 = .ok (.aload_n 0, 1) := by decide +kernel
theorem dX7_storeWork_93 : decode cX7_storeWork 93 = .ok (.getfield 122, 3) := by decide +kernel
theorem dX7_storeWork_96 : decode cX7_storeWork 96 = .ok (.if_icmp .ge 29, 3) := by decide +kernel
theorem dX7_storeWork_99 : decode cX7_storeWork 99 = .ok (.aload_n 0, 1) := by decide +kernel
theorem dX7_storeWork_100 : decode cX7_storeWork 100 = .ok (.getfield 40, 3) := by decide +kernel
theorem dX7_storeWork_103 : decode cX7_storeWork 103 = .ok (.bipush 28, 2) := by decide +kernel
theorem dX7_storeWork_105 : decode cX7_storeWork 105 = .ok (.aload_n 0, 1) := by decide +kernel
theorem dX7_storeWork_106 : decode cX7_storeWork 106 = .ok (.getfield 105, 3) := by decide +kernel
theorem dX7_storeWork_109 : decode cX7_storeWork 109 = .ok (.imul, 1) := by decide +kernel
theorem dX7_storeWork_110 : decode cX7_storeWork 110 = .ok (.iload_n 1, 1) := by decide +kernel
theorem dX7_storeWork_111 : decode cX7_storeWork 111 = .ok (.iadd, 1) := by decide +kernel
theorem dX7_storeWork_112 : decode cX7_storeWork 112 = .ok (.aload_n 0, 1) := by decide +kernel
theorem dX7_storeWork_113 : decode cX7_storeWork 113 = .ok (.getfield 55, 3) := by decide +kernel
theorem dX7_storeWork_116 : decode cX7_storeWork 116 = .ok (.iload_n 1, 1) := by decide +kernel
theorem dX7_storeWork_117 : decode cX7_storeWork 117 = .ok (.iaload, 1) := by decide +kernel
theorem dX7_storeWork_118 : decode cX7_storeWork 118 = .ok (.iastore, 1) := by decide +kernel
theorem dX7_storeWork_119 : decode cX7_storeWork 119 = .ok (.iinc 1 1, 3) := by decide +kernel
theorem dX7_storeWork_122 : decode cX7_storeWork 122 = .ok (.goto (-31), 3) := by decide +kernel
theorem dX7_storeWork_125 : decode cX7_storeWork 125 = .ok (.iconst 0, 1) := by decide +kernel
theorem dX7_storeWork_126 : decode cX7_storeWork 126 = .ok (.istore_n 1, 1) := by decide +kernel
theorem dX7_storeWork_127 : decode cX7_storeWork 127 = .ok (.iload_n 1, 1) := by decide +kernel
theorem dX7_storeWork_128 : decode cX7_storeWork 128 = .ok (.aload_n 0, 1) := by decide +kernel
theorem dX7_storeWork_129 : decode cX7_storeWork 129 = .ok (.getfield 125, 3) := by decide +kernel
theorem dX7_storeWork_132 : decode cX7_storeWork 132 = .ok (.if_icmp .ge 29, 3) := by decide +kernel
theorem dX7_storeWork_135 : decode cX7_storeWork 135 = .ok (.aload_n 0, 1) := by decide +kernel
theorem dX7_storeWork_136 : decode cX7_storeWork 136 = .ok (.getfield 43, 3) := by decide +kernel
theorem dX7_storeWork_139 : decode cX7_storeWork 139 = .ok (.bipush 28, 2) := by decide +kernel
theorem dX7_storeWork_141 : decode cX7_storeWork 141 = .ok (.aload_n 0, 1) := by decide +kernel
theorem dX7_storeWork_142 : decode cX7_storeWork 142 = .ok (.getfield 105, 3) := by decide +kernel
theorem dX7_storeWork_145 : decode cX7_storeWork 145 = .ok (.imul, 1) := by decide +kernel
theorem dX7_storeWork_146 : decode cX7_storeWork 146 = .ok (.iload_n 1, 1) := by decide +kernel
theorem dX7_storeWork_147 : decode cX7_storeWork 147 = .ok (.iadd, 1) := by decide +kernel
theorem dX7_storeWork_148 : decode cX7_storeWork 148 = .ok (.aload_n 0, 1) := by decide +kernel
theorem dX7_storeWork_149 : decode cX7_storeWork 149 = .ok (.getfield 58, 3) := by decide +kernel
theorem dX7_storeWork_152 : decode cX7_storeWork 152 = .ok (.iload_n 1, 1) := by decide +kernel
theorem dX7_storeWork_153 : decode cX7_storeWork 153 = .ok (.iaload, 1) := by decide +kernel
theorem dX7_storeWork_154 : decode cX7_storeWork 154 = .ok (.iastore, 1) := by decide +kernel
theorem dX7_storeWork_155 : decode cX7_storeWork 155 = .ok (.iinc 1 1, 3) := by decide +kernel
theorem dX7_storeWork_158 : decode cX7_storeWork 158 = .ok (.goto (-31), 3) := by decide +kernel
theorem dX7_storeWork_161 : decode cX7_storeWork 161 = .ok (.aload_n 0, 1) := by decide +kernel
theorem dX7_storeWork_162 : decode cX7_storeWork 162 = .ok (.dup, 1) := by decide +kernel
theorem dX7_storeWork_163 : decode cX7_storeWork 163 = .ok (.getfield 105, 3) := by decide +kernel
theorem dX7_storeWork_166 : decode cX7_storeWork 166 = .ok (.iconst 1, 1) := by decide +kernel
theorem dX7_storeWork_167 : decode cX7_storeWork 167 = .ok (.iadd, 1) := by decide +kernel
theorem dX7_storeWork_168 : decode cX7_storeWork 168 = .ok (.putfield 105, 3) := by decide +kernel
theorem dX7_storeWork_171 : decode cX7_storeWork 171 = .ok (.aload_n 0, 1) := by decide +kernel
theorem dX7_storeWork_172 : decode cX7_storeWork 172 = .ok (.getfield 105, 3) := by decide +kernel
theorem dX7_storeWork_175 : decode cX7_storeWork 175 = .ok (.iconst 1, 1) := by decide +kernel
theorem dX7_storeWork_176 : decode cX7_storeWork 176 = .ok (.isub, 1) := by decide +kernel
theorem dX7_storeWork_177 : decode cX7_storeWork 177 = .ok (.ireturn, 1) := by decide +kernel
theorem dX7_layDifference_0 : decode cX7_layDifference 0 = .ok (.aload_n 0, 1) := by decide +kernel
theorem dX7_layDifference_1 : decode cX7_layDifference 1 = .ok (.getfield 13, 3) := by decide +kernel
theorem dX7_layDifference_4 : decode cX7_layDifference 4 = .ok (.iload_n 1, 1) := by decide +kernel
theorem dX7_layDifference_5 : decode cX7_layDifference 5 = .ok (.iaload, 1) := by decide +kernel
theorem dX7_layDifference_6 : decode cX7_layDifference 6 = .ok (.istore_n 3, 1) := by decide +kernel
theorem dX7_layDifference_7 : decode cX7_layDifference 7 = .ok (.aload_n 0, 1) := by decide +kernel
theorem dX7_layDifference_8 : decode cX7_layDifference 8 = .ok (.getfield 13, 3) := by decide +kernel
theorem dX7_layDifference_11 : decode cX7_layDifference 11 = .ok (.iload_n 2, 1) := by decide +kernel
theorem dX7_layDifference_12 : decode cX7_layDifference 12 = .ok (.iaload, 1) := by decide +kernel
theorem dX7_layDifference_13 : decode cX7_layDifference 13 = .ok (.istore 4, 2) := by decide +kernel
theorem dX7_layDifference_15 : decode cX7_layDifference 15 = .ok (.iload_n 3, 1) := by decide +kernel
theorem dX7_layDifference_16 : decode cX7_layDifference 16 = .ok (.istore 5, 2) := by decide +kernel
theorem dX7_layDifference_18 : decode cX7_layDifference 18 = .ok (.iload 5, 2) := by decide +kernel
theorem dX7_layDifference_20 : decode cX7_layDifference 20 = .ok (.ifCond .lt 158, 3) := by decide +kernel
theorem dX7_layDifference_23 : decode cX7_layDifference 23 = .ok (.iload 4, 2) := by decide +kernel
theorem dX7_layDifference_25 : decode cX7_layDifference 25 = .ok (.istore 6, 2) := by decide +kernel
theorem dX7_layDifference_27 : decode cX7_layDifference 27 = .ok (.iload 6, 2) := by decide +kernel
theorem dX7_layDifference_29 : decode cX7_layDifference 29 = .ok (.ifCond .lt 143, 3) := by decide +kernel
theorem dX7_layDifference_32 : decode cX7_layDifference 32 = .ok (.iconst 0, 1) := by decide +kernel
theorem dX7_layDifference_33 : decode cX7_layDifference 33 = .ok (.istore 7, 2) := by decide +kernel
theorem dX7_layDifference_35 : decode cX7_layDifference 35 = .ok (.iload 5, 2) := by decide +kernel
theorem dX7_layDifference_37 : decode cX7_layDifference 37 = .ok (.iload_n 3, 1) := by decide +kernel
theorem dX7_layDifference_38 : decode cX7_layDifference 38 = .ok (.if_icmp .ge 113, 3) := by decide +kernel
theorem dX7_layDifference_41 : decode cX7_layDifference 41 = .ok (.iload 6, 2) := by decide +kernel
theorem dX7_layDifference_43 : decode cX7_layDifference 43 = .ok (.iload 4, 2) := by decide +kernel
theorem dX7_layDifference_45 : decode cX7_layDifference 45 = .ok (.if_icmp .ge 106, 3) := by decide +kernel
theorem dX7_layDifference_48 : decode cX7_layDifference 48 = .ok (.aload_n 0, 1) := by decide +kernel
theorem dX7_layDifference_49 : decode cX7_layDifference 49 = .ok (.getfield 61, 3) := by decide +kernel
theorem dX7_layDifference_52 : decode cX7_layDifference 52 = .ok (.bipush 15, 2) := by decide +kernel
theorem dX7_layDifference_54 : decode cX7_layDifference 54 = .ok (.iload 5, 2) := by decide +kernel
theorem dX7_layDifference_56 : decode cX7_layDifference 56 = .ok (.iconst 1, 1) := by decide +kernel
theorem dX7_layDifference_57 : decode cX7_layDifference 57 = .ok (.iadd, 1) := by decide +kernel
theorem dX7_layDifference_58 : decode cX7_layDifference 58 = .ok (.imul, 1) := by decide +kernel
theorem dX7_layDifference_59 : decode cX7_layDifference 59 = .ok (.iload 6, 2) := by decide +kernel
theorem dX7_layDifference_61 : decode cX7_layDifference 61 = .ok (.iadd, 1) := by decide +kernel
theorem dX7_layDifference_62 : decode cX7_layDifference 62 = .ok (.iaload, 1) := by decide +kernel
theorem dX7_layDifference_63 : decode cX7_layDifference 63 = .ok (.istore 8, 2) := by decide +kernel
theorem dX7_layDifference_65 : decode cX7_layDifference 65 = .ok (.aload_n 0, 1) := by decide +kernel
theorem dX7_layDifference_66 : decode cX7_layDifference 66 = .ok (.getfield 61, 3) := by decide +kernel
theorem dX7_layDifference_69 : decode cX7_layDifference 69 = .ok (.bipush 15, 2) := by decide +kernel
theorem dX7_layDifference_71 : decode cX7_layDifference 71 = .ok (.iload 5, 2) := by decide +kernel
theorem dX7_layDifference_73 : decode cX7_layDifference 73 = .ok (.imul, 1) := by decide +kernel
theorem dX7_layDifference_74 : decode cX7_layDifference 74 = .ok (.iload 6, 2) := by decide +kernel
theorem dX7_layDifference_76 : decode cX7_layDifference 76 = .ok (.iadd, 1) := by decide +kernel
theorem dX7_layDifference_77 : decode cX7_layDifference 77 = .ok (.iconst 1, 1) := by decide +kernel
theorem dX7_layDifference_78 : decode cX7_layDifference 78 = .ok (.iadd, 1) := by decide +kernel
theorem dX7_layDifference_79 : decode cX7_layDifference 79 = .ok (.iaload, 1) := by decide +kernel
theorem dX7_layDifference_80 : decode cX7_layDifference 80 = .ok (.istore 9, 2) := by decide +kernel
theorem dX7_layDifference_82 : decode cX7_layDifference 82 = .ok (.iload 8, 2) := by decide +kernel
theorem dX7_layDifference_84 : decode cX7_layDifference 84 = .ok (.iload 9, 2) := by decide +kernel
theorem dX7_layDifference_86 : decode cX7_layDifference 86 = .ok (.if_icmp .le 8, 3) := by decide +kernel
theorem dX7_layDifference_89 : decode cX7_layDifference 89 = .ok (.iload 8, 2) := by decide +kernel
theorem dX7_layDifference_91 : decode cX7_layDifference 91 = .ok (.goto 5, 3) := by decide +kernel
theorem dX7_layDifference_94 : decode cX7_layDifference 94 = .ok (.iload 9, 2) := by decide +kernel
theorem dX7_layDifference_96 : decode cX7_layDifference 96 = .ok (.istore 7, 2) := by decide +kernel
theorem dX7_layDifference_98 : decode cX7_layDifference 98 = .ok (.aload_n 0, 1) := by decide +kernel
theorem dX7_layDifference_99 : decode cX7_layDifference 99 = .ok (.getfield 16, 3) := by decide +kernel
theorem dX7_layDifference_102 : decode cX7_layDifference 102 = .ok (.bipush 14, 2) := by decide +kernel
theorem dX7_layDifference_104 : decode cX7_layDifference 104 = .ok (.iload_n 1, 1) := by decide +kernel
theorem dX7_layDifference_105 : decode cX7_layDifference 105 = .ok (.imul, 1) := by decide +kernel
theorem dX7_layDifference_106 : decode cX7_layDifference 106 = .ok (.iload 5, 2) := by decide +kernel
theorem dX7_layDifference_108 : decode cX7_layDifference 108 = .ok (.iadd, 1) := by decide +kernel
theorem dX7_layDifference_109 : decode cX7_layDifference 109 = .ok (.iaload, 1) := by decide +kernel
theorem dX7_layDifference_110 : decode cX7_layDifference 110 = .ok (.aload_n 0, 1) := by decide +kernel
theorem dX7_layDifference_111 : decode cX7_layDifference 111 = .ok (.getfield 16, 3) := by decide +kernel
theorem dX7_layDifference_114 : decode cX7_layDifference 114 = .ok (.bipush 14, 2) := by decide +kernel
theorem dX7_layDifference_116 : decode cX7_layDifference 116 = .ok (.iload_n 2, 1) := by decide +kernel
theorem dX7_layDifference_117 : decode cX7_layDifference 117 = .ok (.imul, 1) := by decide +kernel
theorem dX7_layDifference_118 : decode cX7_layDifference 118 = .ok (.iload 6, 2) := by decide +kernel
theorem dX7_layDifference_120 : decode cX7_layDifference 120 = .ok (.iadd, 1) := by decide +kernel
theorem dX7_layDifference_121 : decode cX7_layDifference 121 = .ok (.iaload, 1) := by decide +kernel
theorem dX7_layDifference_122 : decode cX7_layDifference 122 = .ok (.if_icmp .ne 25, 3) := by decide +kernel
theorem dX7_layDifference_125 : decode cX7_layDifference 125 = .ok (.aload_n 0, 1) := by decide +kernel
theorem dX7_layDifference_126 : decode cX7_layDifference 126 = .ok (.getfield 61, 3) := by decide +kernel
theorem dX7_layDifference_129 : decode cX7_layDifference 129 = .ok (.bipush 15, 2) := by decide +kernel
theorem dX7_layDifference_131 : decode cX7_layDifference 131 = .ok (.iload 5, 2) := by decide +kernel
theorem dX7_layDifference_133 : decode cX7_layDifference 133 = .ok (.iconst 1, 1) := by decide +kernel
theorem dX7_layDifference_134 : decode cX7_layDifference 134 = .ok (.iadd, 1) := by decide +kernel
theorem dX7_layDifference_135 : decode cX7_layDifference 135 = .ok (.imul, 1) := by decide +kernel
theorem dX7_layDifference_136 : decode cX7_layDifference 136 = .ok (.iload 6, 2) := by decide +kernel
theorem dX7_layDifference_138 : decode cX7_layDifference 138 = .ok (.iadd, 1) := by decide +kernel
theorem dX7_layDifference_139 : decode cX7_layDifference 139 = .ok (.iconst 1, 1) := by decide +kernel
theorem dX7_layDifference_140 : decode cX7_layDifference 140 = .ok (.iadd, 1) := by decide +kernel
theorem dX7_layDifference_141 : decode cX7_layDifference 141 = .ok (.iaload, 1) := by decide +kernel
theorem dX7_layDifference_142 : decode cX7_layDifference 142 = .ok (.iconst 1, 1) := by decide +kernel
theorem dX7_layDifference_143 : decode cX7_layDifference 143 = .ok (.iadd, 1) := by decide +kernel
theorem dX7_layDifference_144 : decode cX7_layDifference 144 = .ok (.goto 5, 3) := by decide +kernel
theorem dX7_layDifference_147 : decode cX7_layDifference 147 = .ok (.iload 7, 2) := by decide +kernel
theorem dX7_layDifference_149 : decode cX7_layDifference 149 = .ok (.istore 7, 2) := by decide +kernel
theorem dX7_layDifference_151 : decode cX7_layDifference 151 = .ok (.aload_n 0, 1) := by decide +kernel
theorem dX7_layDifference_152 : decode cX7_layDifference 152 = .ok (.getfield 61, 3) := by decide +kernel
theorem dX7_layDifference_155 : decode cX7_layDifference 155 = .ok (.bipush 15, 2) := by decide +kernel
theorem dX7_layDifference_157 : decode cX7_layDifference 157 = .ok (.iload 5, 2) := by decide +kernel
theorem dX7_layDifference_159 : decode cX7_layDifference 159 = .ok (.imul, 1) := by decide +kernel
theorem dX7_layDifference_160 : decode cX7_layDifference 160 = .ok (.iload 6, 2) := by decide +kernel
theorem dX7_layDifference_162 : decode cX7_layDifference 162 = .ok (.iadd, 1) := by decide +kernel
theorem dX7_layDifference_163 : decode cX7_layDifference 163 = .ok (.iload 7, 2) := by decide +kernel
theorem dX7_layDifference_165 : decode cX7_layDifference 165 = .ok (.iastore, 1) := by decide +kernel
theorem dX7_layDifference_166 : decode cX7_layDifference 166 = .ok (.iinc 6 (-1), 3) := by decide +kernel
theorem dX7_layDifference_169 : decode cX7_layDifference 169 = .ok (.goto (-142), 3) := by decide +kernel
theorem dX7_layDifference_172 : decode cX7_layDifference 172 = .ok (.iinc 5 (-1), 3) := by decide +kernel
theorem dX7_layDifference_175 : decode cX7_layDifference 175 = .ok (.goto (-157), 3) := by decide +kernel
theorem dX7_layDifference_178 : decode cX7_layDifference 178 = .ok (.aload_n 0, 1) := by decide +kernel
theorem dX7_layDifference_179 : decode cX7_layDifference 179 = .ok (.invokevirtual 128, 3) := by decide +kernel
theorem dX7_layDifference_182 : decode cX7_layDifference 182 = .ok (.aload_n 0, 1) := by decide +kernel
theorem dX7_layDifference_183 : decode cX7_layDifference 183 = .ok (.iconst 0, 1) := by decide +kernel
theorem dX7_layDifference_184 : decode cX7_layDifference 184 = .ok (.putfield 131, 3) := by decide +kernel
theorem dX7_layDifference_187 : decode cX7_layDifference 187 = .ok (.iconst 0, 1) := by decide +kernel
theorem dX7_layDifference_188 : decode cX7_layDifference 188 = .ok (.istore 5, 2) := by decide +kernel
theorem dX7_layDifference_190 : decode cX7_layDifference 190 = .ok (.iconst 0, 1) := by decide +kernel
theorem dX7_layDifference_191 : decode cX7_layDifference 191 = .ok (.istore 6, 2) := by decide +kernel
theorem dX7_layDifference_193 : decode cX7_layDifference 193 = .ok (.iconst 0, 1) := by decide +kernel
theorem dX7_layDifference_194 : decode cX7_layDifference 194 = .ok (.istore 7, 2) := by decide +kernel
theorem dX7_layDifference_196 : decode cX7_layDifference 196 = .ok (.iload 6, 2) := by decide +kernel
theorem dX7_layDifference_198 : decode cX7_layDifference 198 = .ok (.iload_n 3, 1) := by decide +kernel
theorem dX7_layDifference_199 : decode cX7_layDifference 199 = .ok (.if_icmp .lt 10, 3) := by decide +kernel
theorem dX7_layDifference_202 : decode cX7_layDifference 202 = .ok (.iload 7, 2) := by decide +kernel
theorem dX7_layDifference_204 : decode cX7_layDifference 204 = .ok (.iload 4, 2) := by decide +kernel
theorem dX7_layDifference_206 : decode cX7_layDifference 206 = .ok (.if_icmp .ge 208, 3) := by decide +kernel
theorem dX7_layDifference_209 : decode cX7_layDifference 209 = .ok (.iload 6, 2) := by decide +kernel
theorem dX7_layDifference_211 : decode cX7_layDifference 211 = .ok (.iload_n 3, 1) := by decide +kernel
theorem dX7_layDifference_212 : decode cX7_layDifference 212 = .ok (.if_icmp .ge 41, 3) := by decide +kernel
theorem dX7_layDifference_215 : decode cX7_layDifference 215 = .ok (.iload 7, 2) := by decide +kernel
theorem dX7_layDifference_217 : decode cX7_layDifference 217 = .ok (.iload 4, 2) := by decide +kernel
theorem dX7_layDifference_219 : decode cX7_layDifference 219 = .ok (.if_icmp .ge 34, 3) := by decide +kernel
theorem dX7_layDifference_222 : decode cX7_layDifference 222 = .ok (.aload_n 0, 1) := by decide +kernel
theorem dX7_layDifference_223 : decode cX7_layDifference 223 = .ok (.getfield 16, 3) := by decide +kernel
theorem dX7_layDifference_226 : decode cX7_layDifference 226 = .ok (.bipush 14, 2) := by decide +kernel
theorem dX7_layDifference_228 : decode cX7_layDifference 228 = .ok (.iload_n 1, 1) := by decide +kernel
theorem dX7_layDifference_229 : decode cX7_layDifference 229 = .ok (.imul, 1) := by decide +kernel
theorem dX7_layDifference_230 : decode cX7_layDifference 230 = .ok (.iload 6, 2) := by decide +kernel
theorem dX7_layDifference_232 : decode cX7_layDifference 232 = .ok (.iadd, 1) := by decide +kernel
theorem dX7_layDifference_233 : decode cX7_layDifference 233 = .ok (.iaload, 1) := by decide +kernel
theorem dX7_layDifference_234 : decode cX7_layDifference 234 = .ok (.aload_n 0, 1) := by decide +kernel
theorem dX7_layDifference_235 : decode cX7_layDifference 235 = .ok (.getfield 16, 3) := by decide +kernel
theorem dX7_layDifference_238 : decode cX7_layDifference 238 = .ok (.bipush 14, 2) := by decide +kernel
theorem dX7_layDifference_240 : decode cX7_layDifference 240 = .ok (.iload_n 2, 1) := by decide +kernel
theorem dX7_layDifference_241 : decode cX7_layDifference 241 = .ok (.imul, 1) := by decide +kernel
theorem dX7_layDifference_242 : decode cX7_layDifference 242 = .ok (.iload 7, 2) := by decide +kernel
theorem dX7_layDifference_244 : decode cX7_layDifference 244 = .ok (.iadd, 1) := by decide +kernel
theorem dX7_layDifference_245 : decode cX7_layDifference 245 = .ok (.iaload, 1) := by decide +kernel
theorem dX7_layDifference_246 : decode cX7_layDifference 246 = .ok (.if_icmp .ne 7, 3) := by decide +kernel
theorem dX7_layDifference_249 : decode cX7_layDifference 249 = .ok (.iconst 1, 1) := by decide +kernel
theorem dX7_layDifference_250 : decode cX7_layDifference 250 = .ok (.goto 4, 3) := by decide +kernel
theorem dX7_layDifference_253 : decode cX7_layDifference 253 = .ok (.iconst 0, 1) := by decide +kernel
theorem dX7_layDifference_254 : decode cX7_layDifference 254 = .ok (.istore 8, 2) := by decide +kernel
theorem dX7_layDifference_256 : decode cX7_layDifference 256 = .ok (.iload 8, 2) := by decide +kernel
theorem dX7_layDifference_258 : decode cX7_layDifference 258 = .ok (.ifCond .eq 34, 3) := by decide +kernel
theorem dX7_layDifference_261 : decode cX7_layDifference 261 = .ok (.aload_n 0, 1) := by decide +kernel
theorem dX7_layDifference_262 : decode cX7_layDifference 262 = .ok (.getfield 64, 3) := by decide +kernel
theorem dX7_layDifference_265 : decode cX7_layDifference 265 = .ok (.iload 6, 2) := by decide +kernel
theorem dX7_layDifference_267 : decode cX7_layDifference 267 = .ok (.iload 7, 2) := by decide +kernel
theorem dX7_layDifference_269 : decode cX7_layDifference 269 = .ok (.iastore, 1) := by decide +kernel
theorem dX7_layDifference_270 : decode cX7_layDifference 270 = .ok (.aload_n 0, 1) := by decide +kernel
theorem dX7_layDifference_271 : decode cX7_layDifference 271 = .ok (.dup, 1) := by decide +kernel
theorem dX7_layDifference_272 : decode cX7_layDifference 272 = .ok (.getfield 131, 3) := by decide +kernel
theorem dX7_layDifference_275 : decode cX7_layDifference 275 = .ok (.iconst 1, 1) := by decide +kernel
theorem dX7_layDifference_276 : decode cX7_layDifference 276 = .ok (.iadd, 1) := by decide +kernel
theorem dX7_layDifference_277 : decode cX7_layDifference 277 = .ok (.putfield 131, 3) := by decide +kernel
theorem dX7_layDifference_280 : decode cX7_layDifference 280 = .ok (.iconst 0, 1) := by decide +kernel
theorem dX7_layDifference_281 : decode cX7_layDifference 281 = .ok (.istore 5, 2) := by decide +kernel
theorem dX7_layDifference_283 : decode cX7_layDifference 283 = .ok (.iinc 6 1, 3) := by decide +kernel
theorem dX7_layDifference_286 : decode cX7_layDifference 286 = .ok (.iinc 7 1, 3) := by decide +kernel
theorem dX7_layDifference_289 : decode cX7_layDifference 289 = .ok (.goto 122, 3) := by decide +kernel
theorem dX7_layDifference_292 : decode cX7_layDifference 292 = .ok (.iload 5, 2) := by decide +kernel
theorem dX7_layDifference_294 : decode cX7_layDifference 294 = .ok (.ifCond .ne 9, 3) := by decide +kernel
theorem dX7_layDifference_297 : decode cX7_layDifference 297 = .ok (.aload_n 0, 1) := by decide +kernel
theorem dX7_layDifference_298 : decode cX7_layDifference 298 = .ok (.iload 6, 2) := by decide +kernel
theorem dX7_layDifference_300 : decode cX7_layDifference 300 = .ok (.invokevirtual 134, 3) := by decide +kernel
theorem dX7_layDifference_303 : decode cX7_layDifference 303 = .ok (.iconst 1, 1) := by decide +kernel
theorem dX7_layDifference_304 : decode cX7_layDifference 304 = .ok (.istore 5, 2) := by decide +kernel
theorem dX7_layDifference_306 : decode cX7_layDifference 306 = .ok (.iload 6, 2) := by decide +kernel
theorem dX7_layDifference_308 : decode cX7_layDifference 308 = .ok (.iload_n 3, 1) := by decide +kernel
theorem dX7_layDifference_309 : decode cX7_layDifference 309 = .ok (.if_icmp .ge 45, 3) := by decide +kernel
theorem dX7_layDifference_312 : decode cX7_layDifference 312 = .ok (.iload 7, 2) := by decide +kernel
theorem dX7_layDifference_314 : decode cX7_layDifference 314 = .ok (.iload 4, 2) := by decide +kernel
theorem dX7_layDifference_316 : decode cX7_layDifference 316 = .ok (.if_icmp .eq 34, 3) := by decide +kernel
theorem dX7_layDifference_319 : decode cX7_layDifference 319 = .ok (.aload_n 0, 1) := by decide +kernel
theorem dX7_layDifference_320 : decode cX7_layDifference 320 = .ok (.getfield 61, 3) := by decide +kernel
theorem dX7_layDifference_323 : decode cX7_layDifference 323 = .ok (.bipush 15, 2) := by decide +kernel
theorem dX7_layDifference_325 : decode cX7_layDifference 325 = .ok (.iload 6, 2) := by decide +kernel
theorem dX7_layDifference_327 : decode cX7_layDifference 327 = .ok (.iconst 1, 1) := by decide +kernel
theorem dX7_layDifference_328 : decode cX7_layDifference 328 = .ok (.iadd, 1) := by decide +kernel
theorem dX7_layDifference_329 : decode cX7_layDifference 329 = .ok (.imul, 1) := by decide +kernel
theorem dX7_layDifference_330 : decode cX7_layDifference 330 = .ok (.iload 7, 2) := by decide +kernel
theorem dX7_layDifference_332 : decode cX7_layDifference 332 = .ok (.iadd, 1) := by decide +kernel
theorem dX7_layDifference_333 : decode cX7_layDifference 333 = .ok (.iaload, 1) := by decide +kernel
theorem dX7_layDifference_334 : decode cX7_layDifference 334 = .ok (.aload_n 0, 1) := by decide +kernel
theorem dX7_layDifference_335 : decode cX7_layDifference 335 = .ok (.getfield 61, 3) := by decide +kernel
theorem dX7_layDifference_338 : decode cX7_layDifference 338 = .ok (.bipush 15, 2) := by decide +kernel
theorem dX7_layDifference_340 : decode cX7_layDifference 340 = .ok (.iload 6, 2) := by decide +kernel
theorem dX7_layDifference_342 : decode cX7_layDifference 342 = .ok (.imul, 1) := by decide +kernel
theorem dX7_layDifference_343 : decode cX7_layDifference 343 = .ok (.iload 7, 2) := by decide +kernel
theorem dX7_layDifference_345 : decode cX7_layDifference 345 = .ok (.iadd, 1) := by decide +kernel
theorem dX7_layDifference_346 : decode cX7_layDifference 346 = .ok (.iaload, 1) := by decide +kernel
theorem dX7_layDifference_347 : decode cX7_layDifference 347 = .ok (.if_icmp .ne 7, 3) := by decide +kernel
theorem dX7_layDifference_350 : decode cX7_layDifference 350 = .ok (.iconst 1, 1) := by decide +kernel
theorem dX7_layDifference_351 : decode cX7_layDifference 351 = .ok (.goto 4, 3) := by decide +kernel
theorem dX7_layDifference_354 : decode cX7_layDifference 354 = .ok (.iconst 0, 1) := by decide +kernel
theorem dX7_layDifference_355 : decode cX7_layDifference 355 = .ok (.istore 9, 2) := by decide +kernel
theorem dX7_layDifference_357 : decode cX7_layDifference 357 = .ok (.iload 9, 2) := by decide +kernel
theorem dX7_layDifference_359 : decode cX7_layDifference 359 = .ok (.ifCond .eq 33, 3) := by decide +kernel
theorem dX7_layDifference_362 : decode cX7_layDifference 362 = .ok (.aload_n 0, 1) := by decide +kernel
theorem dX7_layDifference_363 : decode cX7_layDifference 363 = .ok (.getfield 64, 3) := by decide +kernel
theorem dX7_layDifference_366 : decode cX7_layDifference 366 = .ok (.iload 6, 2) := by decide +kernel
theorem dX7_layDifference_368 : decode cX7_layDifference 368 = .ok (.iconst (-1), 1) := by decide +kernel
theorem dX7_layDifference_369 : decode cX7_layDifference 369 = .ok (.iastore, 1) := by decide +kernel
theorem dX7_layDifference_370 : decode cX7_layDifference 370 = .ok (.aload_n 0, 1) := by decide +kernel
theorem dX7_layDifference_371 : decode cX7_layDifference 371 = .ok (.aload_n 0, 1) := by decide +kernel
theorem dX7_layDifference_372 : decode cX7_layDifference 372 = .ok (.getfield 16, 3) := by decide +kernel
theorem dX7_layDifference_375 : decode cX7_layDifference 375 = .ok (.bipush 14, 2) := by decide +kernel
theorem dX7_layDifference_377 : decode cX7_layDifference 377 = .ok (.iload_n 1, 1) := by decide +kernel
theorem dX7_layDifference_378 : decode cX7_layDifference 378 = .ok (.imul, 1) := by decide +kernel
theorem dX7_layDifference_379 : decode cX7_layDifference 379 = .ok (.iload 6, 2) := by decide +kernel
theorem dX7_layDifference_381 : decode cX7_layDifference 381 = .ok (.iadd, 1) := by decide +kernel
theorem dX7_layDifference_382 : decode cX7_layDifference 382 = .ok (.iaload, 1) := by decide +kernel
theorem dX7_layDifference_383 : decode cX7_layDifference 383 = .ok (.invokevirtual 138, 3) := by decide +kernel
theorem dX7_layDifference_386 : decode cX7_layDifference 386 = .ok (.iinc 6 1, 3) := by decide +kernel
theorem dX7_layDifference_389 : decode cX7_layDifference 389 = .ok (.goto 22, 3) := by decide +kernel
theorem dX7_layDifference_392 : decode cX7_layDifference 392 = .ok (.aload_n 0, 1) := by decide +kernel
theorem dX7_layDifference_393 : decode cX7_layDifference 393 = .ok (.aload_n 0, 1) := by decide +kernel
theorem dX7_layDifference_394 : decode cX7_layDifference 394 = .ok (.getfield 16, 3) := by decide +kernel
theorem dX7_layDifference_397 : decode cX7_layDifference 397 = .ok (.bipush 14, 2) := by decide +kernel
theorem dX7_layDifference_399 : decode cX7_layDifference 399 = .ok (.iload_n 2, 1) := by decide +kernel
theorem dX7_layDifference_400 : decode cX7_layDifference 400 = .ok (.imul, 1) := by decide +kernel
theorem dX7_layDifference_401 : decode cX7_layDifference 401 = .ok (.iload 7, 2) := by decide +kernel
theorem dX7_layDifference_403 : decode cX7_layDifference 403 = .ok (.iadd, 1) := by decide +kernel
theorem dX7_layDifference_404 : decode cX7_layDifference 404 = .ok (.iaload, 1) := by decide +kernel
theorem dX7_layDifference_405 : decode cX7_layDifference 405 = .ok (.invokevirtual 141, 3) := by decide +kernel
theorem dX7_layDifference_408 : decode cX7_layDifference 408 = .ok (.iinc 7 1, 3) := by decide +kernel
theorem dX7_layDifference_411 : decode cX7_layDifference 411 = .ok (.goto (-215), 3) := by decide +kernel
theorem dX7_layDifference_414 : decode cX7_layDifference 414 = .ok (.return_, 1) := by decide +kernel
theorem dX7_workRoom_0 : decode cX7_workRoom 0 = .ok (.iconst 2, 1) := by decide +kernel
theorem dX7_workRoom_1 : decode cX7_workRoom 1 = .ok (.aload_n 0, 1) := by decide +kernel
theorem dX7_workRoom_2 : decode cX7_workRoom 2 = .ok (.getfield 119, 3) := by decide +kernel
theorem dX7_workRoom_5 : decode cX7_workRoom 5 = .ok (.imul, 1) := by decide +kernel
theorem dX7_workRoom_6 : decode cX7_workRoom 6 = .ok (.aload_n 0, 1) := by decide +kernel
theorem dX7_workRoom_7 : decode cX7_workRoom 7 = .ok (.getfield 125, 3) := by decide +kernel
theorem dX7_workRoom_10 : decode cX7_workRoom 10 = .ok (.iadd, 1) := by decide +kernel
theorem dX7_workRoom_11 : decode cX7_workRoom 11 = .ok (.iconst 1, 1) := by decide +kernel
theorem dX7_workRoom_12 : decode cX7_workRoom 12 = .ok (.iadd, 1) := by decide +kernel
theorem dX7_workRoom_13 : decode cX7_workRoom 13 = .ok (.ireturn, 1) := by decide +kernel
theorem dX7_differ_0 : decode cX7_differ 0 = .ok (.aload_n 0, 1) := by decide +kernel
theorem dX7_differ_1 : decode cX7_differ 1 = .ok (.iload_n 1, 1) := by decide +kernel
theorem dX7_differ_2 : decode cX7_differ 2 = .ok (.invokevirtual 111, 3) := by decide +kernel
theorem dX7_differ_5 : decode cX7_differ 5 = .ok (.ifCond .eq 11, 3) := by decide +kernel
theorem dX7_differ_8 : decode cX7_differ 8 = .ok (.aload_n 0, 1) := by decide +kernel
theorem dX7_differ_9 : decode cX7_differ 9 = .ok (.iload_n 2, 1) := by decide +kernel
theorem dX7_differ_10 : decode cX7_differ 10 = .ok (.invokevirtual 111, 3) := by decide +kernel
theorem dX7_differ_13 : decode cX7_differ 13 = .ok (.ifCond .ne 6, 3) := by decide +kernel
theorem dX7_differ_16 : decode cX7_differ 16 = .ok (.bipush (-101), 2) := by decide +kernel
theorem dX7_differ_18 : decode cX7_differ 18 = .ok (.ireturn, 1) := by decide +kernel
theorem dX7_differ_19 : decode cX7_differ 19 = .ok (.iload_n 3, 1) := by decide +kernel
theorem dX7_differ_20 : decode cX7_differ 20 = .ok (.iconst 0, 1) := by decide +kernel
theorem dX7_differ_21 : decode cX7_differ 21 = .ok (.iconst 4, 1) := by decide +kernel
theorem dX7_differ_22 : decode cX7_differ 22 = .ok (.invokestatic 101, 3) := by decide +kernel
theorem dX7_differ_25 : decode cX7_differ 25 = .ok (.ifCond .ne 6, 3) := by decide +kernel
theorem dX7_differ_28 : decode cX7_differ 28 = .ok (.bipush (-102), 2) := by decide +kernel
theorem dX7_differ_30 : decode cX7_differ 30 = .ok (.ireturn, 1) := by decide +kernel
theorem dX7_differ_31 : decode cX7_differ 31 = .ok (.aload_n 0, 1) := by decide +kernel
theorem dX7_differ_32 : decode cX7_differ 32 = .ok (.iload_n 1, 1) := by decide +kernel
theorem dX7_differ_33 : decode cX7_differ 33 = .ok (.iload_n 2, 1) := by decide +kernel
theorem dX7_differ_34 : decode cX7_differ 34 = .ok (.invokevirtual 144, 3) := by decide +kernel
theorem dX7_differ_37 : decode cX7_differ 37 = .ok (.iload_n 3, 1) := by decide +kernel
theorem dX7_differ_38 : decode cX7_differ 38 = .ok (.ifCond .ne 10, 3) := by decide +kernel
theorem dX7_differ_41 : decode cX7_differ 41 = .ok (.aload_n 0, 1) := by decide +kernel
theorem dX7_differ_42 : decode cX7_differ 42 = .ok (.getfield 131, 3) := by decide +kernel
theorem dX7_differ_45 : decode cX7_differ 45 = .ok (.goto 43, 3) := by decide +kernel
theorem dX7_differ_48 : decode cX7_differ 48 = .ok (.iload_n 3, 1) := by decide +kernel
theorem dX7_differ_49 : decode cX7_differ 49 = .ok (.iconst 1, 1) := by decide +kernel
theorem dX7_differ_50 : decode cX7_differ 50 = .ok (.if_icmp .ne 10, 3) := by decide +kernel
theorem dX7_differ_53 : decode cX7_differ 53 = .ok (.aload_n 0, 1) := by decide +kernel
theorem dX7_differ_54 : decode cX7_differ 54 = .ok (.getfield 119, 3) := by decide +kernel
theorem dX7_differ_57 : decode cX7_differ 57 = .ok (.goto 31, 3) := by decide +kernel
theorem dX7_differ_60 : decode cX7_differ 60 = .ok (.iload_n 3, 1) := by decide +kernel
theorem dX7_differ_61 : decode cX7_differ 61 = .ok (.iconst 2, 1) := by decide +kernel
theorem dX7_differ_62 : decode cX7_differ 62 = .ok (.if_icmp .ne 10, 3) := by decide +kernel
theorem dX7_differ_65 : decode cX7_differ 65 = .ok (.aload_n 0, 1) := by decide +kernel
theorem dX7_differ_66 : decode cX7_differ 66 = .ok (.getfield 122, 3) := by decide +kernel
theorem dX7_differ_69 : decode cX7_differ 69 = .ok (.goto 19, 3) := by decide +kernel
theorem dX7_differ_72 : decode cX7_differ 72 = .ok (.iload_n 3, 1) := by decide +kernel
theorem dX7_differ_73 : decode cX7_differ 73 = .ok (.iconst 3, 1) := by decide +kernel
theorem dX7_differ_74 : decode cX7_differ 74 = .ok (.if_icmp .ne 10, 3) := by decide +kernel
theorem dX7_differ_77 : decode cX7_differ 77 = .ok (.aload_n 0, 1) := by decide +kernel
theorem dX7_differ_78 : decode cX7_differ 78 = .ok (.getfield 125, 3) := by decide +kernel
theorem dX7_differ_81 : decode cX7_differ 81 = .ok (.goto 7, 3) := by decide +kernel
theorem dX7_differ_84 : decode cX7_differ 84 = .ok (.aload_n 0, 1) := by decide +kernel
theorem dX7_differ_85 : decode cX7_differ 85 = .ok (.invokevirtual 148, 3) := by decide +kernel
theorem dX7_differ_88 : decode cX7_differ 88 = .ok (.ireturn, 1) := by decide +kernel
theorem dX7_kept_0 : decode cX7_kept 0 = .ok (.aload_n 0, 1) := by decide +kernel
theorem dX7_kept_1 : decode cX7_kept 1 = .ok (.iload_n 1, 1) := by decide +kernel
theorem dX7_kept_2 : decode cX7_kept 2 = .ok (.invokevirtual 111, 3) := by decide +kernel
theorem dX7_kept_5 : decode cX7_kept 5 = .ok (.ifCond .eq 27, 3) := by decide +kernel
theorem dX7_kept_8 : decode cX7_kept 8 = .ok (.aload_n 0, 1) := by decide +kernel
theorem dX7_kept_9 : decode cX7_kept 9 = .ok (.iload_n 2, 1) := by decide +kernel
theorem dX7_kept_10 : decode cX7_kept 10 = .ok (.invokevirtual 111, 3) := by decide +kernel
theorem dX7_kept_13 : decode cX7_kept 13 = .ok (.ifCond .eq 19, 3) := by decide +kernel
theorem dX7_kept_16 : decode cX7_kept 16 = .ok (.iload_n 3, 1) := by decide +kernel
theorem dX7_kept_17 : decode cX7_kept 17 = .ok (.iconst 0, 1) := by decide +kernel
theorem dX7_kept_18 : decode cX7_kept 18 = .ok (.aload_n 0, 1) := by decide +kernel
theorem dX7_kept_19 : decode cX7_kept 19 = .ok (.getfield 13, 3) := by decide +kernel
theorem dX7_kept_22 : decode cX7_kept 22 = .ok (.iload_n 1, 1) := by decide +kernel
theorem dX7_kept_23 : decode cX7_kept 23 = .ok (.iaload, 1) := by decide +kernel
theorem dX7_kept_24 : decode cX7_kept 24 = .ok (.iconst 1, 1) := by decide +kernel
theorem dX7_kept_25 : decode cX7_kept 25 = .ok (.isub, 1) := by decide +kernel
theorem dX7_kept_26 : decode cX7_kept 26 = .ok (.invokestatic 101, 3) := by decide +kernel
theorem dX7_kept_29 : decode cX7_kept 29 = .ok (.ifCond .ne 6, 3) := by decide +kernel
theorem dX7_kept_32 : decode cX7_kept 32 = .ok (.bipush (-101), 2) := by decide +kernel
theorem dX7_kept_34 : decode cX7_kept 34 = .ok (.ireturn, 1) := by decide +kernel
theorem dX7_kept_35 : decode cX7_kept 35 = .ok (.aload_n 0, 1) := by decide +kernel
theorem dX7_kept_36 : decode cX7_kept 36 = .ok (.iload_n 1, 1) := by decide +kernel
theorem dX7_kept_37 : decode cX7_kept 37 = .ok (.iload_n 2, 1) := by decide +kernel
theorem dX7_kept_38 : decode cX7_kept 38 = .ok (.invokevirtual 144, 3) := by decide +kernel
theorem dX7_kept_41 : decode cX7_kept 41 = .ok (.aload_n 0, 1) := by decide +kernel
theorem dX7_kept_42 : decode cX7_kept 42 = .ok (.getfield 64, 3) := by decide +kernel
theorem dX7_kept_45 : decode cX7_kept 45 = .ok (.iload_n 3, 1) := by decide +kernel
theorem dX7_kept_46 : decode cX7_kept 46 = .ok (.iaload, 1) := by decide +kernel
theorem dX7_kept_47 : decode cX7_kept 47 = .ok (.ireturn, 1) := by decide +kernel
theorem dX7_patch_0 : decode cX7_patch 0 = .ok (.aload_n 0, 1) := by decide +kernel
theorem dX7_patch_1 : decode cX7_patch 1 = .ok (.iload_n 1, 1) := by decide +kernel
theorem dX7_patch_2 : decode cX7_patch 2 = .ok (.invokevirtual 111, 3) := by decide +kernel
theorem dX7_patch_5 : decode cX7_patch 5 = .ok (.ifCond .eq 11, 3) := by decide +kernel
theorem dX7_patch_8 : decode cX7_patch 8 = .ok (.aload_n 0, 1) := by decide +kernel
theorem dX7_patch_9 : decode cX7_patch 9 = .ok (.iload_n 2, 1) := by decide +kernel
theorem dX7_patch_10 : decode cX7_patch 10 = .ok (.invokevirtual 111, 3) := by decide +kernel
theorem dX7_patch_13 : decode cX7_patch 13 = .ok (.ifCond .ne 6, 3) := by decide +kernel
theorem dX7_patch_16 : decode cX7_patch 16 = .ok (.bipush (-101), 2) := by decide +kernel
theorem dX7_patch_18 : decode cX7_patch 18 = .ok (.ireturn, 1) := by decide +kernel
theorem dX7_patch_19 : decode cX7_patch 19 = .ok (.aload_n 0, 1) := by decide +kernel
theorem dX7_patch_20 : decode cX7_patch 20 = .ok (.getfield 105, 3) := by decide +kernel
theorem dX7_patch_23 : decode cX7_patch 23 = .ok (.bipush 12, 2) := by decide +kernel
theorem dX7_patch_25 : decode cX7_patch 25 = .ok (.if_icmp .ne 6, 3) := by decide +kernel
theorem dX7_patch_28 : decode cX7_patch 28 = .ok (.bipush (-104), 2) := by decide +kernel
theorem dX7_patch_30 : decode cX7_patch 30 = .ok (.ireturn, 1) := by decide +kernel
theorem dX7_patch_31 : decode cX7_patch 31 = .ok (.aload_n 0, 1) := by decide +kernel
theorem dX7_patch_32 : decode cX7_patch 32 = .ok (.iload_n 1, 1) := by decide +kernel
theorem dX7_patch_33 : decode cX7_patch 33 = .ok (.iload_n 2, 1) := by decide +kernel
theorem dX7_patch_34 : decode cX7_patch 34 = .ok (.invokevirtual 144, 3) := by decide +kernel
theorem dX7_patch_37 : decode cX7_patch 37 = .ok (.aload_n 0, 1) := by decide +kernel
theorem dX7_patch_38 : decode cX7_patch 38 = .ok (.invokevirtual 152, 3) := by decide +kernel
theorem dX7_patch_41 : decode cX7_patch 41 = .ok (.ireturn, 1) := by decide +kernel
theorem dX7_blank_0 : decode cX7_blank 0 = .ok (.aload_n 0, 1) := by decide +kernel
theorem dX7_blank_1 : decode cX7_blank 1 = .ok (.getfield 105, 3) := by decide +kernel
theorem dX7_blank_4 : decode cX7_blank 4 = .ok (.bipush 12, 2) := by decide +kernel
theorem dX7_blank_6 : decode cX7_blank 6 = .ok (.if_icmp .ne 6, 3) := by decide +kernel
theorem dX7_blank_9 : decode cX7_blank 9 = .ok (.bipush (-104), 2) := by decide +kernel
theorem dX7_blank_11 : decode cX7_blank 11 = .ok (.ireturn, 1) := by decide +kernel
theorem dX7_blank_12 : decode cX7_blank 12 = .ok (.aload_n 0, 1) := by decide +kernel
theorem dX7_blank_13 : decode cX7_blank 13 = .ok (.invokevirtual 128, 3) := by decide +kernel
theorem dX7_blank_16 : decode cX7_blank 16 = .ok (.aload_n 0, 1) := by decide +kernel
theorem dX7_blank_17 : decode cX7_blank 17 = .ok (.invokevirtual 152, 3) := by decide +kernel
theorem dX7_blank_20 : decode cX7_blank 20 = .ok (.ireturn, 1) := by decide +kernel
theorem dX7_goesOf_0 : decode cX7_goesOf 0 = .ok (.iconst 0, 1) := by decide +kernel
theorem dX7_goesOf_1 : decode cX7_goesOf 1 = .ok (.istore_n 2, 1) := by decide +kernel
theorem dX7_goesOf_2 : decode cX7_goesOf 2 = .ok (.iconst 0, 1) := by decide +kernel
theorem dX7_goesOf_3 : decode cX7_goesOf 3 = .ok (.istore_n 3, 1) := by decide +kernel
theorem dX7_goesOf_4 : decode cX7_goesOf 4 = .ok (.iload_n 3, 1) := by decide +kernel
theorem dX7_goesOf_5 : decode cX7_goesOf 5 = .ok (.aload_n 0, 1) := by decide +kernel
theorem dX7_goesOf_6 : decode cX7_goesOf 6 = .ok (.getfield 28, 3) := by decide +kernel
theorem dX7_goesOf_9 : decode cX7_goesOf 9 = .ok (.iload_n 1, 1) := by decide +kernel
theorem dX7_goesOf_10 : decode cX7_goesOf 10 = .ok (.iaload, 1) := by decide +kernel
theorem dX7_goesOf_11 : decode cX7_goesOf 11 = .ok (.if_icmp .ge 23, 3) := by decide +kernel
theorem dX7_goesOf_14 : decode cX7_goesOf 14 = .ok (.iload_n 2, 1) := by decide +kernel
theorem dX7_goesOf_15 : decode cX7_goesOf 15 = .ok (.aload_n 0, 1) := by decide +kernel
theorem dX7_goesOf_16 : decode cX7_goesOf 16 = .ok (.getfield 34, 3) := by decide +kernel
theorem dX7_goesOf_19 : decode cX7_goesOf 19 = .ok (.bipush 10, 2) := by decide +kernel
theorem dX7_goesOf_21 : decode cX7_goesOf 21 = .ok (.iload_n 1, 1) := by decide +kernel
theorem dX7_goesOf_22 : decode cX7_goesOf 22 = .ok (.imul, 1) := by decide +kernel
theorem dX7_goesOf_23 : decode cX7_goesOf 23 = .ok (.iload_n 3, 1) := by decide +kernel
theorem dX7_goesOf_24 : decode cX7_goesOf 24 = .ok (.iadd, 1) := by decide +kernel
theorem dX7_goesOf_25 : decode cX7_goesOf 25 = .ok (.iaload, 1) := by decide +kernel
theorem dX7_goesOf_26 : decode cX7_goesOf 26 = .ok (.iadd, 1) := by decide +kernel
theorem dX7_goesOf_27 : decode cX7_goesOf 27 = .ok (.istore_n 2, 1) := by decide +kernel
theorem dX7_goesOf_28 : decode cX7_goesOf 28 = .ok (.iinc 3 1, 3) := by decide +kernel
theorem dX7_goesOf_31 : decode cX7_goesOf 31 = .ok (.goto (-27), 3) := by decide +kernel
theorem dX7_goesOf_34 : decode cX7_goesOf 34 = .ok (.iload_n 2, 1) := by decide +kernel
theorem dX7_goesOf_35 : decode cX7_goesOf 35 = .ok (.ireturn, 1) := by decide +kernel
theorem dX7_comesOf_0 : decode cX7_comesOf 0 = .ok (.iconst 0, 1) := by decide +kernel
theorem dX7_comesOf_1 : decode cX7_comesOf 1 = .ok (.istore_n 2, 1) := by decide +kernel
theorem dX7_comesOf_2 : decode cX7_comesOf 2 = .ok (.iconst 0, 1) := by decide +kernel
theorem dX7_comesOf_3 : decode cX7_comesOf 3 = .ok (.istore_n 3, 1) := by decide +kernel
theorem dX7_comesOf_4 : decode cX7_comesOf 4 = .ok (.iload_n 3, 1) := by decide +kernel
theorem dX7_comesOf_5 : decode cX7_comesOf 5 = .ok (.aload_n 0, 1) := by decide +kernel
theorem dX7_comesOf_6 : decode cX7_comesOf 6 = .ok (.getfield 28, 3) := by decide +kernel
theorem dX7_comesOf_9 : decode cX7_comesOf 9 = .ok (.iload_n 1, 1) := by decide +kernel
theorem dX7_comesOf_10 : decode cX7_comesOf 10 = .ok (.iaload, 1) := by decide +kernel
theorem dX7_comesOf_11 : decode cX7_comesOf 11 = .ok (.if_icmp .ge 23, 3) := by decide +kernel
theorem dX7_comesOf_14 : decode cX7_comesOf 14 = .ok (.iload_n 2, 1) := by decide +kernel
theorem dX7_comesOf_15 : decode cX7_comesOf 15 = .ok (.aload_n 0, 1) := by decide +kernel
theorem dX7_comesOf_16 : decode cX7_comesOf 16 = .ok (.getfield 37, 3) := by decide +kernel
theorem dX7_comesOf_19 : decode cX7_comesOf 19 = .ok (.bipush 10, 2) := by decide +kernel
theorem dX7_comesOf_21 : decode cX7_comesOf 21 = .ok (.iload_n 1, 1) := by decide +kernel
theorem dX7_comesOf_22 : decode cX7_comesOf 22 = .ok (.imul, 1) := by decide +kernel
theorem dX7_comesOf_23 : decode cX7_comesOf 23 = .ok (.iload_n 3, 1) := by decide +kernel
theorem dX7_comesOf_24 : decode cX7_comesOf 24 = .ok (.iadd, 1) := by decide +kernel
theorem dX7_comesOf_25 : decode cX7_comesOf 25 = .ok (.iaload, 1) := by decide +kernel
theorem dX7_comesOf_26 : decode cX7_comesOf 26 = .ok (.iadd, 1) := by decide +kernel
theorem dX7_comesOf_27 : decode cX7_comesOf 27 = .ok (.istore_n 2, 1) := by decide +kernel
theorem dX7_comesOf_28 : decode cX7_comesOf 28 = .ok (.iinc 3 1, 3) := by decide +kernel
theorem dX7_comesOf_31 : decode cX7_comesOf 31 = .ok (.goto (-27), 3) := by decide +kernel
theorem dX7_comesOf_34 : decode cX7_comesOf 34 = .ok (.iload_n 2, 1) := by decide +kernel
theorem dX7_comesOf_35 : decode cX7_comesOf 35 = .ok (.ireturn, 1) := by decide +kernel
theorem dX7_hunk_0 : decode cX7_hunk 0 = .ok (.aload_n 0, 1) := by decide +kernel
theorem dX7_hunk_1 : decode cX7_hunk 1 = .ok (.iload_n 1, 1) := by decide +kernel
theorem dX7_hunk_2 : decode cX7_hunk 2 = .ok (.invokevirtual 155, 3) := by decide +kernel
theorem dX7_hunk_5 : decode cX7_hunk 5 = .ok (.ifCond .ne 6, 3) := by decide +kernel
theorem dX7_hunk_8 : decode cX7_hunk 8 = .ok (.bipush (-101), 2) := by decide +kernel
theorem dX7_hunk_10 : decode cX7_hunk 10 = .ok (.ireturn, 1) := by decide +kernel
theorem dX7_hunk_11 : decode cX7_hunk 11 = .ok (.aload_n 0, 1) := by decide +kernel
theorem dX7_hunk_12 : decode cX7_hunk 12 = .ok (.getfield 28, 3) := by decide +kernel
theorem dX7_hunk_15 : decode cX7_hunk 15 = .ok (.iload_n 1, 1) := by decide +kernel
theorem dX7_hunk_16 : decode cX7_hunk 16 = .ok (.iaload, 1) := by decide +kernel
theorem dX7_hunk_17 : decode cX7_hunk 17 = .ok (.istore 5, 2) := by decide +kernel
theorem dX7_hunk_19 : decode cX7_hunk 19 = .ok (.bipush 10, 2) := by decide +kernel
theorem dX7_hunk_21 : decode cX7_hunk 21 = .ok (.iload_n 1, 1) := by decide +kernel
theorem dX7_hunk_22 : decode cX7_hunk 22 = .ok (.imul, 1) := by decide +kernel
theorem dX7_hunk_23 : decode cX7_hunk 23 = .ok (.iload 5, 2) := by decide +kernel
theorem dX7_hunk_25 : decode cX7_hunk 25 = .ok (.iadd, 1) := by decide +kernel
theorem dX7_hunk_26 : decode cX7_hunk 26 = .ok (.iconst 1, 1) := by decide +kernel
theorem dX7_hunk_27 : decode cX7_hunk 27 = .ok (.isub, 1) := by decide +kernel
theorem dX7_hunk_28 : decode cX7_hunk 28 = .ok (.istore 6, 2) := by decide +kernel
theorem dX7_hunk_30 : decode cX7_hunk 30 = .ok (.iload 5, 2) := by decide +kernel
theorem dX7_hunk_32 : decode cX7_hunk 32 = .ok (.ifCond .eq 22, 3) := by decide +kernel
theorem dX7_hunk_35 : decode cX7_hunk 35 = .ok (.iload_n 2, 1) := by decide +kernel
theorem dX7_hunk_36 : decode cX7_hunk 36 = .ok (.aload_n 0, 1) := by decide +kernel
theorem dX7_hunk_37 : decode cX7_hunk 37 = .ok (.getfield 31, 3) := by decide +kernel
theorem dX7_hunk_40 : decode cX7_hunk 40 = .ok (.iload 6, 2) := by decide +kernel
theorem dX7_hunk_42 : decode cX7_hunk 42 = .ok (.iaload, 1) := by decide +kernel
theorem dX7_hunk_43 : decode cX7_hunk 43 = .ok (.aload_n 0, 1) := by decide +kernel
theorem dX7_hunk_44 : decode cX7_hunk 44 = .ok (.getfield 34, 3) := by decide +kernel
theorem dX7_hunk_47 : decode cX7_hunk 47 = .ok (.iload 6, 2) := by decide +kernel
theorem dX7_hunk_49 : decode cX7_hunk 49 = .ok (.iaload, 1) := by decide +kernel
theorem dX7_hunk_50 : decode cX7_hunk 50 = .ok (.iadd, 1) := by decide +kernel
theorem dX7_hunk_51 : decode cX7_hunk 51 = .ok (.if_icmp .le 7, 3) := by decide +kernel
theorem dX7_hunk_54 : decode cX7_hunk 54 = .ok (.iconst 1, 1) := by decide +kernel
theorem dX7_hunk_55 : decode cX7_hunk 55 = .ok (.goto 4, 3) := by decide +kernel
theorem dX7_hunk_58 : decode cX7_hunk 58 = .ok (.iconst 0, 1) := by decide +kernel
theorem dX7_hunk_59 : decode cX7_hunk 59 = .ok (.istore 7, 2) := by decide +kernel
theorem dX7_hunk_61 : decode cX7_hunk 61 = .ok (.iload_n 2, 1) := by decide +kernel
theorem dX7_hunk_62 : decode cX7_hunk 62 = .ok (.iconst 0, 1) := by decide +kernel
theorem dX7_hunk_63 : decode cX7_hunk 63 = .ok (.bipush 14, 2) := by decide +kernel
theorem dX7_hunk_65 : decode cX7_hunk 65 = .ok (.invokestatic 101, 3) := by decide +kernel
theorem dX7_hunk_68 : decode cX7_hunk 68 = .ok (.ifCond .eq 40, 3) := by decide +kernel
theorem dX7_hunk_71 : decode cX7_hunk 71 = .ok (.iload_n 3, 1) := by decide +kernel
theorem dX7_hunk_72 : decode cX7_hunk 72 = .ok (.iconst (-1), 1) := by decide +kernel
theorem dX7_hunk_73 : decode cX7_hunk 73 = .ok (.bipush 99, 2) := by decide +kernel
theorem dX7_hunk_75 : decode cX7_hunk 75 = .ok (.invokestatic 101, 3) := by decide +kernel
theorem dX7_hunk_78 : decode cX7_hunk 78 = .ok (.ifCond .eq 30, 3) := by decide +kernel
theorem dX7_hunk_81 : decode cX7_hunk 81 = .ok (.iload 4, 2) := by decide +kernel
theorem dX7_hunk_83 : decode cX7_hunk 83 = .ok (.iconst (-1), 1) := by decide +kernel
theorem dX7_hunk_84 : decode cX7_hunk 84 = .ok (.bipush 99, 2) := by decide +kernel
theorem dX7_hunk_86 : decode cX7_hunk 86 = .ok (.invokestatic 101, 3) := by decide +kernel
theorem dX7_hunk_89 : decode cX7_hunk 89 = .ok (.ifCond .eq 19, 3) := by decide +kernel
theorem dX7_hunk_92 : decode cX7_hunk 92 = .ok (.iload_n 3, 1) := by decide +kernel
theorem dX7_hunk_93 : decode cX7_hunk 93 = .ok (.iconst (-1), 1) := by decide +kernel
theorem dX7_hunk_94 : decode cX7_hunk 94 = .ok (.if_icmp .ne 9, 3) := by decide +kernel
theorem dX7_hunk_97 : decode cX7_hunk 97 = .ok (.iload 4, 2) := by decide +kernel
theorem dX7_hunk_99 : decode cX7_hunk 99 = .ok (.iconst (-1), 1) := by decide +kernel
theorem dX7_hunk_100 : decode cX7_hunk 100 = .ok (.if_icmp .eq 8, 3) := by decide +kernel
theorem dX7_hunk_103 : decode cX7_hunk 103 = .ok (.iload 7, 2) := by decide +kernel
theorem dX7_hunk_105 : decode cX7_hunk 105 = .ok (.ifCond .ne 6, 3) := by decide +kernel
theorem dX7_hunk_108 : decode cX7_hunk 108 = .ok (.bipush (-102), 2) := by decide +kernel
theorem dX7_hunk_110 : decode cX7_hunk 110 = .ok (.ireturn, 1) := by decide +kernel
theorem dX7_hunk_111 : decode cX7_hunk 111 = .ok (.aload_n 0, 1) := by decide +kernel
theorem dX7_hunk_112 : decode cX7_hunk 112 = .ok (.iload_n 1, 1) := by decide +kernel
theorem dX7_hunk_113 : decode cX7_hunk 113 = .ok (.invokevirtual 158, 3) := by decide +kernel
theorem dX7_hunk_116 : decode cX7_hunk 116 = .ok (.istore 8, 2) := by decide +kernel
theorem dX7_hunk_118 : decode cX7_hunk 118 = .ok (.aload_n 0, 1) := by decide +kernel
theorem dX7_hunk_119 : decode cX7_hunk 119 = .ok (.iload_n 1, 1) := by decide +kernel
theorem dX7_hunk_120 : decode cX7_hunk 120 = .ok (.invokevirtual 162, 3) := by decide +kernel
theorem dX7_hunk_123 : decode cX7_hunk 123 = .ok (.istore 9, 2) := by decide +kernel
theorem dX7_hunk_125 : decode cX7_hunk 125 = .ok (.iload 5, 2) := by decide +kernel
theorem dX7_hunk_127 : decode cX7_hunk 127 = .ok (.bipush 10, 2) := by decide +kernel
theorem dX7_hunk_129 : decode cX7_hunk 129 = .ok (.if_icmp .eq 28, 3) := by decide +kernel
theorem dX7_hunk_132 : decode cX7_hunk 132 = .ok (.iload_n 3, 1) := by decide +kernel
theorem dX7_hunk_133 : decode cX7_hunk 133 = .ok (.iconst (-1), 1) := by decide +kernel
theorem dX7_hunk_134 : decode cX7_hunk 134 = .ok (.if_icmp .eq 10, 3) := by decide +kernel
theorem dX7_hunk_137 : decode cX7_hunk 137 = .ok (.iload 8, 2) := by decide +kernel
theorem dX7_hunk_139 : decode cX7_hunk 139 = .ok (.bipush 28, 2) := by decide +kernel
theorem dX7_hunk_141 : decode cX7_hunk 141 = .ok (.if_icmp .eq 16, 3) := by decide +kernel
theorem dX7_hunk_144 : decode cX7_hunk 144 = .ok (.iload 4, 2) := by decide +kernel
theorem dX7_hunk_146 : decode cX7_hunk 146 = .ok (.iconst (-1), 1) := by decide +kernel
theorem dX7_hunk_147 : decode cX7_hunk 147 = .ok (.if_icmp .eq 13, 3) := by decide +kernel
theorem dX7_hunk_150 : decode cX7_hunk 150 = .ok (.iload 9, 2) := by decide +kernel
theorem dX7_hunk_152 : decode cX7_hunk 152 = .ok (.bipush 28, 2) := by decide +kernel
theorem dX7_hunk_154 : decode cX7_hunk 154 = .ok (.if_icmp .ne 6, 3) := by decide +kernel
theorem dX7_hunk_157 : decode cX7_hunk 157 = .ok (.bipush (-104), 2) := by decide +kernel
theorem dX7_hunk_159 : decode cX7_hunk 159 = .ok (.ireturn, 1) := by decide +kernel
theorem dX7_hunk_160 : decode cX7_hunk 160 = .ok (.aload_n 0, 1) := by decide +kernel
theorem dX7_hunk_161 : decode cX7_hunk 161 = .ok (.getfield 31, 3) := by decide +kernel
theorem dX7_hunk_164 : decode cX7_hunk 164 = .ok (.bipush 10, 2) := by decide +kernel
theorem dX7_hunk_166 : decode cX7_hunk 166 = .ok (.iload_n 1, 1) := by decide +kernel
theorem dX7_hunk_167 : decode cX7_hunk 167 = .ok (.imul, 1) := by decide +kernel
theorem dX7_hunk_168 : decode cX7_hunk 168 = .ok (.iload 5, 2) := by decide +kernel
theorem dX7_hunk_170 : decode cX7_hunk 170 = .ok (.iadd, 1) := by decide +kernel
theorem dX7_hunk_171 : decode cX7_hunk 171 = .ok (.iload_n 2, 1) := by decide +kernel
theorem dX7_hunk_172 : decode cX7_hunk 172 = .ok (.iastore, 1) := by decide +kernel
theorem dX7_hunk_173 : decode cX7_hunk 173 = .ok (.aload_n 0, 1) := by decide +kernel
theorem dX7_hunk_174 : decode cX7_hunk 174 = .ok (.getfield 34, 3) := by decide +kernel
theorem dX7_hunk_177 : decode cX7_hunk 177 = .ok (.bipush 10, 2) := by decide +kernel
theorem dX7_hunk_179 : decode cX7_hunk 179 = .ok (.iload_n 1, 1) := by decide +kernel
theorem dX7_hunk_180 : decode cX7_hunk 180 = .ok (.imul, 1) := by decide +kernel
theorem dX7_hunk_181 : decode cX7_hunk 181 = .ok (.iload 5, 2) := by decide +kernel
theorem dX7_hunk_183 : decode cX7_hunk 183 = .ok (.iadd, 1) := by decide +kernel
theorem dX7_hunk_184 : decode cX7_hunk 184 = .ok (.iload_n 3, 1) := by decide +kernel
theorem dX7_hunk_185 : decode cX7_hunk 185 = .ok (.iconst (-1), 1) := by decide +kernel
theorem dX7_hunk_186 : decode cX7_hunk 186 = .ok (.if_icmp .ne 7, 3) := by decide +kernel
theorem dX7_hunk_189 : decode cX7_hunk 189 = .ok (.iconst 0, 1) := by decide +kernel
theorem dX7_hunk_190 : decode cX7_hunk 190 = .ok (.goto 4, 3) := by decide +kernel
theorem dX7_hunk_193 : decode cX7_hunk 193 = .ok (.iconst 1, 1) := by decide +kernel
theorem dX7_hunk_194 : decode cX7_hunk 194 = .ok (.iastore, 1) := by decide +kernel
theorem dX7_hunk_195 : decode cX7_hunk 195 = .ok (.aload_n 0, 1) := by decide +kernel
theorem dX7_hunk_196 : decode cX7_hunk 196 = .ok (.getfield 37, 3) := by decide +kernel
theorem dX7_hunk_199 : decode cX7_hunk 199 = .ok (.bipush 10, 2) := by decide +kernel
theorem dX7_hunk_201 : decode cX7_hunk 201 = .ok (.iload_n 1, 1) := by decide +kernel
theorem dX7_hunk_202 : decode cX7_hunk 202 = .ok (.imul, 1) := by decide +kernel
theorem dX7_hunk_203 : decode cX7_hunk 203 = .ok (.iload 5, 2) := by decide +kernel
theorem dX7_hunk_205 : decode cX7_hunk 205 = .ok (.iadd, 1) := by decide +kernel
theorem dX7_hunk_206 : decode cX7_hunk 206 = .ok (.iload 4, 2) := by decide +kernel
theorem dX7_hunk_208 : decode cX7_hunk 208 = .ok (.iconst (-1), 1) := by decide +kernel
theorem dX7_hunk_209 : decode cX7_hunk 209 = .ok (.if_icmp .ne 7, 3) := by decide +kernel
theorem dX7_hunk_212 : decode cX7_hunk 212 = .ok (.iconst 0, 1) := by decide +kernel
theorem dX7_hunk_213 : decode cX7_hunk 213 = .ok (.goto 4, 3) := by decide +kernel
theorem dX7_hunk_216 : decode cX7_hunk 216 = .ok (.iconst 1, 1) := by decide +kernel
theorem dX7_hunk_217 : decode cX7_hunk 217 = .ok (.iastore, 1) := by decide +kernel
theorem dX7_hunk_218 : decode cX7_hunk 218 = .ok (.iload_n 3, 1) := by decide +kernel
theorem dX7_hunk_219 : decode cX7_hunk 219 = .ok (.iconst (-1), 1) := by decide +kernel
theorem dX7_hunk_220 : decode cX7_hunk 220 = .ok (.if_icmp .eq 16, 3) := by decide +kernel
theorem dX7_hunk_223 : decode cX7_hunk 223 = .ok (.aload_n 0, 1) := by decide +kernel
theorem dX7_hunk_224 : decode cX7_hunk 224 = .ok (.getfield 40, 3) := by decide +kernel
theorem dX7_hunk_227 : decode cX7_hunk 227 = .ok (.bipush 28, 2) := by decide +kernel
theorem dX7_hunk_229 : decode cX7_hunk 229 = .ok (.iload_n 1, 1) := by decide +kernel
theorem dX7_hunk_230 : decode cX7_hunk 230 = .ok (.imul, 1) := by decide +kernel
theorem dX7_hunk_231 : decode cX7_hunk 231 = .ok (.iload 8, 2) := by decide +kernel
theorem dX7_hunk_233 : decode cX7_hunk 233 = .ok (.iadd, 1) := by decide +kernel
theorem dX7_hunk_234 : decode cX7_hunk 234 = .ok (.iload_n 3, 1) := by decide +kernel
theorem dX7_hunk_235 : decode cX7_hunk 235 = .ok (.iastore, 1) := by decide +kernel
theorem dX7_hunk_236 : decode cX7_hunk 236 = .ok (.iload 4, 2) := by decide +kernel
theorem dX7_hunk_238 : decode cX7_hunk 238 = .ok (.iconst (-1), 1) := by decide +kernel
theorem dX7_hunk_239 : decode cX7_hunk 239 = .ok (.if_icmp .eq 17, 3) := by decide +kernel
theorem dX7_hunk_242 : decode cX7_hunk 242 = .ok (.aload_n 0, 1) := by decide +kernel
theorem dX7_hunk_243 : decode cX7_hunk 243 = .ok (.getfield 43, 3) := by decide +kernel
theorem dX7_hunk_246 : decode cX7_hunk 246 = .ok (.bipush 28, 2) := by decide +kernel
theorem dX7_hunk_248 : decode cX7_hunk 248 = .ok (.iload_n 1, 1) := by decide +kernel
theorem dX7_hunk_249 : decode cX7_hunk 249 = .ok (.imul, 1) := by decide +kernel
theorem dX7_hunk_250 : decode cX7_hunk 250 = .ok (.iload 9, 2) := by decide +kernel
theorem dX7_hunk_252 : decode cX7_hunk 252 = .ok (.iadd, 1) := by decide +kernel
theorem dX7_hunk_253 : decode cX7_hunk 253 = .ok (.iload 4, 2) := by decide +kernel
theorem dX7_hunk_255 : decode cX7_hunk 255 = .ok (.iastore, 1) := by decide +kernel
theorem dX7_hunk_256 : decode cX7_hunk 256 = .ok (.aload_n 0, 1) := by decide +kernel
theorem dX7_hunk_257 : decode cX7_hunk 257 = .ok (.getfield 28, 3) := by decide +kernel
theorem dX7_hunk_260 : decode cX7_hunk 260 = .ok (.iload_n 1, 1) := by decide +kernel
theorem dX7_hunk_261 : decode cX7_hunk 261 = .ok (.dup2, 1) := by decide +kernel
theorem dX7_hunk_262 : decode cX7_hunk 262 = .ok (.iaload, 1) := by decide +kernel
theorem dX7_hunk_263 : decode cX7_hunk 263 = .ok (.iconst 1, 1) := by decide +kernel
theorem dX7_hunk_264 : decode cX7_hunk 264 = .ok (.iadd, 1) := by decide +kernel
theorem dX7_hunk_265 : decode cX7_hunk 265 = .ok (.iastore, 1) := by decide +kernel
theorem dX7_hunk_266 : decode cX7_hunk 266 = .ok (.aload_n 0, 1) := by decide +kernel
theorem dX7_hunk_267 : decode cX7_hunk 267 = .ok (.getfield 28, 3) := by decide +kernel
theorem dX7_hunk_270 : decode cX7_hunk 270 = .ok (.iload_n 1, 1) := by decide +kernel
theorem dX7_hunk_271 : decode cX7_hunk 271 = .ok (.iaload, 1) := by decide +kernel
theorem dX7_hunk_272 : decode cX7_hunk 272 = .ok (.ireturn, 1) := by decide +kernel
theorem dX7_ofPatch_0 : decode cX7_ofPatch 0 = .ok (.iload_n 2, 1) := by decide +kernel
theorem dX7_ofPatch_1 : decode cX7_ofPatch 1 = .ok (.ifCond .ne 12, 3) := by decide +kernel
theorem dX7_ofPatch_4 : decode cX7_ofPatch 4 = .ok (.aload_n 0, 1) := by decide +kernel
theorem dX7_ofPatch_5 : decode cX7_ofPatch 5 = .ok (.getfield 28, 3) := by decide +kernel
theorem dX7_ofPatch_8 : decode cX7_ofPatch 8 = .ok (.iload_n 1, 1) := by decide +kernel
theorem dX7_ofPatch_9 : decode cX7_ofPatch 9 = .ok (.iaload, 1) := by decide +kernel
theorem dX7_ofPatch_10 : decode cX7_ofPatch 10 = .ok (.goto 45, 3) := by decide +kernel
theorem dX7_ofPatch_13 : decode cX7_ofPatch 13 = .ok (.iload_n 2, 1) := by decide +kernel
theorem dX7_ofPatch_14 : decode cX7_ofPatch 14 = .ok (.iconst 1, 1) := by decide +kernel
theorem dX7_ofPatch_15 : decode cX7_ofPatch 15 = .ok (.if_icmp .ne 11, 3) := by decide +kernel
theorem dX7_ofPatch_18 : decode cX7_ofPatch 18 = .ok (.aload_n 0, 1) := by decide +kernel
theorem dX7_ofPatch_19 : decode cX7_ofPatch 19 = .ok (.iload_n 1, 1) := by decide +kernel
theorem dX7_ofPatch_20 : decode cX7_ofPatch 20 = .ok (.invokevirtual 158, 3) := by decide +kernel
theorem dX7_ofPatch_23 : decode cX7_ofPatch 23 = .ok (.goto 32, 3) := by decide +kernel
theorem dX7_ofPatch_26 : decode cX7_ofPatch 26 = .ok (.iload_n 2, 1) := by decide +kernel
theorem dX7_ofPatch_27 : decode cX7_ofPatch 27 = .ok (.iconst 2, 1) := by decide +kernel
theorem dX7_ofPatch_28 : decode cX7_ofPatch 28 = .ok (.if_icmp .ne 11, 3) := by decide +kernel
theorem dX7_ofPatch_31 : decode cX7_ofPatch 31 = .ok (.aload_n 0, 1) := by decide +kernel
theorem dX7_ofPatch_32 : decode cX7_ofPatch 32 = .ok (.iload_n 1, 1) := by decide +kernel
theorem dX7_ofPatch_33 : decode cX7_ofPatch 33 = .ok (.invokevirtual 162, 3) := by decide +kernel
theorem dX7_ofPatch_36 : decode cX7_ofPatch 36 = .ok (.goto 19, 3) := by decide +kernel
theorem dX7_ofPatch_39 : decode cX7_ofPatch 39 = .ok (.iconst 2, 1) := by decide +kernel
theorem dX7_ofPatch_40 : decode cX7_ofPatch 40 = .ok (.aload_n 0, 1) := by decide +kernel
theorem dX7_ofPatch_41 : decode cX7_ofPatch 41 = .ok (.getfield 28, 3) := by decide +kernel
theorem dX7_ofPatch_44 : decode cX7_ofPatch 44 = .ok (.iload_n 1, 1) := by decide +kernel
theorem dX7_ofPatch_45 : decode cX7_ofPatch 45 = .ok (.iaload, 1) := by decide +kernel
theorem dX7_ofPatch_46 : decode cX7_ofPatch 46 = .ok (.imul, 1) := by decide +kernel
theorem dX7_ofPatch_47 : decode cX7_ofPatch 47 = .ok (.aload_n 0, 1) := by decide +kernel
theorem dX7_ofPatch_48 : decode cX7_ofPatch 48 = .ok (.iload_n 1, 1) := by decide +kernel
theorem dX7_ofPatch_49 : decode cX7_ofPatch 49 = .ok (.invokevirtual 162, 3) := by decide +kernel
theorem dX7_ofPatch_52 : decode cX7_ofPatch 52 = .ok (.iadd, 1) := by decide +kernel
theorem dX7_ofPatch_53 : decode cX7_ofPatch 53 = .ok (.iconst 1, 1) := by decide +kernel
theorem dX7_ofPatch_54 : decode cX7_ofPatch 54 = .ok (.iadd, 1) := by decide +kernel
theorem dX7_ofPatch_55 : decode cX7_ofPatch 55 = .ok (.ireturn, 1) := by decide +kernel
theorem dX7_of_0 : decode cX7_of 0 = .ok (.aload_n 0, 1) := by decide +kernel
theorem dX7_of_1 : decode cX7_of 1 = .ok (.iload_n 1, 1) := by decide +kernel
theorem dX7_of_2 : decode cX7_of 2 = .ok (.invokevirtual 155, 3) := by decide +kernel
theorem dX7_of_5 : decode cX7_of 5 = .ok (.ifCond .ne 8, 3) := by decide +kernel
theorem dX7_of_8 : decode cX7_of 8 = .ok (.bipush (-101), 2) := by decide +kernel
theorem dX7_of_10 : decode cX7_of 10 = .ok (.goto 23, 3) := by decide +kernel
theorem dX7_of_13 : decode cX7_of 13 = .ok (.iload_n 2, 1) := by decide +kernel
theorem dX7_of_14 : decode cX7_of 14 = .ok (.iconst 0, 1) := by decide +kernel
theorem dX7_of_15 : decode cX7_of 15 = .ok (.iconst 3, 1) := by decide +kernel
theorem dX7_of_16 : decode cX7_of 16 = .ok (.invokestatic 101, 3) := by decide +kernel
theorem dX7_of_19 : decode cX7_of 19 = .ok (.ifCond .eq 12, 3) := by decide +kernel
theorem dX7_of_22 : decode cX7_of 22 = .ok (.aload_n 0, 1) := by decide +kernel
theorem dX7_of_23 : decode cX7_of 23 = .ok (.iload_n 1, 1) := by decide +kernel
theorem dX7_of_24 : decode cX7_of 24 = .ok (.iload_n 2, 1) := by decide +kernel
theorem dX7_of_25 : decode cX7_of 25 = .ok (.invokevirtual 165, 3) := by decide +kernel
theorem dX7_of_28 : decode cX7_of 28 = .ok (.goto 5, 3) := by decide +kernel
theorem dX7_of_31 : decode cX7_of 31 = .ok (.bipush (-102), 2) := by decide +kernel
theorem dX7_of_33 : decode cX7_of 33 = .ok (.ireturn, 1) := by decide +kernel
theorem dX7_goFrom_0 : decode cX7_goFrom 0 = .ok (.bipush 28, 2) := by decide +kernel
theorem dX7_goFrom_2 : decode cX7_goFrom 2 = .ok (.iload_n 1, 1) := by decide +kernel
theorem dX7_goFrom_3 : decode cX7_goFrom 3 = .ok (.imul, 1) := by decide +kernel
theorem dX7_goFrom_4 : decode cX7_goFrom 4 = .ok (.istore_n 3, 1) := by decide +kernel
theorem dX7_goFrom_5 : decode cX7_goFrom 5 = .ok (.iconst 0, 1) := by decide +kernel
theorem dX7_goFrom_6 : decode cX7_goFrom 6 = .ok (.istore 4, 2) := by decide +kernel
theorem dX7_goFrom_8 : decode cX7_goFrom 8 = .ok (.iload 4, 2) := by decide +kernel
theorem dX7_goFrom_10 : decode cX7_goFrom 10 = .ok (.iload_n 2, 1) := by decide +kernel
theorem dX7_goFrom_11 : decode cX7_goFrom 11 = .ok (.if_icmp .ge 24, 3) := by decide +kernel
theorem dX7_goFrom_14 : decode cX7_goFrom 14 = .ok (.iload_n 3, 1) := by decide +kernel
theorem dX7_goFrom_15 : decode cX7_goFrom 15 = .ok (.aload_n 0, 1) := by decide +kernel
theorem dX7_goFrom_16 : decode cX7_goFrom 16 = .ok (.getfield 34, 3) := by decide +kernel
theorem dX7_goFrom_19 : decode cX7_goFrom 19 = .ok (.bipush 10, 2) := by decide +kernel
theorem dX7_goFrom_21 : decode cX7_goFrom 21 = .ok (.iload_n 1, 1) := by decide +kernel
theorem dX7_goFrom_22 : decode cX7_goFrom 22 = .ok (.imul, 1) := by decide +kernel
theorem dX7_goFrom_23 : decode cX7_goFrom 23 = .ok (.iload 4, 2) := by decide +kernel
theorem dX7_goFrom_25 : decode cX7_goFrom 25 = .ok (.iadd, 1) := by decide +kernel
theorem dX7_goFrom_26 : decode cX7_goFrom 26 = .ok (.iaload, 1) := by decide +kernel
theorem dX7_goFrom_27 : decode cX7_goFrom 27 = .ok (.iadd, 1) := by decide +kernel
theorem dX7_goFrom_28 : decode cX7_goFrom 28 = .ok (.istore_n 3, 1) := by decide +kernel
theorem dX7_goFrom_29 : decode cX7_goFrom 29 = .ok (.iinc 4 1, 3) := by decide +kernel
theorem dX7_goFrom_32 : decode cX7_goFrom 32 = .ok (.goto (-24), 3) := by decide +kernel
theorem dX7_goFrom_35 : decode cX7_goFrom 35 = .ok (.iload_n 3, 1) := by decide +kernel
theorem dX7_goFrom_36 : decode cX7_goFrom 36 = .ok (.ireturn, 1) := by decide +kernel
theorem dX7_comeFrom_0 : decode cX7_comeFrom 0 = .ok (.bipush 28, 2) := by decide +kernel
theorem dX7_comeFrom_2 : decode cX7_comeFrom 2 = .ok (.iload_n 1, 1) := by decide +kernel
theorem dX7_comeFrom_3 : decode cX7_comeFrom 3 = .ok (.imul, 1) := by decide +kernel
theorem dX7_comeFrom_4 : decode cX7_comeFrom 4 = .ok (.istore_n 3, 1) := by decide +kernel
theorem dX7_comeFrom_5 : decode cX7_comeFrom 5 = .ok (.iconst 0, 1) := by decide +kernel
theorem dX7_comeFrom_6 : decode cX7_comeFrom 6 = .ok (.istore 4, 2) := by decide +kernel
theorem dX7_comeFrom_8 : decode cX7_comeFrom 8 = .ok (.iload 4, 2) := by decide +kernel
theorem dX7_comeFrom_10 : decode cX7_comeFrom 10 = .ok (.iload_n 2, 1) := by decide +kernel
theorem dX7_comeFrom_11 : decode cX7_comeFrom 11 = .ok (.if_icmp .ge 24, 3) := by decide +kernel
theorem dX7_comeFrom_14 : decode cX7_comeFrom 14 = .ok (.iload_n 3, 1) := by decide +kernel
theorem dX7_comeFrom_15 : decode cX7_comeFrom 15 = .ok (.aload_n 0, 1) := by decide +kernel
theorem dX7_comeFrom_16 : decode cX7_comeFrom 16 = .ok (.getfield 37, 3) := by decide +kernel
theorem dX7_comeFrom_19 : decode cX7_comeFrom 19 = .ok (.bipush 10, 2) := by decide +kernel
theorem dX7_comeFrom_21 : decode cX7_comeFrom 21 = .ok (.iload_n 1, 1) := by decide +kernel
theorem dX7_comeFrom_22 : decode cX7_comeFrom 22 = .ok (.imul, 1) := by decide +kernel
theorem dX7_comeFrom_23 : decode cX7_comeFrom 23 = .ok (.iload 4, 2) := by decide +kernel
theorem dX7_comeFrom_25 : decode cX7_comeFrom 25 = .ok (.iadd, 1) := by decide +kernel
theorem dX7_comeFrom_26 : decode cX7_comeFrom 26 = .ok (.iaload, 1) := by decide +kernel
theorem dX7_comeFrom_27 : decode cX7_comeFrom 27 = .ok (.iadd, 1) := by decide +kernel
theorem dX7_comeFrom_28 : decode cX7_comeFrom 28 = .ok (.istore_n 3, 1) := by decide +kernel
theorem dX7_comeFrom_29 : decode cX7_comeFrom 29 = .ok (.iinc 4 1, 3) := by decide +kernel
theorem dX7_comeFrom_32 : decode cX7_comeFrom 32 = .ok (.goto (-24), 3) := by decide +kernel
theorem dX7_comeFrom_35 : decode cX7_comeFrom 35 = .ok (.iload_n 3, 1) := by decide +kernel
theorem dX7_comeFrom_36 : decode cX7_comeFrom 36 = .ok (.ireturn, 1) := by decide +kernel
theorem dX7_toldOf_0 : decode cX7_toldOf 0 = .ok (.bipush 10, 2) := by decide +kernel
theorem dX7_toldOf_2 : decode cX7_toldOf 2 = .ok (.iload_n 1, 1) := by decide +kernel
theorem dX7_toldOf_3 : decode cX7_toldOf 3 = .ok (.imul, 1) := by decide +kernel
theorem dX7_toldOf_4 : decode cX7_toldOf 4 = .ok (.iload_n 2, 1) := by decide +kernel
theorem dX7_toldOf_5 : decode cX7_toldOf 5 = .ok (.iadd, 1) := by decide +kernel
theorem dX7_toldOf_6 : decode cX7_toldOf 6 = .ok (.istore 4, 2) := by decide +kernel
theorem dX7_toldOf_8 : decode cX7_toldOf 8 = .ok (.iload_n 3, 1) := by decide +kernel
theorem dX7_toldOf_9 : decode cX7_toldOf 9 = .ok (.iconst 3, 1) := by decide +kernel
theorem dX7_toldOf_10 : decode cX7_toldOf 10 = .ok (.if_icmp .ge 40, 3) := by decide +kernel
theorem dX7_toldOf_13 : decode cX7_toldOf 13 = .ok (.iload_n 3, 1) := by decide +kernel
theorem dX7_toldOf_14 : decode cX7_toldOf 14 = .ok (.ifCond .ne 13, 3) := by decide +kernel
theorem dX7_toldOf_17 : decode cX7_toldOf 17 = .ok (.aload_n 0, 1) := by decide +kernel
theorem dX7_toldOf_18 : decode cX7_toldOf 18 = .ok (.getfield 31, 3) := by decide +kernel
theorem dX7_toldOf_21 : decode cX7_toldOf 21 = .ok (.iload 4, 2) := by decide +kernel
theorem dX7_toldOf_23 : decode cX7_toldOf 23 = .ok (.iaload, 1) := by decide +kernel
theorem dX7_toldOf_24 : decode cX7_toldOf 24 = .ok (.goto 25, 3) := by decide +kernel
theorem dX7_toldOf_27 : decode cX7_toldOf 27 = .ok (.iload_n 3, 1) := by decide +kernel
theorem dX7_toldOf_28 : decode cX7_toldOf 28 = .ok (.iconst 1, 1) := by decide +kernel
theorem dX7_toldOf_29 : decode cX7_toldOf 29 = .ok (.if_icmp .ne 13, 3) := by decide +kernel
theorem dX7_toldOf_32 : decode cX7_toldOf 32 = .ok (.aload_n 0, 1) := by decide +kernel
theorem dX7_toldOf_33 : decode cX7_toldOf 33 = .ok (.getfield 34, 3) := by decide +kernel
theorem dX7_toldOf_36 : decode cX7_toldOf 36 = .ok (.iload 4, 2) := by decide +kernel
theorem dX7_toldOf_38 : decode cX7_toldOf 38 = .ok (.iaload, 1) := by decide +kernel
theorem dX7_toldOf_39 : decode cX7_toldOf 39 = .ok (.goto 10, 3) := by decide +kernel
theorem dX7_toldOf_42 : decode cX7_toldOf 42 = .ok (.aload_n 0, 1) := by decide +kernel
theorem dX7_toldOf_43 : decode cX7_toldOf 43 = .ok (.getfield 37, 3) := by decide +kernel
theorem dX7_toldOf_46 : decode cX7_toldOf 46 = .ok (.iload 4, 2) := by decide +kernel
theorem dX7_toldOf_48 : decode cX7_toldOf 48 = .ok (.iaload, 1) := by decide +kernel
theorem dX7_toldOf_49 : decode cX7_toldOf 49 = .ok (.ireturn, 1) := by decide +kernel
theorem dX7_toldOf_50 : decode cX7_toldOf 50 = .ok (.iload_n 3, 1) := by decide +kernel
theorem dX7_toldOf_51 : decode cX7_toldOf 51 = .ok (.bipush 40, 2) := by decide +kernel
theorem dX7_toldOf_53 : decode cX7_toldOf 53 = .ok (.if_icmp .ge 38, 3) := by decide +kernel
theorem dX7_toldOf_56 : decode cX7_toldOf 56 = .ok (.iload_n 3, 1) := by decide +kernel
theorem dX7_toldOf_57 : decode cX7_toldOf 57 = .ok (.bipush 10, 2) := by decide +kernel
theorem dX7_toldOf_59 : decode cX7_toldOf 59 = .ok (.isub, 1) := by decide +kernel
theorem dX7_toldOf_60 : decode cX7_toldOf 60 = .ok (.aload_n 0, 1) := by decide +kernel
theorem dX7_toldOf_61 : decode cX7_toldOf 61 = .ok (.getfield 34, 3) := by decide +kernel
theorem dX7_toldOf_64 : decode cX7_toldOf 64 = .ok (.iload 4, 2) := by decide +kernel
theorem dX7_toldOf_66 : decode cX7_toldOf 66 = .ok (.iaload, 1) := by decide +kernel
theorem dX7_toldOf_67 : decode cX7_toldOf 67 = .ok (.if_icmp .ge 22, 3) := by decide +kernel
theorem dX7_toldOf_70 : decode cX7_toldOf 70 = .ok (.aload_n 0, 1) := by decide +kernel
theorem dX7_toldOf_71 : decode cX7_toldOf 71 = .ok (.getfield 40, 3) := by decide +kernel
theorem dX7_toldOf_74 : decode cX7_toldOf 74 = .ok (.aload_n 0, 1) := by decide +kernel
theorem dX7_toldOf_75 : decode cX7_toldOf 75 = .ok (.iload_n 1, 1) := by decide +kernel
theorem dX7_toldOf_76 : decode cX7_toldOf 76 = .ok (.iload_n 2, 1) := by decide +kernel
theorem dX7_toldOf_77 : decode cX7_toldOf 77 = .ok (.invokevirtual 168, 3) := by decide +kernel
theorem dX7_toldOf_80 : decode cX7_toldOf 80 = .ok (.iload_n 3, 1) := by decide +kernel
theorem dX7_toldOf_81 : decode cX7_toldOf 81 = .ok (.iadd, 1) := by decide +kernel
theorem dX7_toldOf_82 : decode cX7_toldOf 82 = .ok (.bipush 10, 2) := by decide +kernel
theorem dX7_toldOf_84 : decode cX7_toldOf 84 = .ok (.isub, 1) := by decide +kernel
theorem dX7_toldOf_85 : decode cX7_toldOf 85 = .ok (.iaload, 1) := by decide +kernel
theorem dX7_toldOf_86 : decode cX7_toldOf 86 = .ok (.goto 4, 3) := by decide +kernel
theorem dX7_toldOf_89 : decode cX7_toldOf 89 = .ok (.iconst (-1), 1) := by decide +kernel
theorem dX7_toldOf_90 : decode cX7_toldOf 90 = .ok (.ireturn, 1) := by decide +kernel
theorem dX7_toldOf_91 : decode cX7_toldOf 91 = .ok (.iload_n 3, 1) := by decide +kernel
theorem dX7_toldOf_92 : decode cX7_toldOf 92 = .ok (.bipush 40, 2) := by decide +kernel
theorem dX7_toldOf_94 : decode cX7_toldOf 94 = .ok (.isub, 1) := by decide +kernel
theorem dX7_toldOf_95 : decode cX7_toldOf 95 = .ok (.aload_n 0, 1) := by decide +kernel
theorem dX7_toldOf_96 : decode cX7_toldOf 96 = .ok (.getfield 37, 3) := by decide +kernel
theorem dX7_toldOf_99 : decode cX7_toldOf 99 = .ok (.iload 4, 2) := by decide +kernel
theorem dX7_toldOf_101 : decode cX7_toldOf 101 = .ok (.iaload, 1) := by decide +kernel
theorem dX7_toldOf_102 : decode cX7_toldOf 102 = .ok (.if_icmp .ge 22, 3) := by decide +kernel
theorem dX7_toldOf_105 : decode cX7_toldOf 105 = .ok (.aload_n 0, 1) := by decide +kernel
theorem dX7_toldOf_106 : decode cX7_toldOf 106 = .ok (.getfield 43, 3) := by decide +kernel
theorem dX7_toldOf_109 : decode cX7_toldOf 109 = .ok (.aload_n 0, 1) := by decide +kernel
theorem dX7_toldOf_110 : decode cX7_toldOf 110 = .ok (.iload_n 1, 1) := by decide +kernel
theorem dX7_toldOf_111 : decode cX7_toldOf 111 = .ok (.iload_n 2, 1) := by decide +kernel
theorem dX7_toldOf_112 : decode cX7_toldOf 112 = .ok (.invokevirtual 171, 3) := by decide +kernel
theorem dX7_toldOf_115 : decode cX7_toldOf 115 = .ok (.iload_n 3, 1) := by decide +kernel
theorem dX7_toldOf_116 : decode cX7_toldOf 116 = .ok (.iadd, 1) := by decide +kernel
theorem dX7_toldOf_117 : decode cX7_toldOf 117 = .ok (.bipush 40, 2) := by decide +kernel
theorem dX7_toldOf_119 : decode cX7_toldOf 119 = .ok (.isub, 1) := by decide +kernel
theorem dX7_toldOf_120 : decode cX7_toldOf 120 = .ok (.iaload, 1) := by decide +kernel
theorem dX7_toldOf_121 : decode cX7_toldOf 121 = .ok (.goto 4, 3) := by decide +kernel
theorem dX7_toldOf_124 : decode cX7_toldOf 124 = .ok (.iconst (-1), 1) := by decide +kernel
theorem dX7_toldOf_125 : decode cX7_toldOf 125 = .ok (.ireturn, 1) := by decide +kernel
theorem dX7_hunkOf_0 : decode cX7_hunkOf 0 = .ok (.aload_n 0, 1) := by decide +kernel
theorem dX7_hunkOf_1 : decode cX7_hunkOf 1 = .ok (.iload_n 1, 1) := by decide +kernel
theorem dX7_hunkOf_2 : decode cX7_hunkOf 2 = .ok (.invokevirtual 155, 3) := by decide +kernel
theorem dX7_hunkOf_5 : decode cX7_hunkOf 5 = .ok (.ifCond .eq 19, 3) := by decide +kernel
theorem dX7_hunkOf_8 : decode cX7_hunkOf 8 = .ok (.iload_n 2, 1) := by decide +kernel
theorem dX7_hunkOf_9 : decode cX7_hunkOf 9 = .ok (.iconst 0, 1) := by decide +kernel
theorem dX7_hunkOf_10 : decode cX7_hunkOf 10 = .ok (.aload_n 0, 1) := by decide +kernel
theorem dX7_hunkOf_11 : decode cX7_hunkOf 11 = .ok (.getfield 28, 3) := by decide +kernel
theorem dX7_hunkOf_14 : decode cX7_hunkOf 14 = .ok (.iload_n 1, 1) := by decide +kernel
theorem dX7_hunkOf_15 : decode cX7_hunkOf 15 = .ok (.iaload, 1) := by decide +kernel
theorem dX7_hunkOf_16 : decode cX7_hunkOf 16 = .ok (.iconst 1, 1) := by decide +kernel
theorem dX7_hunkOf_17 : decode cX7_hunkOf 17 = .ok (.isub, 1) := by decide +kernel
theorem dX7_hunkOf_18 : decode cX7_hunkOf 18 = .ok (.invokestatic 101, 3) := by decide +kernel
theorem dX7_hunkOf_21 : decode cX7_hunkOf 21 = .ok (.ifCond .ne 6, 3) := by decide +kernel
theorem dX7_hunkOf_24 : decode cX7_hunkOf 24 = .ok (.bipush (-101), 2) := by decide +kernel
theorem dX7_hunkOf_26 : decode cX7_hunkOf 26 = .ok (.ireturn, 1) := by decide +kernel
theorem dX7_hunkOf_27 : decode cX7_hunkOf 27 = .ok (.iload_n 3, 1) := by decide +kernel
theorem dX7_hunkOf_28 : decode cX7_hunkOf 28 = .ok (.iconst 0, 1) := by decide +kernel
theorem dX7_hunkOf_29 : decode cX7_hunkOf 29 = .ok (.iconst 2, 1) := by decide +kernel
theorem dX7_hunkOf_30 : decode cX7_hunkOf 30 = .ok (.invokestatic 101, 3) := by decide +kernel
theorem dX7_hunkOf_33 : decode cX7_hunkOf 33 = .ok (.ifCond .ne 25, 3) := by decide +kernel
theorem dX7_hunkOf_36 : decode cX7_hunkOf 36 = .ok (.iload_n 3, 1) := by decide +kernel
theorem dX7_hunkOf_37 : decode cX7_hunkOf 37 = .ok (.bipush 10, 2) := by decide +kernel
theorem dX7_hunkOf_39 : decode cX7_hunkOf 39 = .ok (.bipush 37, 2) := by decide +kernel
theorem dX7_hunkOf_41 : decode cX7_hunkOf 41 = .ok (.invokestatic 101, 3) := by decide +kernel
theorem dX7_hunkOf_44 : decode cX7_hunkOf 44 = .ok (.ifCond .ne 14, 3) := by decide +kernel
theorem dX7_hunkOf_47 : decode cX7_hunkOf 47 = .ok (.iload_n 3, 1) := by decide +kernel
theorem dX7_hunkOf_48 : decode cX7_hunkOf 48 = .ok (.bipush 40, 2) := by decide +kernel
theorem dX7_hunkOf_50 : decode cX7_hunkOf 50 = .ok (.bipush 67, 2) := by decide +kernel
theorem dX7_hunkOf_52 : decode cX7_hunkOf 52 = .ok (.invokestatic 101, 3) := by decide +kernel
theorem dX7_hunkOf_55 : decode cX7_hunkOf 55 = .ok (.ifCond .eq 7, 3) := by decide +kernel
theorem dX7_hunkOf_58 : decode cX7_hunkOf 58 = .ok (.iconst 1, 1) := by decide +kernel
theorem dX7_hunkOf_59 : decode cX7_hunkOf 59 = .ok (.goto 4, 3) := by decide +kernel
theorem dX7_hunkOf_62 : decode cX7_hunkOf 62 = .ok (.iconst 0, 1) := by decide +kernel
theorem dX7_hunkOf_63 : decode cX7_hunkOf 63 = .ok (.istore 4, 2) := by decide +kernel
theorem dX7_hunkOf_65 : decode cX7_hunkOf 65 = .ok (.iload 4, 2) := by decide +kernel
theorem dX7_hunkOf_67 : decode cX7_hunkOf 67 = .ok (.ifCond .eq 13, 3) := by decide +kernel
theorem dX7_hunkOf_70 : decode cX7_hunkOf 70 = .ok (.aload_n 0, 1) := by decide +kernel
theorem dX7_hunkOf_71 : decode cX7_hunkOf 71 = .ok (.iload_n 1, 1) := by decide +kernel
theorem dX7_hunkOf_72 : decode cX7_hunkOf 72 = .ok (.iload_n 2, 1) := by decide +kernel
theorem dX7_hunkOf_73 : decode cX7_hunkOf 73 = .ok (.iload_n 3, 1) := by decide +kernel
theorem dX7_hunkOf_74 : decode cX7_hunkOf 74 = .ok (.invokevirtual 174, 3) := by decide +kernel
theorem dX7_hunkOf_77 : decode cX7_hunkOf 77 = .ok (.goto 5, 3) := by decide +kernel
theorem dX7_hunkOf_80 : decode cX7_hunkOf 80 = .ok (.bipush (-102), 2) := by decide +kernel
theorem dX7_hunkOf_82 : decode cX7_hunkOf 82 = .ok (.ireturn, 1) := by decide +kernel
theorem dX7_stands_0 : decode cX7_stands 0 = .ok (.aload_n 0, 1) := by decide +kernel
theorem dX7_stands_1 : decode cX7_stands 1 = .ok (.getfield 34, 3) := by decide +kernel
theorem dX7_stands_4 : decode cX7_stands 4 = .ok (.bipush 10, 2) := by decide +kernel
theorem dX7_stands_6 : decode cX7_stands 6 = .ok (.iload_n 1, 1) := by decide +kernel
theorem dX7_stands_7 : decode cX7_stands 7 = .ok (.imul, 1) := by decide +kernel
theorem dX7_stands_8 : decode cX7_stands 8 = .ok (.iload_n 2, 1) := by decide +kernel
theorem dX7_stands_9 : decode cX7_stands 9 = .ok (.iadd, 1) := by decide +kernel
theorem dX7_stands_10 : decode cX7_stands 10 = .ok (.iaload, 1) := by decide +kernel
theorem dX7_stands_11 : decode cX7_stands 11 = .ok (.istore 5, 2) := by decide +kernel
theorem dX7_stands_13 : decode cX7_stands 13 = .ok (.iload_n 3, 1) := by decide +kernel
theorem dX7_stands_14 : decode cX7_stands 14 = .ok (.ifCond .lt 16, 3) := by decide +kernel
theorem dX7_stands_17 : decode cX7_stands 17 = .ok (.iload_n 3, 1) := by decide +kernel
theorem dX7_stands_18 : decode cX7_stands 18 = .ok (.iload 5, 2) := by decide +kernel
theorem dX7_stands_20 : decode cX7_stands 20 = .ok (.iadd, 1) := by decide +kernel
theorem dX7_stands_21 : decode cX7_stands 21 = .ok (.iload 4, 2) := by decide +kernel
theorem dX7_stands_23 : decode cX7_stands 23 = .ok (.if_icmp .gt 7, 3) := by decide +kernel
theorem dX7_stands_26 : decode cX7_stands 26 = .ok (.iconst 1, 1) := by decide +kernel
theorem dX7_stands_27 : decode cX7_stands 27 = .ok (.goto 4, 3) := by decide +kernel
theorem dX7_stands_30 : decode cX7_stands 30 = .ok (.iconst 0, 1) := by decide +kernel
theorem dX7_stands_31 : decode cX7_stands 31 = .ok (.istore 6, 2) := by decide +kernel
theorem dX7_stands_33 : decode cX7_stands 33 = .ok (.iconst 0, 1) := by decide +kernel
theorem dX7_stands_34 : decode cX7_stands 34 = .ok (.istore 7, 2) := by decide +kernel
theorem dX7_stands_36 : decode cX7_stands 36 = .ok (.iload 7, 2) := by decide +kernel
theorem dX7_stands_38 : decode cX7_stands 38 = .ok (.iload 5, 2) := by decide +kernel
theorem dX7_stands_40 : decode cX7_stands 40 = .ok (.if_icmp .ge 47, 3) := by decide +kernel
theorem dX7_stands_43 : decode cX7_stands 43 = .ok (.iload 6, 2) := by decide +kernel
theorem dX7_stands_45 : decode cX7_stands 45 = .ok (.ifCond .eq 42, 3) := by decide +kernel
theorem dX7_stands_48 : decode cX7_stands 48 = .ok (.aload_n 0, 1) := by decide +kernel
theorem dX7_stands_49 : decode cX7_stands 49 = .ok (.getfield 67, 3) := by decide +kernel
theorem dX7_stands_52 : decode cX7_stands 52 = .ok (.iload_n 3, 1) := by decide +kernel
theorem dX7_stands_53 : decode cX7_stands 53 = .ok (.iload 7, 2) := by decide +kernel
theorem dX7_stands_55 : decode cX7_stands 55 = .ok (.iadd, 1) := by decide +kernel
theorem dX7_stands_56 : decode cX7_stands 56 = .ok (.iaload, 1) := by decide +kernel
theorem dX7_stands_57 : decode cX7_stands 57 = .ok (.aload_n 0, 1) := by decide +kernel
theorem dX7_stands_58 : decode cX7_stands 58 = .ok (.getfield 40, 3) := by decide +kernel
theorem dX7_stands_61 : decode cX7_stands 61 = .ok (.aload_n 0, 1) := by decide +kernel
theorem dX7_stands_62 : decode cX7_stands 62 = .ok (.iload_n 1, 1) := by decide +kernel
theorem dX7_stands_63 : decode cX7_stands 63 = .ok (.iload_n 2, 1) := by decide +kernel
theorem dX7_stands_64 : decode cX7_stands 64 = .ok (.invokevirtual 168, 3) := by decide +kernel
theorem dX7_stands_67 : decode cX7_stands 67 = .ok (.iload 7, 2) := by decide +kernel
theorem dX7_stands_69 : decode cX7_stands 69 = .ok (.iadd, 1) := by decide +kernel
theorem dX7_stands_70 : decode cX7_stands 70 = .ok (.iaload, 1) := by decide +kernel
theorem dX7_stands_71 : decode cX7_stands 71 = .ok (.if_icmp .ne 7, 3) := by decide +kernel
theorem dX7_stands_74 : decode cX7_stands 74 = .ok (.iconst 1, 1) := by decide +kernel
theorem dX7_stands_75 : decode cX7_stands 75 = .ok (.goto 4, 3) := by decide +kernel
theorem dX7_stands_78 : decode cX7_stands 78 = .ok (.iconst 0, 1) := by decide +kernel
theorem dX7_stands_79 : decode cX7_stands 79 = .ok (.istore 6, 2) := by decide +kernel
theorem dX7_stands_81 : decode cX7_stands 81 = .ok (.iinc 7 1, 3) := by decide +kernel
theorem dX7_stands_84 : decode cX7_stands 84 = .ok (.goto (-48), 3) := by decide +kernel
theorem dX7_stands_87 : decode cX7_stands 87 = .ok (.iload 6, 2) := by decide +kernel
theorem dX7_stands_89 : decode cX7_stands 89 = .ok (.ireturn, 1) := by decide +kernel
theorem dX7_workOnDesk_0 : decode cX7_workOnDesk 0 = .ok (.aload_n 0, 1) := by decide +kernel
theorem dX7_workOnDesk_1 : decode cX7_workOnDesk 1 = .ok (.aload_n 0, 1) := by decide +kernel
theorem dX7_workOnDesk_2 : decode cX7_workOnDesk 2 = .ok (.getfield 108, 3) := by decide +kernel
theorem dX7_workOnDesk_5 : decode cX7_workOnDesk 5 = .ok (.putfield 178, 3) := by decide +kernel
theorem dX7_workOnDesk_8 : decode cX7_workOnDesk 8 = .ok (.iconst 0, 1) := by decide +kernel
theorem dX7_workOnDesk_9 : decode cX7_workOnDesk 9 = .ok (.istore_n 1, 1) := by decide +kernel
theorem dX7_workOnDesk_10 : decode cX7_workOnDesk 10 = .ok (.iload_n 1, 1) := by decide +kernel
theorem dX7_workOnDesk_11 : decode cX7_workOnDesk 11 = .ok (.aload_n 0, 1) := by decide +kernel
theorem dX7_workOnDesk_12 : decode cX7_workOnDesk 12 = .ok (.getfield 108, 3) := by decide +kernel
theorem dX7_workOnDesk_15 : decode cX7_workOnDesk 15 = .ok (.if_icmp .ge 21, 3) := by decide +kernel
theorem dX7_workOnDesk_18 : decode cX7_workOnDesk 18 = .ok (.aload_n 0, 1) := by decide +kernel
theorem dX7_workOnDesk_19 : decode cX7_workOnDesk 19 = .ok (.getfield 67, 3) := by decide +kernel
theorem dX7_workOnDesk_22 : decode cX7_workOnDesk 22 = .ok (.iload_n 1, 1) := by decide +kernel
theorem dX7_workOnDesk_23 : decode cX7_workOnDesk 23 = .ok (.aload_n 0, 1) := by decide +kernel
theorem dX7_workOnDesk_24 : decode cX7_workOnDesk 24 = .ok (.getfield 7, 3) := by decide +kernel
theorem dX7_workOnDesk_27 : decode cX7_workOnDesk 27 = .ok (.iload_n 1, 1) := by decide +kernel
theorem dX7_workOnDesk_28 : decode cX7_workOnDesk 28 = .ok (.iaload, 1) := by decide +kernel
theorem dX7_workOnDesk_29 : decode cX7_workOnDesk 29 = .ok (.iastore, 1) := by decide +kernel
theorem dX7_workOnDesk_30 : decode cX7_workOnDesk 30 = .ok (.iinc 1 1, 3) := by decide +kernel
theorem dX7_workOnDesk_33 : decode cX7_workOnDesk 33 = .ok (.goto (-23), 3) := by decide +kernel
theorem dX7_workOnDesk_36 : decode cX7_workOnDesk 36 = .ok (.return_, 1) := by decide +kernel
theorem dX7_fitsWork_0 : decode cX7_fitsWork 0 = .ok (.iconst 1, 1) := by decide +kernel
theorem dX7_fitsWork_1 : decode cX7_fitsWork 1 = .ok (.istore_n 2, 1) := by decide +kernel
theorem dX7_fitsWork_2 : decode cX7_fitsWork 2 = .ok (.iconst 0, 1) := by decide +kernel
theorem dX7_fitsWork_3 : decode cX7_fitsWork 3 = .ok (.istore_n 3, 1) := by decide +kernel
theorem dX7_fitsWork_4 : decode cX7_fitsWork 4 = .ok (.iload_n 3, 1) := by decide +kernel
theorem dX7_fitsWork_5 : decode cX7_fitsWork 5 = .ok (.aload_n 0, 1) := by decide +kernel
theorem dX7_fitsWork_6 : decode cX7_fitsWork 6 = .ok (.getfield 28, 3) := by decide +kernel
theorem dX7_fitsWork_9 : decode cX7_fitsWork 9 = .ok (.iload_n 1, 1) := by decide +kernel
theorem dX7_fitsWork_10 : decode cX7_fitsWork 10 = .ok (.iaload, 1) := by decide +kernel
theorem dX7_fitsWork_11 : decode cX7_fitsWork 11 = .ok (.if_icmp .ge 35, 3) := by decide +kernel
theorem dX7_fitsWork_14 : decode cX7_fitsWork 14 = .ok (.iload_n 2, 1) := by decide +kernel
theorem dX7_fitsWork_15 : decode cX7_fitsWork 15 = .ok (.ifCond .eq 31, 3) := by decide +kernel
theorem dX7_fitsWork_18 : decode cX7_fitsWork 18 = .ok (.aload_n 0, 1) := by decide +kernel
theorem dX7_fitsWork_19 : decode cX7_fitsWork 19 = .ok (.iload_n 1, 1) := by decide +kernel
theorem dX7_fitsWork_20 : decode cX7_fitsWork 20 = .ok (.iload_n 3, 1) := by decide +kernel
theorem dX7_fitsWork_21 : decode cX7_fitsWork 21 = .ok (.aload_n 0, 1) := by decide +kernel
theorem dX7_fitsWork_22 : decode cX7_fitsWork 22 = .ok (.getfield 31, 3) := by decide +kernel
theorem dX7_fitsWork_25 : decode cX7_fitsWork 25 = .ok (.bipush 10, 2) := by decide +kernel
theorem dX7_fitsWork_27 : decode cX7_fitsWork 27 = .ok (.iload_n 1, 1) := by decide +kernel
theorem dX7_fitsWork_28 : decode cX7_fitsWork 28 = .ok (.imul, 1) := by decide +kernel
theorem dX7_fitsWork_29 : decode cX7_fitsWork 29 = .ok (.iload_n 3, 1) := by decide +kernel
theorem dX7_fitsWork_30 : decode cX7_fitsWork 30 = .ok (.iadd, 1) := by decide +kernel
theorem dX7_fitsWork_31 : decode cX7_fitsWork 31 = .ok (.iaload, 1) := by decide +kernel
theorem dX7_fitsWork_32 : decode cX7_fitsWork 32 = .ok (.aload_n 0, 1) := by decide +kernel
theorem dX7_fitsWork_33 : decode cX7_fitsWork 33 = .ok (.getfield 178, 3) := by decide +kernel
theorem dX7_fitsWork_36 : decode cX7_fitsWork 36 = .ok (.invokevirtual 181, 3) := by decide +kernel
theorem dX7_fitsWork_39 : decode cX7_fitsWork 39 = .ok (.istore_n 2, 1) := by decide +kernel
theorem dX7_fitsWork_40 : decode cX7_fitsWork 40 = .ok (.iinc 3 1, 3) := by decide +kernel
theorem dX7_fitsWork_43 : decode cX7_fitsWork 43 = .ok (.goto (-39), 3) := by decide +kernel
theorem dX7_fitsWork_46 : decode cX7_fitsWork 46 = .ok (.iload_n 2, 1) := by decide +kernel
theorem dX7_fitsWork_47 : decode cX7_fitsWork 47 = .ok (.ireturn, 1) := by decide +kernel
theorem dX7_fits_0 : decode cX7_fits 0 = .ok (.aload_n 0, 1) := by decide +kernel
theorem dX7_fits_1 : decode cX7_fits 1 = .ok (.iload_n 1, 1) := by decide +kernel
theorem dX7_fits_2 : decode cX7_fits 2 = .ok (.invokevirtual 155, 3) := by decide +kernel
theorem dX7_fits_5 : decode cX7_fits 5 = .ok (.ifCond .ne 6, 3) := by decide +kernel
theorem dX7_fits_8 : decode cX7_fits 8 = .ok (.bipush (-101), 2) := by decide +kernel
theorem dX7_fits_10 : decode cX7_fits 10 = .ok (.ireturn, 1) := by decide +kernel
theorem dX7_fits_11 : decode cX7_fits 11 = .ok (.aload_n 0, 1) := by decide +kernel
theorem dX7_fits_12 : decode cX7_fits 12 = .ok (.invokevirtual 185, 3) := by decide +kernel
theorem dX7_fits_15 : decode cX7_fits 15 = .ok (.aload_n 0, 1) := by decide +kernel
theorem dX7_fits_16 : decode cX7_fits 16 = .ok (.iload_n 1, 1) := by decide +kernel
theorem dX7_fits_17 : decode cX7_fits 17 = .ok (.invokevirtual 188, 3) := by decide +kernel
theorem dX7_fits_20 : decode cX7_fits 20 = .ok (.ifCond .eq 7, 3) := by decide +kernel
theorem dX7_fits_23 : decode cX7_fits 23 = .ok (.iconst 1, 1) := by decide +kernel
theorem dX7_fits_24 : decode cX7_fits 24 = .ok (.goto 4, 3) := by decide +kernel
theorem dX7_fits_27 : decode cX7_fits 27 = .ok (.iconst 0, 1) := by decide +kernel
theorem dX7_fits_28 : decode cX7_fits 28 = .ok (.ireturn, 1) := by decide +kernel
theorem dX7_layHunk_0 : decode cX7_layHunk 0 = .ok (.aload_n 0, 1) := by decide +kernel
theorem dX7_layHunk_1 : decode cX7_layHunk 1 = .ok (.getfield 34, 3) := by decide +kernel
theorem dX7_layHunk_4 : decode cX7_layHunk 4 = .ok (.bipush 10, 2) := by decide +kernel
theorem dX7_layHunk_6 : decode cX7_layHunk 6 = .ok (.iload_n 1, 1) := by decide +kernel
theorem dX7_layHunk_7 : decode cX7_layHunk 7 = .ok (.imul, 1) := by decide +kernel
theorem dX7_layHunk_8 : decode cX7_layHunk 8 = .ok (.iload_n 2, 1) := by decide +kernel
theorem dX7_layHunk_9 : decode cX7_layHunk 9 = .ok (.iadd, 1) := by decide +kernel
theorem dX7_layHunk_10 : decode cX7_layHunk 10 = .ok (.iaload, 1) := by decide +kernel
