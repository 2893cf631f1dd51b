theorem dX7_clashes_70 : decode cX7_clashes 70 = .ok (.ifCond .ne 5, 3) := by decide +kernel
theorem dX7_clashes_73 : decode cX7_clashes 73 = .ok (.iconst 1, 1) := by decide +kernel
theorem dX7_clashes_74 : decode cX7_clashes 74 = .ok (.ireturn, 1) := by decide +kernel
theorem dX7_clashes_75 : decode cX7_clashes 75 = .ok (.iinc 2 1, 3) := by decide +kernel
theorem dX7_clashes_78 : decode cX7_clashes 78 = .ok (.goto (-76), 3) := by decide +kernel
theorem dX7_clashes_81 : decode cX7_clashes 81 = .ok (.iconst 0, 1) := by decide +kernel
theorem dX7_clashes_82 : decode cX7_clashes 82 = .ok (.ireturn, 1) := by decide +kernel
theorem dX7_clashMany_0 : decode cX7_clashMany 0 = .ok (.aload_n 0, 1) := by decide +kernel
theorem dX7_clashMany_1 : decode cX7_clashMany 1 = .ok (.iload_n 1, 1) := by decide +kernel
theorem dX7_clashMany_2 : decode cX7_clashMany 2 = .ok (.iload_n 2, 1) := by decide +kernel
theorem dX7_clashMany_3 : decode cX7_clashMany 3 = .ok (.invokevirtual 245, 3) := by decide +kernel
theorem dX7_clashMany_6 : decode cX7_clashMany 6 = .ok (.aload_n 0, 1) := by decide +kernel
theorem dX7_clashMany_7 : decode cX7_clashMany 7 = .ok (.iload_n 1, 1) := by decide +kernel
theorem dX7_clashMany_8 : decode cX7_clashMany 8 = .ok (.iload_n 3, 1) := by decide +kernel
theorem dX7_clashMany_9 : decode cX7_clashMany 9 = .ok (.invokevirtual 144, 3) := by decide +kernel
theorem dX7_clashMany_12 : decode cX7_clashMany 12 = .ok (.iconst 0, 1) := by decide +kernel
theorem dX7_clashMany_13 : decode cX7_clashMany 13 = .ok (.istore 4, 2) := by decide +kernel
theorem dX7_clashMany_15 : decode cX7_clashMany 15 = .ok (.iconst 0, 1) := by decide +kernel
theorem dX7_clashMany_16 : decode cX7_clashMany 16 = .ok (.istore 5, 2) := by decide +kernel
theorem dX7_clashMany_18 : decode cX7_clashMany 18 = .ok (.iload 5, 2) := by decide +kernel
theorem dX7_clashMany_20 : decode cX7_clashMany 20 = .ok (.aload_n 0, 1) := by decide +kernel
theorem dX7_clashMany_21 : decode cX7_clashMany 21 = .ok (.getfield 233, 3) := by decide +kernel
theorem dX7_clashMany_24 : decode cX7_clashMany 24 = .ok (.if_icmp .ge 28, 3) := by decide +kernel
theorem dX7_clashMany_27 : decode cX7_clashMany 27 = .ok (.iload 4, 2) := by decide +kernel
theorem dX7_clashMany_29 : decode cX7_clashMany 29 = .ok (.aload_n 0, 1) := by decide +kernel
theorem dX7_clashMany_30 : decode cX7_clashMany 30 = .ok (.iload 5, 2) := by decide +kernel
theorem dX7_clashMany_32 : decode cX7_clashMany 32 = .ok (.invokevirtual 248, 3) := by decide +kernel
theorem dX7_clashMany_35 : decode cX7_clashMany 35 = .ok (.ifCond .eq 7, 3) := by decide +kernel
theorem dX7_clashMany_38 : decode cX7_clashMany 38 = .ok (.iconst 1, 1) := by decide +kernel
theorem dX7_clashMany_39 : decode cX7_clashMany 39 = .ok (.goto 4, 3) := by decide +kernel
theorem dX7_clashMany_42 : decode cX7_clashMany 42 = .ok (.iconst 0, 1) := by decide +kernel
theorem dX7_clashMany_43 : decode cX7_clashMany 43 = .ok (.iadd, 1) := by decide +kernel
theorem dX7_clashMany_44 : decode cX7_clashMany 44 = .ok (.istore 4, 2) := by decide +kernel
theorem dX7_clashMany_46 : decode cX7_clashMany 46 = .ok (.iinc 5 1, 3) := by decide +kernel
theorem dX7_clashMany_49 : decode cX7_clashMany 49 = .ok (.goto (-31), 3) := by decide +kernel
theorem dX7_clashMany_52 : decode cX7_clashMany 52 = .ok (.iload 4, 2) := by decide +kernel
theorem dX7_clashMany_54 : decode cX7_clashMany 54 = .ok (.ireturn, 1) := by decide +kernel
theorem dX7_areVersions_0 : decode cX7_areVersions 0 = .ok (.aload_n 0, 1) := by decide +kernel
theorem dX7_areVersions_1 : decode cX7_areVersions 1 = .ok (.iload_n 1, 1) := by decide +kernel
theorem dX7_areVersions_2 : decode cX7_areVersions 2 = .ok (.invokevirtual 111, 3) := by decide +kernel
theorem dX7_areVersions_5 : decode cX7_areVersions 5 = .ok (.ifCond .eq 23, 3) := by decide +kernel
theorem dX7_areVersions_8 : decode cX7_areVersions 8 = .ok (.aload_n 0, 1) := by decide +kernel
theorem dX7_areVersions_9 : decode cX7_areVersions 9 = .ok (.iload_n 2, 1) := by decide +kernel
theorem dX7_areVersions_10 : decode cX7_areVersions 10 = .ok (.invokevirtual 111, 3) := by decide +kernel
theorem dX7_areVersions_13 : decode cX7_areVersions 13 = .ok (.ifCond .eq 15, 3) := by decide +kernel
theorem dX7_areVersions_16 : decode cX7_areVersions 16 = .ok (.aload_n 0, 1) := by decide +kernel
theorem dX7_areVersions_17 : decode cX7_areVersions 17 = .ok (.iload_n 3, 1) := by decide +kernel
theorem dX7_areVersions_18 : decode cX7_areVersions 18 = .ok (.invokevirtual 111, 3) := by decide +kernel
theorem dX7_areVersions_21 : decode cX7_areVersions 21 = .ok (.ifCond .eq 7, 3) := by decide +kernel
theorem dX7_areVersions_24 : decode cX7_areVersions 24 = .ok (.iconst 1, 1) := by decide +kernel
theorem dX7_areVersions_25 : decode cX7_areVersions 25 = .ok (.goto 4, 3) := by decide +kernel
theorem dX7_areVersions_28 : decode cX7_areVersions 28 = .ok (.iconst 0, 1) := by decide +kernel
theorem dX7_areVersions_29 : decode cX7_areVersions 29 = .ok (.ireturn, 1) := by decide +kernel
theorem dX7_clash_0 : decode cX7_clash 0 = .ok (.aload_n 0, 1) := by decide +kernel
theorem dX7_clash_1 : decode cX7_clash 1 = .ok (.iload_n 1, 1) := by decide +kernel
theorem dX7_clash_2 : decode cX7_clash 2 = .ok (.iload_n 2, 1) := by decide +kernel
theorem dX7_clash_3 : decode cX7_clash 3 = .ok (.iload_n 3, 1) := by decide +kernel
theorem dX7_clash_4 : decode cX7_clash 4 = .ok (.invokevirtual 251, 3) := by decide +kernel
theorem dX7_clash_7 : decode cX7_clash 7 = .ok (.ifCond .eq 13, 3) := by decide +kernel
theorem dX7_clash_10 : decode cX7_clash 10 = .ok (.aload_n 0, 1) := by decide +kernel
theorem dX7_clash_11 : decode cX7_clash 11 = .ok (.iload_n 1, 1) := by decide +kernel
theorem dX7_clash_12 : decode cX7_clash 12 = .ok (.iload_n 2, 1) := by decide +kernel
theorem dX7_clash_13 : decode cX7_clash 13 = .ok (.iload_n 3, 1) := by decide +kernel
theorem dX7_clash_14 : decode cX7_clash 14 = .ok (.invokevirtual 254, 3) := by decide +kernel
theorem dX7_clash_17 : decode cX7_clash 17 = .ok (.goto 5, 3) := by decide +kernel
theorem dX7_clash_20 : decode cX7_clash 20 = .ok (.bipush (-101), 2) := by decide +kernel
theorem dX7_clash_22 : decode cX7_clash 22 = .ok (.ireturn, 1) := by decide +kernel
theorem dX7_join_0 : decode cX7_join 0 = .ok (.aload_n 0, 1) := by decide +kernel
theorem dX7_join_1 : decode cX7_join 1 = .ok (.iload_n 1, 1) := by decide +kernel
theorem dX7_join_2 : decode cX7_join 2 = .ok (.iload_n 2, 1) := by decide +kernel
theorem dX7_join_3 : decode cX7_join 3 = .ok (.iload_n 3, 1) := by decide +kernel
theorem dX7_join_4 : decode cX7_join 4 = .ok (.invokevirtual 251, 3) := by decide +kernel
theorem dX7_join_7 : decode cX7_join 7 = .ok (.ifCond .ne 6, 3) := by decide +kernel
theorem dX7_join_10 : decode cX7_join 10 = .ok (.bipush (-101), 2) := by decide +kernel
theorem dX7_join_12 : decode cX7_join 12 = .ok (.ireturn, 1) := by decide +kernel
theorem dX7_join_13 : decode cX7_join 13 = .ok (.aload_n 0, 1) := by decide +kernel
theorem dX7_join_14 : decode cX7_join 14 = .ok (.iload_n 1, 1) := by decide +kernel
theorem dX7_join_15 : decode cX7_join 15 = .ok (.iload_n 2, 1) := by decide +kernel
theorem dX7_join_16 : decode cX7_join 16 = .ok (.iload_n 3, 1) := by decide +kernel
theorem dX7_join_17 : decode cX7_join 17 = .ok (.invokevirtual 254, 3) := by decide +kernel
theorem dX7_join_20 : decode cX7_join 20 = .ok (.ifCond .le 6, 3) := by decide +kernel
theorem dX7_join_23 : decode cX7_join 23 = .ok (.bipush (-103), 2) := by decide +kernel
theorem dX7_join_25 : decode cX7_join 25 = .ok (.ireturn, 1) := by decide +kernel
theorem dX7_join_26 : decode cX7_join 26 = .ok (.aload_n 0, 1) := by decide +kernel
theorem dX7_join_27 : decode cX7_join 27 = .ok (.iconst 0, 1) := by decide +kernel
theorem dX7_join_28 : decode cX7_join 28 = .ok (.putfield 178, 3) := by decide +kernel
theorem dX7_join_31 : decode cX7_join 31 = .ok (.iconst 0, 1) := by decide +kernel
theorem dX7_join_32 : decode cX7_join 32 = .ok (.istore 4, 2) := by decide +kernel
theorem dX7_join_34 : decode cX7_join 34 = .ok (.iconst 0, 1) := by decide +kernel
theorem dX7_join_35 : decode cX7_join 35 = .ok (.istore 5, 2) := by decide +kernel
theorem dX7_join_37 : decode cX7_join 37 = .ok (.iconst 0, 1) := by decide +kernel
theorem dX7_join_38 : decode cX7_join 38 = .ok (.istore 6, 2) := by decide +kernel
theorem dX7_join_40 : decode cX7_join 40 = .ok (.iload 6, 2) := by decide +kernel
theorem dX7_join_42 : decode cX7_join 42 = .ok (.aload_n 0, 1) := by decide +kernel
theorem dX7_join_43 : decode cX7_join 43 = .ok (.getfield 13, 3) := by decide +kernel
theorem dX7_join_46 : decode cX7_join 46 = .ok (.iload_n 1, 1) := by decide +kernel
theorem dX7_join_47 : decode cX7_join 47 = .ok (.iaload, 1) := by decide +kernel
theorem dX7_join_48 : decode cX7_join 48 = .ok (.if_icmp .lt 21, 3) := by decide +kernel
theorem dX7_join_51 : decode cX7_join 51 = .ok (.iload 4, 2) := by decide +kernel
theorem dX7_join_53 : decode cX7_join 53 = .ok (.aload_n 0, 1) := by decide +kernel
theorem dX7_join_54 : decode cX7_join 54 = .ok (.getfield 233, 3) := by decide +kernel
theorem dX7_join_57 : decode cX7_join 57 = .ok (.if_icmp .lt 12, 3) := by decide +kernel
theorem dX7_join_60 : decode cX7_join 60 = .ok (.iload 5, 2) := by decide +kernel
theorem dX7_join_62 : decode cX7_join 62 = .ok (.aload_n 0, 1) := by decide +kernel
theorem dX7_join_63 : decode cX7_join 63 = .ok (.getfield 119, 3) := by decide +kernel
theorem dX7_join_66 : decode cX7_join 66 = .ok (.if_icmp .ge 323, 3) := by decide +kernel
theorem dX7_join_69 : decode cX7_join 69 = .ok (.iload 4, 2) := by decide +kernel
theorem dX7_join_71 : decode cX7_join 71 = .ok (.aload_n 0, 1) := by decide +kernel
theorem dX7_join_72 : decode cX7_join 72 = .ok (.getfield 233, 3) := by decide +kernel
theorem dX7_join_75 : decode cX7_join 75 = .ok (.if_icmp .ge 19, 3) := by decide +kernel
theorem dX7_join_78 : decode cX7_join 78 = .ok (.aload_n 0, 1) := by decide +kernel
theorem dX7_join_79 : decode cX7_join 79 = .ok (.getfield 70, 3) := by decide +kernel
theorem dX7_join_82 : decode cX7_join 82 = .ok (.iload 4, 2) := by decide +kernel
theorem dX7_join_84 : decode cX7_join 84 = .ok (.iaload, 1) := by decide +kernel
theorem dX7_join_85 : decode cX7_join 85 = .ok (.iload 6, 2) := by decide +kernel
theorem dX7_join_87 : decode cX7_join 87 = .ok (.if_icmp .ne 7, 3) := by decide +kernel
theorem dX7_join_90 : decode cX7_join 90 = .ok (.iconst 1, 1) := by decide +kernel
theorem dX7_join_91 : decode cX7_join 91 = .ok (.goto 4, 3) := by decide +kernel
theorem dX7_join_94 : decode cX7_join 94 = .ok (.iconst 0, 1) := by decide +kernel
theorem dX7_join_95 : decode cX7_join 95 = .ok (.istore 7, 2) := by decide +kernel
theorem dX7_join_97 : decode cX7_join 97 = .ok (.iload 5, 2) := by decide +kernel
theorem dX7_join_99 : decode cX7_join 99 = .ok (.aload_n 0, 1) := by decide +kernel
theorem dX7_join_100 : decode cX7_join 100 = .ok (.getfield 119, 3) := by decide +kernel
theorem dX7_join_103 : decode cX7_join 103 = .ok (.if_icmp .ge 19, 3) := by decide +kernel
theorem dX7_join_106 : decode cX7_join 106 = .ok (.aload_n 0, 1) := by decide +kernel
theorem dX7_join_107 : decode cX7_join 107 = .ok (.getfield 46, 3) := by decide +kernel
theorem dX7_join_110 : decode cX7_join 110 = .ok (.iload 5, 2) := by decide +kernel
theorem dX7_join_112 : decode cX7_join 112 = .ok (.iaload, 1) := by decide +kernel
theorem dX7_join_113 : decode cX7_join 113 = .ok (.iload 6, 2) := by decide +kernel
theorem dX7_join_115 : decode cX7_join 115 = .ok (.if_icmp .ne 7, 3) := by decide +kernel
theorem dX7_join_118 : decode cX7_join 118 = .ok (.iconst 1, 1) := by decide +kernel
theorem dX7_join_119 : decode cX7_join 119 = .ok (.goto 4, 3) := by decide +kernel
theorem dX7_join_122 : decode cX7_join 122 = .ok (.iconst 0, 1) := by decide +kernel
theorem dX7_join_123 : decode cX7_join 123 = .ok (.istore 8, 2) := by decide +kernel
theorem dX7_join_125 : decode cX7_join 125 = .ok (.iload 7, 2) := by decide +kernel
theorem dX7_join_127 : decode cX7_join 127 = .ok (.ifCond .ne 8, 3) := by decide +kernel
theorem dX7_join_130 : decode cX7_join 130 = .ok (.iload 8, 2) := by decide +kernel
theorem dX7_join_132 : decode cX7_join 132 = .ok (.ifCond .eq 155, 3) := by decide +kernel
theorem dX7_join_135 : decode cX7_join 135 = .ok (.iload 7, 2) := by decide +kernel
theorem dX7_join_137 : decode cX7_join 137 = .ok (.ifCond .eq 13, 3) := by decide +kernel
theorem dX7_join_140 : decode cX7_join 140 = .ok (.aload_n 0, 1) := by decide +kernel
theorem dX7_join_141 : decode cX7_join 141 = .ok (.getfield 76, 3) := by decide +kernel
theorem dX7_join_144 : decode cX7_join 144 = .ok (.iload 4, 2) := by decide +kernel
theorem dX7_join_146 : decode cX7_join 146 = .ok (.iaload, 1) := by decide +kernel
theorem dX7_join_147 : decode cX7_join 147 = .ok (.goto 10, 3) := by decide +kernel
theorem dX7_join_150 : decode cX7_join 150 = .ok (.aload_n 0, 1) := by decide +kernel
theorem dX7_join_151 : decode cX7_join 151 = .ok (.getfield 52, 3) := by decide +kernel
theorem dX7_join_154 : decode cX7_join 154 = .ok (.iload 5, 2) := by decide +kernel
theorem dX7_join_156 : decode cX7_join 156 = .ok (.iaload, 1) := by decide +kernel
theorem dX7_join_157 : decode cX7_join 157 = .ok (.istore 9, 2) := by decide +kernel
theorem dX7_join_159 : decode cX7_join 159 = .ok (.iconst 0, 1) := by decide +kernel
theorem dX7_join_160 : decode cX7_join 160 = .ok (.istore 10, 2) := by decide +kernel
theorem dX7_join_162 : decode cX7_join 162 = .ok (.iload 10, 2) := by decide +kernel
theorem dX7_join_164 : decode cX7_join 164 = .ok (.iload 9, 2) := by decide +kernel
theorem dX7_join_166 : decode cX7_join 166 = .ok (.if_icmp .ge 64, 3) := by decide +kernel
theorem dX7_join_169 : decode cX7_join 169 = .ok (.aload_n 0, 1) := by decide +kernel
theorem dX7_join_170 : decode cX7_join 170 = .ok (.getfield 67, 3) := by decide +kernel
theorem dX7_join_173 : decode cX7_join 173 = .ok (.aload_n 0, 1) := by decide +kernel
theorem dX7_join_174 : decode cX7_join 174 = .ok (.getfield 178, 3) := by decide +kernel
theorem dX7_join_177 : decode cX7_join 177 = .ok (.iload 7, 2) := by decide +kernel
theorem dX7_join_179 : decode cX7_join 179 = .ok (.ifCond .eq 20, 3) := by decide +kernel
theorem dX7_join_182 : decode cX7_join 182 = .ok (.aload_n 0, 1) := by decide +kernel
theorem dX7_join_183 : decode cX7_join 183 = .ok (.getfield 79, 3) := by decide +kernel
theorem dX7_join_186 : decode cX7_join 186 = .ok (.aload_n 0, 1) := by decide +kernel
theorem dX7_join_187 : decode cX7_join 187 = .ok (.iload 4, 2) := by decide +kernel
theorem dX7_join_189 : decode cX7_join 189 = .ok (.invokevirtual 236, 3) := by decide +kernel
theorem dX7_join_192 : decode cX7_join 192 = .ok (.iload 10, 2) := by decide +kernel
theorem dX7_join_194 : decode cX7_join 194 = .ok (.iadd, 1) := by decide +kernel
theorem dX7_join_195 : decode cX7_join 195 = .ok (.iaload, 1) := by decide +kernel
theorem dX7_join_196 : decode cX7_join 196 = .ok (.goto 17, 3) := by decide +kernel
theorem dX7_join_199 : decode cX7_join 199 = .ok (.aload_n 0, 1) := by decide +kernel
theorem dX7_join_200 : decode cX7_join 200 = .ok (.getfield 58, 3) := by decide +kernel
theorem dX7_join_203 : decode cX7_join 203 = .ok (.aload_n 0, 1) := by decide +kernel
theorem dX7_join_204 : decode cX7_join 204 = .ok (.iload 5, 2) := by decide +kernel
theorem dX7_join_206 : decode cX7_join 206 = .ok (.invokevirtual 239, 3) := by decide +kernel
theorem dX7_join_209 : decode cX7_join 209 = .ok (.iload 10, 2) := by decide +kernel
theorem dX7_join_211 : decode cX7_join 211 = .ok (.iadd, 1) := by decide +kernel
theorem dX7_join_212 : decode cX7_join 212 = .ok (.iaload, 1) := by decide +kernel
theorem dX7_join_213 : decode cX7_join 213 = .ok (.iastore, 1) := by decide +kernel
theorem dX7_join_214 : decode cX7_join 214 = .ok (.aload_n 0, 1) := by decide +kernel
theorem dX7_join_215 : decode cX7_join 215 = .ok (.dup, 1) := by decide +kernel
theorem dX7_join_216 : decode cX7_join 216 = .ok (.getfield 178, 3) := by decide +kernel
theorem dX7_join_219 : decode cX7_join 219 = .ok (.iconst 1, 1) := by decide +kernel
theorem dX7_join_220 : decode cX7_join 220 = .ok (.iadd, 1) := by decide +kernel
theorem dX7_join_221 : decode cX7_join 221 = .ok (.putfield 178, 3) := by decide +kernel
theorem dX7_join_224 : decode cX7_join 224 = .ok (.iinc 10 1, 3) := by decide +kernel
theorem dX7_join_227 : decode cX7_join 227 = .ok (.goto (-65), 3) := by decide +kernel
theorem dX7_join_230 : decode cX7_join 230 = .ok (.iload 6, 2) := by decide +kernel
theorem dX7_join_232 : decode cX7_join 232 = .ok (.iload 7, 2) := by decide +kernel
theorem dX7_join_234 : decode cX7_join 234 = .ok (.ifCond .eq 13, 3) := by decide +kernel
theorem dX7_join_237 : decode cX7_join 237 = .ok (.aload_n 0, 1) := by decide +kernel
theorem dX7_join_238 : decode cX7_join 238 = .ok (.getfield 73, 3) := by decide +kernel
theorem dX7_join_241 : decode cX7_join 241 = .ok (.iload 4, 2) := by decide +kernel
theorem dX7_join_243 : decode cX7_join 243 = .ok (.iaload, 1) := by decide +kernel
theorem dX7_join_244 : decode cX7_join 244 = .ok (.goto 10, 3) := by decide +kernel
theorem dX7_join_247 : decode cX7_join 247 = .ok (.aload_n 0, 1) := by decide +kernel
theorem dX7_join_248 : decode cX7_join 248 = .ok (.getfield 49, 3) := by decide +kernel
theorem dX7_join_251 : decode cX7_join 251 = .ok (.iload 5, 2) := by decide +kernel
theorem dX7_join_253 : decode cX7_join 253 = .ok (.iaload, 1) := by decide +kernel
theorem dX7_join_254 : decode cX7_join 254 = .ok (.iadd, 1) := by decide +kernel
theorem dX7_join_255 : decode cX7_join 255 = .ok (.istore 6, 2) := by decide +kernel
theorem dX7_join_257 : decode cX7_join 257 = .ok (.iload 4, 2) := by decide +kernel
theorem dX7_join_259 : decode cX7_join 259 = .ok (.iload 7, 2) := by decide +kernel
theorem dX7_join_261 : decode cX7_join 261 = .ok (.ifCond .eq 7, 3) := by decide +kernel
theorem dX7_join_264 : decode cX7_join 264 = .ok (.iconst 1, 1) := by decide +kernel
theorem dX7_join_265 : decode cX7_join 265 = .ok (.goto 4, 3) := by decide +kernel
theorem dX7_join_268 : decode cX7_join 268 = .ok (.iconst 0, 1) := by decide +kernel
theorem dX7_join_269 : decode cX7_join 269 = .ok (.iadd, 1) := by decide +kernel
theorem dX7_join_270 : decode cX7_join 270 = .ok (.istore 4, 2) := by decide +kernel
theorem dX7_join_272 : decode cX7_join 272 = .ok (.iload 5, 2) := by decide +kernel
theorem dX7_join_274 : decode cX7_join 274 = .ok (.iload 8, 2) := by decide +kernel
theorem dX7_join_276 : decode cX7_join 276 = .ok (.ifCond .eq 7, 3) := by decide +kernel
theorem dX7_join_279 : decode cX7_join 279 = .ok (.iconst 1, 1) := by decide +kernel
theorem dX7_join_280 : decode cX7_join 280 = .ok (.goto 4, 3) := by decide +kernel
theorem dX7_join_283 : decode cX7_join 283 = .ok (.iconst 0, 1) := by decide +kernel
theorem dX7_join_284 : decode cX7_join 284 = .ok (.iadd, 1) := by decide +kernel
theorem dX7_join_285 : decode cX7_join 285 = .ok (.istore 5, 2) := by decide +kernel
theorem dX7_join_287 : decode cX7_join 287 = .ok (.iload 6, 2) := by decide +kernel
theorem dX7_join_289 : decode cX7_join 289 = .ok (.aload_n 0, 1) := by decide +kernel
theorem dX7_join_290 : decode cX7_join 290 = .ok (.getfield 13, 3) := by decide +kernel
theorem dX7_join_293 : decode cX7_join 293 = .ok (.iload_n 1, 1) := by decide +kernel
theorem dX7_join_294 : decode cX7_join 294 = .ok (.iaload, 1) := by decide +kernel
theorem dX7_join_295 : decode cX7_join 295 = .ok (.if_icmp .ge 91, 3) := by decide +kernel
theorem dX7_join_298 : decode cX7_join 298 = .ok (.iload 4, 2) := by decide +kernel
theorem dX7_join_300 : decode cX7_join 300 = .ok (.aload_n 0, 1) := by decide +kernel
theorem dX7_join_301 : decode cX7_join 301 = .ok (.getfield 233, 3) := by decide +kernel
theorem dX7_join_304 : decode cX7_join 304 = .ok (.if_icmp .ge 15, 3) := by decide +kernel
theorem dX7_join_307 : decode cX7_join 307 = .ok (.aload_n 0, 1) := by decide +kernel
theorem dX7_join_308 : decode cX7_join 308 = .ok (.getfield 70, 3) := by decide +kernel
theorem dX7_join_311 : decode cX7_join 311 = .ok (.iload 4, 2) := by decide +kernel
theorem dX7_join_313 : decode cX7_join 313 = .ok (.iaload, 1) := by decide +kernel
theorem dX7_join_314 : decode cX7_join 314 = .ok (.iload 6, 2) := by decide +kernel
theorem dX7_join_316 : decode cX7_join 316 = .ok (.if_icmp .eq 24, 3) := by decide +kernel
theorem dX7_join_319 : decode cX7_join 319 = .ok (.iload 5, 2) := by decide +kernel
theorem dX7_join_321 : decode cX7_join 321 = .ok (.aload_n 0, 1) := by decide +kernel
theorem dX7_join_322 : decode cX7_join 322 = .ok (.getfield 119, 3) := by decide +kernel
theorem dX7_join_325 : decode cX7_join 325 = .ok (.if_icmp .ge 19, 3) := by decide +kernel
theorem dX7_join_328 : decode cX7_join 328 = .ok (.aload_n 0, 1) := by decide +kernel
theorem dX7_join_329 : decode cX7_join 329 = .ok (.getfield 46, 3) := by decide +kernel
theorem dX7_join_332 : decode cX7_join 332 = .ok (.iload 5, 2) := by decide +kernel
theorem dX7_join_334 : decode cX7_join 334 = .ok (.iaload, 1) := by decide +kernel
theorem dX7_join_335 : decode cX7_join 335 = .ok (.iload 6, 2) := by decide +kernel
theorem dX7_join_337 : decode cX7_join 337 = .ok (.if_icmp .ne 7, 3) := by decide +kernel
theorem dX7_join_340 : decode cX7_join 340 = .ok (.iconst 1, 1) := by decide +kernel
theorem dX7_join_341 : decode cX7_join 341 = .ok (.goto 4, 3) := by decide +kernel
theorem dX7_join_344 : decode cX7_join 344 = .ok (.iconst 0, 1) := by decide +kernel
theorem dX7_join_345 : decode cX7_join 345 = .ok (.istore 9, 2) := by decide +kernel
theorem dX7_join_347 : decode cX7_join 347 = .ok (.iload 9, 2) := by decide +kernel
theorem dX7_join_349 : decode cX7_join 349 = .ok (.ifCond .ne 37, 3) := by decide +kernel
theorem dX7_join_352 : decode cX7_join 352 = .ok (.aload_n 0, 1) := by decide +kernel
theorem dX7_join_353 : decode cX7_join 353 = .ok (.getfield 67, 3) := by decide +kernel
theorem dX7_join_356 : decode cX7_join 356 = .ok (.aload_n 0, 1) := by decide +kernel
theorem dX7_join_357 : decode cX7_join 357 = .ok (.getfield 178, 3) := by decide +kernel
theorem dX7_join_360 : decode cX7_join 360 = .ok (.aload_n 0, 1) := by decide +kernel
theorem dX7_join_361 : decode cX7_join 361 = .ok (.getfield 16, 3) := by decide +kernel
theorem dX7_join_364 : decode cX7_join 364 = .ok (.bipush 14, 2) := by decide +kernel
theorem dX7_join_366 : decode cX7_join 366 = .ok (.iload_n 1, 1) := by decide +kernel
theorem dX7_join_367 : decode cX7_join 367 = .ok (.imul, 1) := by decide +kernel
theorem dX7_join_368 : decode cX7_join 368 = .ok (.iload 6, 2) := by decide +kernel
theorem dX7_join_370 : decode cX7_join 370 = .ok (.iadd, 1) := by decide +kernel
theorem dX7_join_371 : decode cX7_join 371 = .ok (.iaload, 1) := by decide +kernel
theorem dX7_join_372 : decode cX7_join 372 = .ok (.iastore, 1) := by decide +kernel
theorem dX7_join_373 : decode cX7_join 373 = .ok (.aload_n 0, 1) := by decide +kernel
theorem dX7_join_374 : decode cX7_join 374 = .ok (.dup, 1) := by decide +kernel
theorem dX7_join_375 : decode cX7_join 375 = .ok (.getfield 178, 3) := by decide +kernel
theorem dX7_join_378 : decode cX7_join 378 = .ok (.iconst 1, 1) := by decide +kernel
theorem dX7_join_379 : decode cX7_join 379 = .ok (.iadd, 1) := by decide +kernel
theorem dX7_join_380 : decode cX7_join 380 = .ok (.putfield 178, 3) := by decide +kernel
theorem dX7_join_383 : decode cX7_join 383 = .ok (.iinc 6 1, 3) := by decide +kernel
theorem dX7_join_386 : decode cX7_join 386 = .ok (.goto (-346), 3) := by decide +kernel
theorem dX7_join_389 : decode cX7_join 389 = .ok (.aload_n 0, 1) := by decide +kernel
theorem dX7_join_390 : decode cX7_join 390 = .ok (.getfield 178, 3) := by decide +kernel
theorem dX7_join_393 : decode cX7_join 393 = .ok (.bipush 14, 2) := by decide +kernel
theorem dX7_join_395 : decode cX7_join 395 = .ok (.if_icmp .le 6, 3) := by decide +kernel
theorem dX7_join_398 : decode cX7_join 398 = .ok (.bipush (-104), 2) := by decide +kernel
theorem dX7_join_400 : decode cX7_join 400 = .ok (.ireturn, 1) := by decide +kernel
theorem dX7_join_401 : decode cX7_join 401 = .ok (.aload_n 0, 1) := by decide +kernel
theorem dX7_join_402 : decode cX7_join 402 = .ok (.invokevirtual 195, 3) := by decide +kernel
theorem dX7_join_405 : decode cX7_join 405 = .ok (.aload_n 0, 1) := by decide +kernel
theorem dX7_join_406 : decode cX7_join 406 = .ok (.getfield 108, 3) := by decide +kernel
theorem dX7_join_409 : decode cX7_join 409 = .ok (.ireturn, 1) := by decide +kernel
theorem dX7_ledTo_0 : decode cX7_ledTo 0 = .ok (.iload_n 1, 1) := by decide +kernel
theorem dX7_ledTo_1 : decode cX7_ledTo 1 = .ok (.iconst (-1), 1) := by decide +kernel
theorem dX7_ledTo_2 : decode cX7_ledTo 2 = .ok (.if_icmp .eq 43, 3) := by decide +kernel
theorem dX7_ledTo_5 : decode cX7_ledTo 5 = .ok (.aload_n 0, 1) := by decide +kernel
theorem dX7_ledTo_6 : decode cX7_ledTo 6 = .ok (.iload_n 1, 1) := by decide +kernel
theorem dX7_ledTo_7 : decode cX7_ledTo 7 = .ok (.iload_n 2, 1) := by decide +kernel
theorem dX7_ledTo_8 : decode cX7_ledTo 8 = .ok (.invokevirtual 144, 3) := by decide +kernel
theorem dX7_ledTo_11 : decode cX7_ledTo 11 = .ok (.iconst 0, 1) := by decide +kernel
theorem dX7_ledTo_12 : decode cX7_ledTo 12 = .ok (.istore 4, 2) := by decide +kernel
theorem dX7_ledTo_14 : decode cX7_ledTo 14 = .ok (.iload 4, 2) := by decide +kernel
theorem dX7_ledTo_16 : decode cX7_ledTo 16 = .ok (.aload_n 0, 1) := by decide +kernel
theorem dX7_ledTo_17 : decode cX7_ledTo 17 = .ok (.getfield 13, 3) := by decide +kernel
theorem dX7_ledTo_20 : decode cX7_ledTo 20 = .ok (.iload_n 1, 1) := by decide +kernel
theorem dX7_ledTo_21 : decode cX7_ledTo 21 = .ok (.iaload, 1) := by decide +kernel
theorem dX7_ledTo_22 : decode cX7_ledTo 22 = .ok (.if_icmp .ge 23, 3) := by decide +kernel
theorem dX7_ledTo_25 : decode cX7_ledTo 25 = .ok (.aload_n 0, 1) := by decide +kernel
theorem dX7_ledTo_26 : decode cX7_ledTo 26 = .ok (.getfield 64, 3) := by decide +kernel
theorem dX7_ledTo_29 : decode cX7_ledTo 29 = .ok (.iload 4, 2) := by decide +kernel
theorem dX7_ledTo_31 : decode cX7_ledTo 31 = .ok (.iaload, 1) := by decide +kernel
theorem dX7_ledTo_32 : decode cX7_ledTo 32 = .ok (.iload_n 3, 1) := by decide +kernel
theorem dX7_ledTo_33 : decode cX7_ledTo 33 = .ok (.if_icmp .ne 6, 3) := by decide +kernel
theorem dX7_ledTo_36 : decode cX7_ledTo 36 = .ok (.iload 4, 2) := by decide +kernel
theorem dX7_ledTo_38 : decode cX7_ledTo 38 = .ok (.ireturn, 1) := by decide +kernel
theorem dX7_ledTo_39 : decode cX7_ledTo 39 = .ok (.iinc 4 1, 3) := by decide +kernel
theorem dX7_ledTo_42 : decode cX7_ledTo 42 = .ok (.goto (-28), 3) := by decide +kernel
theorem dX7_ledTo_45 : decode cX7_ledTo 45 = .ok (.iconst (-1), 1) := by decide +kernel
theorem dX7_ledTo_46 : decode cX7_ledTo 46 = .ok (.ireturn, 1) := by decide +kernel
theorem dX7_broughtBy_0 : decode cX7_broughtBy 0 = .ok (.iload_n 1, 1) := by decide +kernel
theorem dX7_broughtBy_1 : decode cX7_broughtBy 1 = .ok (.istore_n 3, 1) := by decide +kernel
theorem dX7_broughtBy_2 : decode cX7_broughtBy 2 = .ok (.iload_n 2, 1) := by decide +kernel
theorem dX7_broughtBy_3 : decode cX7_broughtBy 3 = .ok (.istore 4, 2) := by decide +kernel
theorem dX7_broughtBy_5 : decode cX7_broughtBy 5 = .ok (.iconst 1, 1) := by decide +kernel
theorem dX7_broughtBy_6 : decode cX7_broughtBy 6 = .ok (.istore 5, 2) := by decide +kernel
theorem dX7_broughtBy_8 : decode cX7_broughtBy 8 = .ok (.iload 5, 2) := by decide +kernel
theorem dX7_broughtBy_10 : decode cX7_broughtBy 10 = .ok (.ifCond .eq 107, 3) := by decide +kernel
theorem dX7_broughtBy_13 : decode cX7_broughtBy 13 = .ok (.aload_n 0, 1) := by decide +kernel
theorem dX7_broughtBy_14 : decode cX7_broughtBy 14 = .ok (.aload_n 0, 1) := by decide +kernel
theorem dX7_broughtBy_15 : decode cX7_broughtBy 15 = .ok (.getfield 19, 3) := by decide +kernel
theorem dX7_broughtBy_18 : decode cX7_broughtBy 18 = .ok (.iload_n 3, 1) := by decide +kernel
theorem dX7_broughtBy_19 : decode cX7_broughtBy 19 = .ok (.iaload, 1) := by decide +kernel
theorem dX7_broughtBy_20 : decode cX7_broughtBy 20 = .ok (.iload_n 3, 1) := by decide +kernel
theorem dX7_broughtBy_21 : decode cX7_broughtBy 21 = .ok (.iload 4, 2) := by decide +kernel
theorem dX7_broughtBy_23 : decode cX7_broughtBy 23 = .ok (.invokevirtual 257, 3) := by decide +kernel
theorem dX7_broughtBy_26 : decode cX7_broughtBy 26 = .ok (.istore 6, 2) := by decide +kernel
theorem dX7_broughtBy_28 : decode cX7_broughtBy 28 = .ok (.iload 6, 2) := by decide +kernel
theorem dX7_broughtBy_30 : decode cX7_broughtBy 30 = .ok (.iconst (-1), 1) := by decide +kernel
theorem dX7_broughtBy_31 : decode cX7_broughtBy 31 = .ok (.if_icmp .ne 19, 3) := by decide +kernel
theorem dX7_broughtBy_34 : decode cX7_broughtBy 34 = .ok (.aload_n 0, 1) := by decide +kernel
theorem dX7_broughtBy_35 : decode cX7_broughtBy 35 = .ok (.aload_n 0, 1) := by decide +kernel
theorem dX7_broughtBy_36 : decode cX7_broughtBy 36 = .ok (.getfield 22, 3) := by decide +kernel
theorem dX7_broughtBy_39 : decode cX7_broughtBy 39 = .ok (.iload_n 3, 1) := by decide +kernel
theorem dX7_broughtBy_40 : decode cX7_broughtBy 40 = .ok (.iaload, 1) := by decide +kernel
theorem dX7_broughtBy_41 : decode cX7_broughtBy 41 = .ok (.iload_n 3, 1) := by decide +kernel
theorem dX7_broughtBy_42 : decode cX7_broughtBy 42 = .ok (.iload 4, 2) := by decide +kernel
theorem dX7_broughtBy_44 : decode cX7_broughtBy 44 = .ok (.invokevirtual 257, 3) := by decide +kernel
theorem dX7_broughtBy_47 : decode cX7_broughtBy 47 = .ok (.goto 4, 3) := by decide +kernel
theorem dX7_broughtBy_50 : decode cX7_broughtBy 50 = .ok (.iconst (-1), 1) := by decide +kernel
theorem dX7_broughtBy_51 : decode cX7_broughtBy 51 = .ok (.istore 7, 2) := by decide +kernel
theorem dX7_broughtBy_53 : decode cX7_broughtBy 53 = .ok (.iload 6, 2) := by decide +kernel
theorem dX7_broughtBy_55 : decode cX7_broughtBy 55 = .ok (.iconst (-1), 1) := by decide +kernel
theorem dX7_broughtBy_56 : decode cX7_broughtBy 56 = .ok (.if_icmp .ne 9, 3) := by decide +kernel
theorem dX7_broughtBy_59 : decode cX7_broughtBy 59 = .ok (.iload 7, 2) := by decide +kernel
theorem dX7_broughtBy_61 : decode cX7_broughtBy 61 = .ok (.iconst (-1), 1) := by decide +kernel
theorem dX7_broughtBy_62 : decode cX7_broughtBy 62 = .ok (.if_icmp .eq 7, 3) := by decide +kernel
theorem dX7_broughtBy_65 : decode cX7_broughtBy 65 = .ok (.iconst 1, 1) := by decide +kernel
theorem dX7_broughtBy_66 : decode cX7_broughtBy 66 = .ok (.goto 4, 3) := by decide +kernel
theorem dX7_broughtBy_69 : decode cX7_broughtBy 69 = .ok (.iconst 0, 1) := by decide +kernel
theorem dX7_broughtBy_70 : decode cX7_broughtBy 70 = .ok (.istore 5, 2) := by decide +kernel
theorem dX7_broughtBy_72 : decode cX7_broughtBy 72 = .ok (.iload 5, 2) := by decide +kernel
theorem dX7_broughtBy_74 : decode cX7_broughtBy 74 = .ok (.ifCond .eq 40, 3) := by decide +kernel
theorem dX7_broughtBy_77 : decode cX7_broughtBy 77 = .ok (.iload 6, 2) := by decide +kernel
theorem dX7_broughtBy_79 : decode cX7_broughtBy 79 = .ok (.iconst (-1), 1) := by decide +kernel
theorem dX7_broughtBy_80 : decode cX7_broughtBy 80 = .ok (.if_icmp .eq 12, 3) := by decide +kernel
theorem dX7_broughtBy_83 : decode cX7_broughtBy 83 = .ok (.aload_n 0, 1) := by decide +kernel
theorem dX7_broughtBy_84 : decode cX7_broughtBy 84 = .ok (.getfield 19, 3) := by decide +kernel
theorem dX7_broughtBy_87 : decode cX7_broughtBy 87 = .ok (.iload_n 3, 1) := by decide +kernel
theorem dX7_broughtBy_88 : decode cX7_broughtBy 88 = .ok (.iaload, 1) := by decide +kernel
theorem dX7_broughtBy_89 : decode cX7_broughtBy 89 = .ok (.goto 9, 3) := by decide +kernel
theorem dX7_broughtBy_92 : decode cX7_broughtBy 92 = .ok (.aload_n 0, 1) := by decide +kernel
theorem dX7_broughtBy_93 : decode cX7_broughtBy 93 = .ok (.getfield 22, 3) := by decide +kernel
theorem dX7_broughtBy_96 : decode cX7_broughtBy 96 = .ok (.iload_n 3, 1) := by decide +kernel
theorem dX7_broughtBy_97 : decode cX7_broughtBy 97 = .ok (.iaload, 1) := by decide +kernel
theorem dX7_broughtBy_98 : decode cX7_broughtBy 98 = .ok (.istore_n 3, 1) := by decide +kernel
theorem dX7_broughtBy_99 : decode cX7_broughtBy 99 = .ok (.iload 6, 2) := by decide +kernel
theorem dX7_broughtBy_101 : decode cX7_broughtBy 101 = .ok (.iconst (-1), 1) := by decide +kernel
theorem dX7_broughtBy_102 : decode cX7_broughtBy 102 = .ok (.if_icmp .eq 8, 3) := by decide +kernel
theorem dX7_broughtBy_105 : decode cX7_broughtBy 105 = .ok (.iload 6, 2) := by decide +kernel
theorem dX7_broughtBy_107 : decode cX7_broughtBy 107 = .ok (.goto 5, 3) := by decide +kernel
theorem dX7_broughtBy_110 : decode cX7_broughtBy 110 = .ok (.iload 7, 2) := by decide +kernel
theorem dX7_broughtBy_112 : decode cX7_broughtBy 112 = .ok (.istore 4, 2) := by decide +kernel
theorem dX7_broughtBy_114 : decode cX7_broughtBy 114 = .ok (.goto (-106), 3) := by decide +kernel
theorem dX7_broughtBy_117 : decode cX7_broughtBy 117 = .ok (.iload_n 3, 1) := by decide +kernel
theorem dX7_broughtBy_118 : decode cX7_broughtBy 118 = .ok (.ireturn, 1) := by decide +kernel
theorem dX7_brought_0 : decode cX7_brought 0 = .ok (.aload_n 0, 1) := by decide +kernel
theorem dX7_brought_1 : decode cX7_brought 1 = .ok (.iload_n 1, 1) := by decide +kernel
theorem dX7_brought_2 : decode cX7_brought 2 = .ok (.invokevirtual 111, 3) := by decide +kernel
theorem dX7_brought_5 : decode cX7_brought 5 = .ok (.ifCond .eq 28, 3) := by decide +kernel
theorem dX7_brought_8 : decode cX7_brought 8 = .ok (.iload_n 2, 1) := by decide +kernel
theorem dX7_brought_9 : decode cX7_brought 9 = .ok (.iconst 0, 1) := by decide +kernel
theorem dX7_brought_10 : decode cX7_brought 10 = .ok (.aload_n 0, 1) := by decide +kernel
theorem dX7_brought_11 : decode cX7_brought 11 = .ok (.getfield 13, 3) := by decide +kernel
theorem dX7_brought_14 : decode cX7_brought 14 = .ok (.iload_n 1, 1) := by decide +kernel
theorem dX7_brought_15 : decode cX7_brought 15 = .ok (.iaload, 1) := by decide +kernel
theorem dX7_brought_16 : decode cX7_brought 16 = .ok (.iconst 1, 1) := by decide +kernel
theorem dX7_brought_17 : decode cX7_brought 17 = .ok (.isub, 1) := by decide +kernel
theorem dX7_brought_18 : decode cX7_brought 18 = .ok (.invokestatic 101, 3) := by decide +kernel
theorem dX7_brought_21 : decode cX7_brought 21 = .ok (.ifCond .eq 12, 3) := by decide +kernel
theorem dX7_brought_24 : decode cX7_brought 24 = .ok (.aload_n 0, 1) := by decide +kernel
theorem dX7_brought_25 : decode cX7_brought 25 = .ok (.iload_n 1, 1) := by decide +kernel
theorem dX7_brought_26 : decode cX7_brought 26 = .ok (.iload_n 2, 1) := by decide +kernel
theorem dX7_brought_27 : decode cX7_brought 27 = .ok (.invokevirtual 260, 3) := by decide +kernel
theorem dX7_brought_30 : decode cX7_brought 30 = .ok (.goto 5, 3) := by decide +kernel
theorem dX7_brought_33 : decode cX7_brought 33 = .ok (.bipush (-101), 2) := by decide +kernel
theorem dX7_brought_35 : decode cX7_brought 35 = .ok (.ireturn, 1) := by decide +kernel
theorem dX7_share_0 : decode cX7_share 0 = .ok (.aload_n 0, 1) := by decide +kernel
theorem dX7_share_1 : decode cX7_share 1 = .ok (.iload_n 1, 1) := by decide +kernel
theorem dX7_share_2 : decode cX7_share 2 = .ok (.invokevirtual 111, 3) := by decide +kernel
theorem dX7_share_5 : decode cX7_share 5 = .ok (.ifCond .eq 11, 3) := by decide +kernel
theorem dX7_share_8 : decode cX7_share 8 = .ok (.aload_n 0, 1) := by decide +kernel
theorem dX7_share_9 : decode cX7_share 9 = .ok (.iload_n 2, 1) := by decide +kernel
theorem dX7_share_10 : decode cX7_share 10 = .ok (.invokevirtual 111, 3) := by decide +kernel
theorem dX7_share_13 : decode cX7_share 13 = .ok (.ifCond .ne 6, 3) := by decide +kernel
theorem dX7_share_16 : decode cX7_share 16 = .ok (.bipush (-101), 2) := by decide +kernel
theorem dX7_share_18 : decode cX7_share 18 = .ok (.ireturn, 1) := by decide +kernel
theorem dX7_share_19 : decode cX7_share 19 = .ok (.iconst 0, 1) := by decide +kernel
theorem dX7_share_20 : decode cX7_share 20 = .ok (.istore_n 3, 1) := by decide +kernel
theorem dX7_share_21 : decode cX7_share 21 = .ok (.iconst 0, 1) := by decide +kernel
theorem dX7_share_22 : decode cX7_share 22 = .ok (.istore 4, 2) := by decide +kernel
theorem dX7_share_24 : decode cX7_share 24 = .ok (.iload 4, 2) := by decide +kernel
theorem dX7_share_26 : decode cX7_share 26 = .ok (.aload_n 0, 1) := by decide +kernel
theorem dX7_share_27 : decode cX7_share 27 = .ok (.getfield 13, 3) := by decide +kernel
theorem dX7_share_30 : decode cX7_share 30 = .ok (.iload_n 1, 1) := by decide +kernel
theorem dX7_share_31 : decode cX7_share 31 = .ok (.iaload, 1) := by decide +kernel
theorem dX7_share_32 : decode cX7_share 32 = .ok (.if_icmp .ge 28, 3) := by decide +kernel
theorem dX7_share_35 : decode cX7_share 35 = .ok (.iload_n 3, 1) := by decide +kernel
theorem dX7_share_36 : decode cX7_share 36 = .ok (.aload_n 0, 1) := by decide +kernel
theorem dX7_share_37 : decode cX7_share 37 = .ok (.iload_n 1, 1) := by decide +kernel
theorem dX7_share_38 : decode cX7_share 38 = .ok (.iload 4, 2) := by decide +kernel
theorem dX7_share_40 : decode cX7_share 40 = .ok (.invokevirtual 260, 3) := by decide +kernel
theorem dX7_share_43 : decode cX7_share 43 = .ok (.iload_n 2, 1) := by decide +kernel
theorem dX7_share_44 : decode cX7_share 44 = .ok (.if_icmp .ne 7, 3) := by decide +kernel
theorem dX7_share_47 : decode cX7_share 47 = .ok (.iconst 1, 1) := by decide +kernel
theorem dX7_share_48 : decode cX7_share 48 = .ok (.goto 4, 3) := by decide +kernel
theorem dX7_share_51 : decode cX7_share 51 = .ok (.iconst 0, 1) := by decide +kernel
theorem dX7_share_52 : decode cX7_share 52 = .ok (.iadd, 1) := by decide +kernel
theorem dX7_share_53 : decode cX7_share 53 = .ok (.istore_n 3, 1) := by decide +kernel
theorem dX7_share_54 : decode cX7_share 54 = .ok (.iinc 4 1, 3) := by decide +kernel
theorem dX7_share_57 : decode cX7_share 57 = .ok (.goto (-33), 3) := by decide +kernel
theorem dX7_share_60 : decode cX7_share 60 = .ok (.iload_n 3, 1) := by decide +kernel
theorem dX7_share_61 : decode cX7_share 61 = .ok (.ireturn, 1) := by decide +kernel
theorem dX7_layRemade_0 : decode cX7_layRemade 0 = .ok (.iconst 0, 1) := by decide +kernel
theorem dX7_layRemade_1 : decode cX7_layRemade 1 = .ok (.istore_n 2, 1) := by decide +kernel
theorem dX7_layRemade_2 : decode cX7_layRemade 2 = .ok (.iload_n 2, 1) := by decide +kernel
theorem dX7_layRemade_3 : decode cX7_layRemade 3 = .ok (.iload_n 1, 1) := by decide +kernel
theorem dX7_layRemade_4 : decode cX7_layRemade 4 = .ok (.if_icmp .ge 96, 3) := by decide +kernel
theorem dX7_layRemade_7 : decode cX7_layRemade 7 = .ok (.iconst 0, 1) := by decide +kernel
theorem dX7_layRemade_8 : decode cX7_layRemade 8 = .ok (.istore_n 3, 1) := by decide +kernel
theorem dX7_layRemade_9 : decode cX7_layRemade 9 = .ok (.iload_n 2, 1) := by decide +kernel
theorem dX7_layRemade_10 : decode cX7_layRemade 10 = .ok (.istore 4, 2) := by decide +kernel
theorem dX7_layRemade_12 : decode cX7_layRemade 12 = .ok (.iconst 0, 1) := by decide +kernel
theorem dX7_layRemade_13 : decode cX7_layRemade 13 = .ok (.istore 5, 2) := by decide +kernel
theorem dX7_layRemade_15 : decode cX7_layRemade 15 = .ok (.aload_n 0, 1) := by decide +kernel
theorem dX7_layRemade_16 : decode cX7_layRemade 16 = .ok (.getfield 85, 3) := by decide +kernel
theorem dX7_layRemade_19 : decode cX7_layRemade 19 = .ok (.iload 4, 2) := by decide +kernel
theorem dX7_layRemade_21 : decode cX7_layRemade 21 = .ok (.iaload, 1) := by decide +kernel
theorem dX7_layRemade_22 : decode cX7_layRemade 22 = .ok (.iconst (-1), 1) := by decide +kernel
theorem dX7_layRemade_23 : decode cX7_layRemade 23 = .ok (.if_icmp .eq 45, 3) := by decide +kernel
theorem dX7_layRemade_26 : decode cX7_layRemade 26 = .ok (.iload 5, 2) := by decide +kernel
theorem dX7_layRemade_28 : decode cX7_layRemade 28 = .ok (.iload_n 1, 1) := by decide +kernel
theorem dX7_layRemade_29 : decode cX7_layRemade 29 = .ok (.if_icmp .gt 39, 3) := by decide +kernel
theorem dX7_layRemade_32 : decode cX7_layRemade 32 = .ok (.iload_n 3, 1) := by decide +kernel
theorem dX7_layRemade_33 : decode cX7_layRemade 33 = .ok (.aload_n 0, 1) := by decide +kernel
theorem dX7_layRemade_34 : decode cX7_layRemade 34 = .ok (.getfield 82, 3) := by decide +kernel
theorem dX7_layRemade_37 : decode cX7_layRemade 37 = .ok (.bipush 6, 2) := by decide +kernel
theorem dX7_layRemade_39 : decode cX7_layRemade 39 = .ok (.iload 4, 2) := by decide +kernel
theorem dX7_layRemade_41 : decode cX7_layRemade 41 = .ok (.imul, 1) := by decide +kernel
theorem dX7_layRemade_42 : decode cX7_layRemade 42 = .ok (.aload_n 0, 1) := by decide +kernel
theorem dX7_layRemade_43 : decode cX7_layRemade 43 = .ok (.getfield 85, 3) := by decide +kernel
theorem dX7_layRemade_46 : decode cX7_layRemade 46 = .ok (.iload 4, 2) := by decide +kernel
theorem dX7_layRemade_48 : decode cX7_layRemade 48 = .ok (.iaload, 1) := by decide +kernel
theorem dX7_layRemade_49 : decode cX7_layRemade 49 = .ok (.iadd, 1) := by decide +kernel
theorem dX7_layRemade_50 : decode cX7_layRemade 50 = .ok (.iaload, 1) := by decide +kernel
theorem dX7_layRemade_51 : decode cX7_layRemade 51 = .ok (.iadd, 1) := by decide +kernel
theorem dX7_layRemade_52 : decode cX7_layRemade 52 = .ok (.istore_n 3, 1) := by decide +kernel
theorem dX7_layRemade_53 : decode cX7_layRemade 53 = .ok (.aload_n 0, 1) := by decide +kernel
theorem dX7_layRemade_54 : decode cX7_layRemade 54 = .ok (.getfield 85, 3) := by decide +kernel
theorem dX7_layRemade_57 : decode cX7_layRemade 57 = .ok (.iload 4, 2) := by decide +kernel
theorem dX7_layRemade_59 : decode cX7_layRemade 59 = .ok (.iaload, 1) := by decide +kernel
theorem dX7_layRemade_60 : decode cX7_layRemade 60 = .ok (.istore 4, 2) := by decide +kernel
theorem dX7_layRemade_62 : decode cX7_layRemade 62 = .ok (.iinc 5 1, 3) := by decide +kernel
theorem dX7_layRemade_65 : decode cX7_layRemade 65 = .ok (.goto (-50), 3) := by decide +kernel
theorem dX7_layRemade_68 : decode cX7_layRemade 68 = .ok (.iload 5, 2) := by decide +kernel
theorem dX7_layRemade_70 : decode cX7_layRemade 70 = .ok (.iload_n 1, 1) := by decide +kernel
theorem dX7_layRemade_71 : decode cX7_layRemade 71 = .ok (.if_icmp .le 5, 3) := by decide +kernel
theorem dX7_layRemade_74 : decode cX7_layRemade 74 = .ok (.iconst 0, 1) := by decide +kernel
theorem dX7_layRemade_75 : decode cX7_layRemade 75 = .ok (.ireturn, 1) := by decide +kernel
theorem dX7_layRemade_76 : decode cX7_layRemade 76 = .ok (.aload_n 0, 1) := by decide +kernel
theorem dX7_layRemade_77 : decode cX7_layRemade 77 = .ok (.getfield 88, 3) := by decide +kernel
theorem dX7_layRemade_80 : decode cX7_layRemade 80 = .ok (.iload_n 2, 1) := by decide +kernel
theorem dX7_layRemade_81 : decode cX7_layRemade 81 = .ok (.iload_n 3, 1) := by decide +kernel
theorem dX7_layRemade_82 : decode cX7_layRemade 82 = .ok (.aload_n 0, 1) := by decide +kernel
theorem dX7_layRemade_83 : decode cX7_layRemade 83 = .ok (.getfield 82, 3) := by decide +kernel
theorem dX7_layRemade_86 : decode cX7_layRemade 86 = .ok (.bipush 7, 2) := by decide +kernel
theorem dX7_layRemade_88 : decode cX7_layRemade 88 = .ok (.iload 4, 2) := by decide +kernel
theorem dX7_layRemade_90 : decode cX7_layRemade 90 = .ok (.imul, 1) := by decide +kernel
theorem dX7_layRemade_91 : decode cX7_layRemade 91 = .ok (.iaload, 1) := by decide +kernel
theorem dX7_layRemade_92 : decode cX7_layRemade 92 = .ok (.iadd, 1) := by decide +kernel
theorem dX7_layRemade_93 : decode cX7_layRemade 93 = .ok (.iastore, 1) := by decide +kernel
theorem dX7_layRemade_94 : decode cX7_layRemade 94 = .ok (.iinc 2 1, 3) := by decide +kernel
theorem dX7_layRemade_97 : decode cX7_layRemade 97 = .ok (.goto (-95), 3) := by decide +kernel
theorem dX7_layRemade_100 : decode cX7_layRemade 100 = .ok (.iconst 1, 1) := by decide +kernel
theorem dX7_layRemade_101 : decode cX7_layRemade 101 = .ok (.ireturn, 1) := by decide +kernel
theorem dX7_layStore_0 : decode cX7_layStore 0 = .ok (.iconst 0, 1) := by decide +kernel
theorem dX7_layStore_1 : decode cX7_layStore 1 = .ok (.istore_n 3, 1) := by decide +kernel
theorem dX7_layStore_2 : decode cX7_layStore 2 = .ok (.iload_n 3, 1) := by decide +kernel
theorem dX7_layStore_3 : decode cX7_layStore 3 = .ok (.iload_n 1, 1) := by decide +kernel
theorem dX7_layStore_4 : decode cX7_layStore 4 = .ok (.if_icmp .ge 64, 3) := by decide +kernel
theorem dX7_layStore_7 : decode cX7_layStore 7 = .ok (.iconst 0, 1) := by decide +kernel
theorem dX7_layStore_8 : decode cX7_layStore 8 = .ok (.istore 4, 2) := by decide +kernel
theorem dX7_layStore_10 : decode cX7_layStore 10 = .ok (.iload 4, 2) := by decide +kernel
theorem dX7_layStore_12 : decode cX7_layStore 12 = .ok (.iload_n 1, 1) := by decide +kernel
theorem dX7_layStore_13 : decode cX7_layStore 13 = .ok (.if_icmp .ge 49, 3) := by decide +kernel
theorem dX7_layStore_16 : decode cX7_layStore 16 = .ok (.aload_n 0, 1) := by decide +kernel
theorem dX7_layStore_17 : decode cX7_layStore 17 = .ok (.iload 4, 2) := by decide +kernel
theorem dX7_layStore_19 : decode cX7_layStore 19 = .ok (.iload_n 3, 1) := by decide +kernel
theorem dX7_layStore_20 : decode cX7_layStore 20 = .ok (.invokevirtual 144, 3) := by decide +kernel
theorem dX7_layStore_23 : decode cX7_layStore 23 = .ok (.aload_n 0, 1) := by decide +kernel
theorem dX7_layStore_24 : decode cX7_layStore 24 = .ok (.getfield 82, 3) := by decide +kernel
theorem dX7_layStore_27 : decode cX7_layStore 27 = .ok (.bipush 6, 2) := by decide +kernel
theorem dX7_layStore_29 : decode cX7_layStore 29 = .ok (.iload_n 3, 1) := by decide +kernel
theorem dX7_layStore_30 : decode cX7_layStore 30 = .ok (.imul, 1) := by decide +kernel
theorem dX7_layStore_31 : decode cX7_layStore 31 = .ok (.iload 4, 2) := by decide +kernel
theorem dX7_layStore_33 : decode cX7_layStore 33 = .ok (.iadd, 1) := by decide +kernel
theorem dX7_layStore_34 : decode cX7_layStore 34 = .ok (.iload_n 3, 1) := by decide +kernel
theorem dX7_layStore_35 : decode cX7_layStore 35 = .ok (.iload 4, 2) := by decide +kernel
theorem dX7_layStore_37 : decode cX7_layStore 37 = .ok (.if_icmp .ne 14, 3) := by decide +kernel
theorem dX7_layStore_40 : decode cX7_layStore 40 = .ok (.aload_n 0, 1) := by decide +kernel
theorem dX7_layStore_41 : decode cX7_layStore 41 = .ok (.getfield 13, 3) := by decide +kernel
theorem dX7_layStore_44 : decode cX7_layStore 44 = .ok (.iload_n 3, 1) := by decide +kernel
theorem dX7_layStore_45 : decode cX7_layStore 45 = .ok (.iaload, 1) := by decide +kernel
theorem dX7_layStore_46 : decode cX7_layStore 46 = .ok (.iconst 1, 1) := by decide +kernel
theorem dX7_layStore_47 : decode cX7_layStore 47 = .ok (.iadd, 1) := by decide +kernel
theorem dX7_layStore_48 : decode cX7_layStore 48 = .ok (.goto 7, 3) := by decide +kernel
theorem dX7_layStore_51 : decode cX7_layStore 51 = .ok (.aload_n 0, 1) := by decide +kernel
theorem dX7_layStore_52 : decode cX7_layStore 52 = .ok (.invokevirtual 148, 3) := by decide +kernel
theorem dX7_layStore_55 : decode cX7_layStore 55 = .ok (.iastore, 1) := by decide +kernel
theorem dX7_layStore_56 : decode cX7_layStore 56 = .ok (.iinc 4 1, 3) := by decide +kernel
theorem dX7_layStore_59 : decode cX7_layStore 59 = .ok (.goto (-49), 3) := by decide +kernel
theorem dX7_layStore_62 : decode cX7_layStore 62 = .ok (.iinc 3 1, 3) := by decide +kernel
theorem dX7_layStore_65 : decode cX7_layStore 65 = .ok (.goto (-63), 3) := by decide +kernel
theorem dX7_layStore_68 : decode cX7_layStore 68 = .ok (.aload_n 0, 1) := by decide +kernel
theorem dX7_layStore_69 : decode cX7_layStore 69 = .ok (.iconst 0, 1) := by decide +kernel
theorem dX7_layStore_70 : decode cX7_layStore 70 = .ok (.putfield 263, 3) := by decide +kernel
theorem dX7_layStore_73 : decode cX7_layStore 73 = .ok (.iconst 1, 1) := by decide +kernel
theorem dX7_layStore_74 : decode cX7_layStore 74 = .ok (.istore_n 3, 1) := by decide +kernel
theorem dX7_layStore_75 : decode cX7_layStore 75 = .ok (.iconst 0, 1) := by decide +kernel
theorem dX7_layStore_76 : decode cX7_layStore 76 = .ok (.istore 4, 2) := by decide +kernel
theorem dX7_layStore_78 : decode cX7_layStore 78 = .ok (.iload 4, 2) := by decide +kernel
theorem dX7_layStore_80 : decode cX7_layStore 80 = .ok (.iload_n 1, 1) := by decide +kernel
theorem dX7_layStore_81 : decode cX7_layStore 81 = .ok (.if_icmp .ge 13, 3) := by decide +kernel
theorem dX7_layStore_84 : decode cX7_layStore 84 = .ok (.iload_n 3, 1) := by decide +kernel
theorem dX7_layStore_85 : decode cX7_layStore 85 = .ok (.iload_n 1, 1) := by decide +kernel
theorem dX7_layStore_86 : decode cX7_layStore 86 = .ok (.imul, 1) := by decide +kernel
theorem dX7_layStore_87 : decode cX7_layStore 87 = .ok (.istore_n 3, 1) := by decide +kernel
theorem dX7_layStore_88 : decode cX7_layStore 88 = .ok (.iinc 4 1, 3) := by decide +kernel
theorem dX7_layStore_91 : decode cX7_layStore 91 = .ok (.goto (-13), 3) := by decide +kernel
theorem dX7_layStore_94 : decode cX7_layStore 94 = .ok (.iconst 0, 1) := by decide +kernel
theorem dX7_layStore_95 : decode cX7_layStore 95 = .ok (.istore 4, 2) := by decide +kernel
theorem dX7_layStore_97 : decode cX7_layStore 97 = .ok (.iload 4, 2) := by decide +kernel
theorem dX7_layStore_99 : decode cX7_layStore 99 = .ok (.iload_n 3, 1) := by decide +kernel
theorem dX7_layStore_100 : decode cX7_layStore 100 = .ok (.if_icmp .ge 30, 3) := by decide +kernel
theorem dX7_layStore_103 : decode cX7_layStore 103 = .ok (.aload_n 0, 1) := by decide +kernel
theorem dX7_layStore_104 : decode cX7_layStore 104 = .ok (.iload 4, 2) := by decide +kernel
theorem dX7_layStore_106 : decode cX7_layStore 106 = .ok (.iload_n 1, 1) := by decide +kernel
theorem dX7_layStore_107 : decode cX7_layStore 107 = .ok (.invokevirtual 267, 3) := by decide +kernel
theorem dX7_layStore_110 : decode cX7_layStore 110 = .ok (.aload_n 0, 1) := by decide +kernel
theorem dX7_layStore_111 : decode cX7_layStore 111 = .ok (.iload_n 1, 1) := by decide +kernel
theorem dX7_layStore_112 : decode cX7_layStore 112 = .ok (.invokevirtual 270, 3) := by decide +kernel
theorem dX7_layStore_115 : decode cX7_layStore 115 = .ok (.ifCond .eq 9, 3) := by decide +kernel
theorem dX7_layStore_118 : decode cX7_layStore 118 = .ok (.aload_n 0, 1) := by decide +kernel
theorem dX7_layStore_119 : decode cX7_layStore 119 = .ok (.iload_n 1, 1) := by decide +kernel
theorem dX7_layStore_120 : decode cX7_layStore 120 = .ok (.iload_n 2, 1) := by decide +kernel
theorem dX7_layStore_121 : decode cX7_layStore 121 = .ok (.invokevirtual 273, 3) := by decide +kernel
theorem dX7_layStore_124 : decode cX7_layStore 124 = .ok (.iinc 4 1, 3) := by decide +kernel
theorem dX7_layStore_127 : decode cX7_layStore 127 = .ok (.goto (-30), 3) := by decide +kernel
theorem dX7_layStore_130 : decode cX7_layStore 130 = .ok (.return_, 1) := by decide +kernel
theorem dX7_layCode_0 : decode cX7_layCode 0 = .ok (.iload_n 1, 1) := by decide +kernel
theorem dX7_layCode_1 : decode cX7_layCode 1 = .ok (.istore_n 3, 1) := by decide +kernel
theorem dX7_layCode_2 : decode cX7_layCode 2 = .ok (.iload_n 2, 1) := by decide +kernel
theorem dX7_layCode_3 : decode cX7_layCode 3 = .ok (.iconst 1, 1) := by decide +kernel
theorem dX7_layCode_4 : decode cX7_layCode 4 = .ok (.isub, 1) := by decide +kernel
theorem dX7_layCode_5 : decode cX7_layCode 5 = .ok (.istore 4, 2) := by decide +kernel
theorem dX7_layCode_7 : decode cX7_layCode 7 = .ok (.iload 4, 2) := by decide +kernel
theorem dX7_layCode_9 : decode cX7_layCode 9 = .ok (.ifCond .lt 52, 3) := by decide +kernel
theorem dX7_layCode_12 : decode cX7_layCode 12 = .ok (.iload_n 3, 1) := by decide +kernel
theorem dX7_layCode_13 : decode cX7_layCode 13 = .ok (.iload_n 2, 1) := by decide +kernel
theorem dX7_layCode_14 : decode cX7_layCode 14 = .ok (.irem, 1) := by decide +kernel
theorem dX7_layCode_15 : decode cX7_layCode 15 = .ok (.istore 5, 2) := by decide +kernel
theorem dX7_layCode_17 : decode cX7_layCode 17 = .ok (.iload_n 3, 1) := by decide +kernel
theorem dX7_layCode_18 : decode cX7_layCode 18 = .ok (.iload_n 2, 1) := by decide +kernel
theorem dX7_layCode_19 : decode cX7_layCode 19 = .ok (.idiv, 1) := by decide +kernel
theorem dX7_layCode_20 : decode cX7_layCode 20 = .ok (.istore_n 3, 1) := by decide +kernel
theorem dX7_layCode_21 : decode cX7_layCode 21 = .ok (.aload_n 0, 1) := by decide +kernel
theorem dX7_layCode_22 : decode cX7_layCode 22 = .ok (.getfield 85, 3) := by decide +kernel
theorem dX7_layCode_25 : decode cX7_layCode 25 = .ok (.iload 4, 2) := by decide +kernel
theorem dX7_layCode_27 : decode cX7_layCode 27 = .ok (.iload 5, 2) := by decide +kernel
theorem dX7_layCode_29 : decode cX7_layCode 29 = .ok (.ifCond .ne 7, 3) := by decide +kernel
theorem dX7_layCode_32 : decode cX7_layCode 32 = .ok (.iconst (-1), 1) := by decide +kernel
theorem dX7_layCode_33 : decode cX7_layCode 33 = .ok (.goto 21, 3) := by decide +kernel
theorem dX7_layCode_36 : decode cX7_layCode 36 = .ok (.iload 5, 2) := by decide +kernel
theorem dX7_layCode_38 : decode cX7_layCode 38 = .ok (.iconst 1, 1) := by decide +kernel
theorem dX7_layCode_39 : decode cX7_layCode 39 = .ok (.isub, 1) := by decide +kernel
theorem dX7_layCode_40 : decode cX7_layCode 40 = .ok (.iload 4, 2) := by decide +kernel
theorem dX7_layCode_42 : decode cX7_layCode 42 = .ok (.if_icmp .ge 10, 3) := by decide +kernel
theorem dX7_layCode_45 : decode cX7_layCode 45 = .ok (.iload 5, 2) := by decide +kernel
theorem dX7_layCode_47 : decode cX7_layCode 47 = .ok (.iconst 1, 1) := by decide +kernel
theorem dX7_layCode_48 : decode cX7_layCode 48 = .ok (.isub, 1) := by decide +kernel
theorem dX7_layCode_49 : decode cX7_layCode 49 = .ok (.goto 5, 3) := by decide +kernel
theorem dX7_layCode_52 : decode cX7_layCode 52 = .ok (.iload 5, 2) := by decide +kernel
theorem dX7_layCode_54 : decode cX7_layCode 54 = .ok (.iastore, 1) := by decide +kernel
theorem dX7_layCode_55 : decode cX7_layCode 55 = .ok (.iinc 4 (-1), 3) := by decide +kernel
theorem dX7_layCode_58 : decode cX7_layCode 58 = .ok (.goto (-51), 3) := by decide +kernel
theorem dX7_layCode_61 : decode cX7_layCode 61 = .ok (.return_, 1) := by decide +kernel
theorem dX7_look_0 : decode cX7_look 0 = .ok (.iconst 0, 1) := by decide +kernel
theorem dX7_look_1 : decode cX7_look 1 = .ok (.istore_n 3, 1) := by decide +kernel
theorem dX7_look_2 : decode cX7_look 2 = .ok (.lconst 0, 1) := by decide +kernel
theorem dX7_look_3 : decode cX7_look 3 = .ok (.lstore 4, 2) := by decide +kernel
theorem dX7_look_5 : decode cX7_look 5 = .ok (.iconst 0, 1) := by decide +kernel
theorem dX7_look_6 : decode cX7_look 6 = .ok (.istore 6, 2) := by decide +kernel
theorem dX7_look_8 : decode cX7_look 8 = .ok (.iload 6, 2) := by decide +kernel
theorem dX7_look_10 : decode cX7_look 10 = .ok (.iload_n 1, 1) := by decide +kernel
theorem dX7_look_11 : decode cX7_look 11 = .ok (.if_icmp .ge 88, 3) := by decide +kernel
theorem dX7_look_14 : decode cX7_look 14 = .ok (.aload_n 0, 1) := by decide +kernel
theorem dX7_look_15 : decode cX7_look 15 = .ok (.getfield 88, 3) := by decide +kernel
theorem dX7_look_18 : decode cX7_look 18 = .ok (.iload 6, 2) := by decide +kernel
theorem dX7_look_20 : decode cX7_look 20 = .ok (.iaload, 1) := by decide +kernel
theorem dX7_look_21 : decode cX7_look 21 = .ok (.iload_n 2, 1) := by decide +kernel
theorem dX7_look_22 : decode cX7_look 22 = .ok (.if_icmp .le 4, 3) := by decide +kernel
theorem dX7_look_25 : decode cX7_look 25 = .ok (.return_, 1) := by decide +kernel
theorem dX7_look_26 : decode cX7_look 26 = .ok (.iload_n 3, 1) := by decide +kernel
theorem dX7_look_27 : decode cX7_look 27 = .ok (.aload_n 0, 1) := by decide +kernel
theorem dX7_look_28 : decode cX7_look 28 = .ok (.getfield 85, 3) := by decide +kernel
theorem dX7_look_31 : decode cX7_look 31 = .ok (.iload 6, 2) := by decide +kernel
theorem dX7_look_33 : decode cX7_look 33 = .ok (.iaload, 1) := by decide +kernel
theorem dX7_look_34 : decode cX7_look 34 = .ok (.iconst (-1), 1) := by decide +kernel
theorem dX7_look_35 : decode cX7_look 35 = .ok (.if_icmp .ne 16, 3) := by decide +kernel
theorem dX7_look_38 : decode cX7_look 38 = .ok (.aload_n 0, 1) := by decide +kernel
theorem dX7_look_39 : decode cX7_look 39 = .ok (.getfield 82, 3) := by decide +kernel
theorem dX7_look_42 : decode cX7_look 42 = .ok (.bipush 7, 2) := by decide +kernel
theorem dX7_look_44 : decode cX7_look 44 = .ok (.iload 6, 2) := by decide +kernel
theorem dX7_look_46 : decode cX7_look 46 = .ok (.imul, 1) := by decide +kernel
theorem dX7_look_47 : decode cX7_look 47 = .ok (.iaload, 1) := by decide +kernel
theorem dX7_look_48 : decode cX7_look 48 = .ok (.goto 21, 3) := by decide +kernel
theorem dX7_look_51 : decode cX7_look 51 = .ok (.aload_n 0, 1) := by decide +kernel
theorem dX7_look_52 : decode cX7_look 52 = .ok (.getfield 82, 3) := by decide +kernel
theorem dX7_look_55 : decode cX7_look 55 = .ok (.bipush 6, 2) := by decide +kernel
theorem dX7_look_57 : decode cX7_look 57 = .ok (.iload 6, 2) := by decide +kernel
theorem dX7_look_59 : decode cX7_look 59 = .ok (.imul, 1) := by decide +kernel
theorem dX7_look_60 : decode cX7_look 60 = .ok (.aload_n 0, 1) := by decide +kernel
theorem dX7_look_61 : decode cX7_look 61 = .ok (.getfield 85, 3) := by decide +kernel
theorem dX7_look_64 : decode cX7_look 64 = .ok (.iload 6, 2) := by decide +kernel
theorem dX7_look_66 : decode cX7_look 66 = .ok (.iaload, 1) := by decide +kernel
theorem dX7_look_67 : decode cX7_look 67 = .ok (.iadd, 1) := by decide +kernel
theorem dX7_look_68 : decode cX7_look 68 = .ok (.iaload, 1) := by decide +kernel
theorem dX7_look_69 : decode cX7_look 69 = .ok (.iadd, 1) := by decide +kernel
theorem dX7_look_70 : decode cX7_look 70 = .ok (.istore_n 3, 1) := by decide +kernel
theorem dX7_look_71 : decode cX7_look 71 = .ok (.lload 4, 2) := by decide +kernel
theorem dX7_look_73 : decode cX7_look 73 = .ok (.aload_n 0, 1) := by decide +kernel
theorem dX7_look_74 : decode cX7_look 74 = .ok (.getfield 25, 3) := by decide +kernel
theorem dX7_look_77 : decode cX7_look 77 = .ok (.iload 6, 2) := by decide +kernel
theorem dX7_look_79 : decode cX7_look 79 = .ok (.iaload, 1) := by decide +kernel
theorem dX7_look_80 : decode cX7_look 80 = .ok (.i2l, 1) := by decide +kernel
theorem dX7_look_81 : decode cX7_look 81 = .ok (.aload_n 0, 1) := by decide +kernel
theorem dX7_look_82 : decode cX7_look 82 = .ok (.getfield 88, 3) := by decide +kernel
theorem dX7_look_85 : decode cX7_look 85 = .ok (.iload 6, 2) := by decide +kernel
theorem dX7_look_87 : decode cX7_look 87 = .ok (.iaload, 1) := by decide +kernel
theorem dX7_look_88 : decode cX7_look 88 = .ok (.i2l, 1) := by decide +kernel
theorem dX7_look_89 : decode cX7_look 89 = .ok (.lmul, 1) := by decide +kernel
theorem dX7_look_90 : decode cX7_look 90 = .ok (.ladd, 1) := by decide +kernel
theorem dX7_look_91 : decode cX7_look 91 = .ok (.lstore 4, 2) := by decide +kernel
theorem dX7_look_93 : decode cX7_look 93 = .ok (.iinc 6 1, 3) := by decide +kernel
theorem dX7_look_96 : decode cX7_look 96 = .ok (.goto (-88), 3) := by decide +kernel
theorem dX7_look_99 : decode cX7_look 99 = .ok (.aload_n 0, 1) := by decide +kernel
theorem dX7_look_100 : decode cX7_look 100 = .ok (.getfield 263, 3) := by decide +kernel
theorem dX7_look_103 : decode cX7_look 103 = .ok (.ifCond .eq 29, 3) := by decide +kernel
theorem dX7_look_106 : decode cX7_look 106 = .ok (.iload_n 3, 1) := by decide +kernel
theorem dX7_look_107 : decode cX7_look 107 = .ok (.aload_n 0, 1) := by decide +kernel
theorem dX7_look_108 : decode cX7_look 108 = .ok (.getfield 276, 3) := by decide +kernel
theorem dX7_look_111 : decode cX7_look 111 = .ok (.if_icmp .lt 21, 3) := by decide +kernel
theorem dX7_look_114 : decode cX7_look 114 = .ok (.iload_n 3, 1) := by decide +kernel
theorem dX7_look_115 : decode cX7_look 115 = .ok (.aload_n 0, 1) := by decide +kernel
theorem dX7_look_116 : decode cX7_look 116 = .ok (.getfield 276, 3) := by decide +kernel
theorem dX7_look_119 : decode cX7_look 119 = .ok (.if_icmp .ne 72, 3) := by decide +kernel
theorem dX7_look_122 : decode cX7_look 122 = .ok (.lload 4, 2) := by decide +kernel
theorem dX7_look_124 : decode cX7_look 124 = .ok (.aload_n 0, 1) := by decide +kernel
theorem dX7_look_125 : decode cX7_look 125 = .ok (.getfield 279, 3) := by decide +kernel
theorem dX7_look_128 : decode cX7_look 128 = .ok (.lcmp, 1) := by decide +kernel
theorem dX7_look_129 : decode cX7_look 129 = .ok (.ifCond .ge 62, 3) := by decide +kernel
theorem dX7_look_132 : decode cX7_look 132 = .ok (.aload_n 0, 1) := by decide +kernel
theorem dX7_look_133 : decode cX7_look 133 = .ok (.iconst 1, 1) := by decide +kernel
theorem dX7_look_134 : decode cX7_look 134 = .ok (.putfield 263, 3) := by decide +kernel
theorem dX7_look_137 : decode cX7_look 137 = .ok (.aload_n 0, 1) := by decide +kernel
theorem dX7_look_138 : decode cX7_look 138 = .ok (.iload_n 3, 1) := by decide +kernel
theorem dX7_look_139 : decode cX7_look 139 = .ok (.putfield 276, 3) := by decide +kernel
theorem dX7_look_142 : decode cX7_look 142 = .ok (.aload_n 0, 1) := by decide +kernel
theorem dX7_look_143 : decode cX7_look 143 = .ok (.lload 4, 2) := by decide +kernel
theorem dX7_look_145 : decode cX7_look 145 = .ok (.putfield 279, 3) := by decide +kernel
theorem dX7_look_148 : decode cX7_look 148 = .ok (.iconst 0, 1) := by decide +kernel
theorem dX7_look_149 : decode cX7_look 149 = .ok (.istore 6, 2) := by decide +kernel
theorem dX7_look_151 : decode cX7_look 151 = .ok (.iload 6, 2) := by decide +kernel
theorem dX7_look_153 : decode cX7_look 153 = .ok (.iload_n 1, 1) := by decide +kernel
theorem dX7_look_154 : decode cX7_look 154 = .ok (.if_icmp .ge 37, 3) := by decide +kernel
theorem dX7_look_157 : decode cX7_look 157 = .ok (.aload_n 0, 1) := by decide +kernel
theorem dX7_look_158 : decode cX7_look 158 = .ok (.getfield 91, 3) := by decide +kernel
theorem dX7_look_161 : decode cX7_look 161 = .ok (.iload 6, 2) := by decide +kernel
theorem dX7_look_163 : decode cX7_look 163 = .ok (.aload_n 0, 1) := by decide +kernel
theorem dX7_look_164 : decode cX7_look 164 = .ok (.getfield 85, 3) := by decide +kernel
theorem dX7_look_167 : decode cX7_look 167 = .ok (.iload 6, 2) := by decide +kernel
theorem dX7_look_169 : decode cX7_look 169 = .ok (.iaload, 1) := by decide +kernel
theorem dX7_look_170 : decode cX7_look 170 = .ok (.iastore, 1) := by decide +kernel
theorem dX7_look_171 : decode cX7_look 171 = .ok (.aload_n 0, 1) := by decide +kernel
theorem dX7_look_172 : decode cX7_look 172 = .ok (.getfield 94, 3) := by decide +kernel
theorem dX7_look_175 : decode cX7_look 175 = .ok (.iload 6, 2) := by decide +kernel
theorem dX7_look_177 : decode cX7_look 177 = .ok (.aload_n 0, 1) := by decide +kernel
theorem dX7_look_178 : decode cX7_look 178 = .ok (.getfield 88, 3) := by decide +kernel
theorem dX7_look_181 : decode cX7_look 181 = .ok (.iload 6, 2) := by decide +kernel
theorem dX7_look_183 : decode cX7_look 183 = .ok (.iaload, 1) := by decide +kernel
theorem dX7_look_184 : decode cX7_look 184 = .ok (.iastore, 1) := by decide +kernel
theorem dX7_look_185 : decode cX7_look 185 = .ok (.iinc 6 1, 3) := by decide +kernel
theorem dX7_look_188 : decode cX7_look 188 = .ok (.goto (-37), 3) := by decide +kernel
theorem dX7_look_191 : decode cX7_look 191 = .ok (.return_, 1) := by decide +kernel
theorem dX7_isAsk_0 : decode cX7_isAsk 0 = .ok (.iload_n 1, 1) := by decide +kernel
theorem dX7_isAsk_1 : decode cX7_isAsk 1 = .ok (.iconst 1, 1) := by decide +kernel
theorem dX7_isAsk_2 : decode cX7_isAsk 2 = .ok (.aload_n 0, 1) := by decide +kernel
theorem dX7_isAsk_3 : decode cX7_isAsk 3 = .ok (.getfield 97, 3) := by decide +kernel
theorem dX7_isAsk_6 : decode cX7_isAsk 6 = .ok (.bipush 6, 2) := by decide +kernel
theorem dX7_isAsk_8 : decode cX7_isAsk 8 = .ok (.if_icmp .ge 10, 3) := by decide +kernel
theorem dX7_isAsk_11 : decode cX7_isAsk 11 = .ok (.aload_n 0, 1) := by decide +kernel
theorem dX7_isAsk_12 : decode cX7_isAsk 12 = .ok (.getfield 97, 3) := by decide +kernel
theorem dX7_isAsk_15 : decode cX7_isAsk 15 = .ok (.goto 5, 3) := by decide +kernel
theorem dX7_isAsk_18 : decode cX7_isAsk 18 = .ok (.bipush 6, 2) := by decide +kernel
theorem dX7_isAsk_20 : decode cX7_isAsk 20 = .ok (.invokestatic 101, 3) := by decide +kernel
theorem dX7_isAsk_23 : decode cX7_isAsk 23 = .ok (.ifCond .eq 18, 3) := by decide +kernel
theorem dX7_isAsk_26 : decode cX7_isAsk 26 = .ok (.iload_n 2, 1) := by decide +kernel
theorem dX7_isAsk_27 : decode cX7_isAsk 27 = .ok (.iconst 1, 1) := by decide +kernel
theorem dX7_isAsk_28 : decode cX7_isAsk 28 = .ok (.sipush 999, 3) := by decide +kernel
theorem dX7_isAsk_31 : decode cX7_isAsk 31 = .ok (.invokestatic 101, 3) := by decide +kernel
theorem dX7_isAsk_34 : decode cX7_isAsk 34 = .ok (.ifCond .eq 7, 3) := by decide +kernel
theorem dX7_isAsk_37 : decode cX7_isAsk 37 = .ok (.iconst 1, 1) := by decide +kernel
theorem dX7_isAsk_38 : decode cX7_isAsk 38 = .ok (.goto 4, 3) := by decide +kernel
theorem dX7_isAsk_41 : decode cX7_isAsk 41 = .ok (.iconst 0, 1) := by decide +kernel
theorem dX7_isAsk_42 : decode cX7_isAsk 42 = .ok (.ireturn, 1) := by decide +kernel
theorem dX7_store_0 : decode cX7_store 0 = .ok (.aload_n 0, 1) := by decide +kernel
theorem dX7_store_1 : decode cX7_store 1 = .ok (.iload_n 1, 1) := by decide +kernel
theorem dX7_store_2 : decode cX7_store 2 = .ok (.iload_n 2, 1) := by decide +kernel
theorem dX7_store_3 : decode cX7_store 3 = .ok (.invokevirtual 283, 3) := by decide +kernel
theorem dX7_store_6 : decode cX7_store 6 = .ok (.ifCond .eq 34, 3) := by decide +kernel
theorem dX7_store_9 : decode cX7_store 9 = .ok (.iload_n 3, 1) := by decide +kernel
theorem dX7_store_10 : decode cX7_store 10 = .ok (.iconst 0, 1) := by decide +kernel
theorem dX7_store_11 : decode cX7_store 11 = .ok (.iconst 1, 1) := by decide +kernel
theorem dX7_store_12 : decode cX7_store 12 = .ok (.invokestatic 101, 3) := by decide +kernel
theorem dX7_store_15 : decode cX7_store 15 = .ok (.ifCond .ne 28, 3) := by decide +kernel
theorem dX7_store_18 : decode cX7_store 18 = .ok (.iload_n 3, 1) := by decide +kernel
theorem dX7_store_19 : decode cX7_store 19 = .ok (.bipush 10, 2) := by decide +kernel
theorem dX7_store_21 : decode cX7_store 21 = .ok (.bipush 15, 2) := by decide +kernel
theorem dX7_store_23 : decode cX7_store 23 = .ok (.invokestatic 101, 3) := by decide +kernel
theorem dX7_store_26 : decode cX7_store 26 = .ok (.ifCond .ne 17, 3) := by decide +kernel
theorem dX7_store_29 : decode cX7_store 29 = .ok (.iload_n 3, 1) := by decide +kernel
theorem dX7_store_30 : decode cX7_store 30 = .ok (.bipush 20, 2) := by decide +kernel
theorem dX7_store_32 : decode cX7_store 32 = .ok (.bipush 25, 2) := by decide +kernel
theorem dX7_store_34 : decode cX7_store 34 = .ok (.invokestatic 101, 3) := by decide +kernel
theorem dX7_store_37 : decode cX7_store 37 = .ok (.ifCond .ne 6, 3) := by decide +kernel
theorem dX7_store_40 : decode cX7_store 40 = .ok (.bipush (-102), 2) := by decide +kernel
theorem dX7_store_42 : decode cX7_store 42 = .ok (.ireturn, 1) := by decide +kernel
theorem dX7_store_43 : decode cX7_store 43 = .ok (.aload_n 0, 1) := by decide +kernel
theorem dX7_store_44 : decode cX7_store 44 = .ok (.getfield 286, 3) := by decide +kernel
theorem dX7_store_47 : decode cX7_store 47 = .ok (.bipush 30, 2) := by decide +kernel
theorem dX7_store_49 : decode cX7_store 49 = .ok (.if_icmp .ne 6, 3) := by decide +kernel
theorem dX7_store_52 : decode cX7_store 52 = .ok (.bipush (-103), 2) := by decide +kernel
theorem dX7_store_54 : decode cX7_store 54 = .ok (.ireturn, 1) := by decide +kernel
theorem dX7_store_55 : decode cX7_store 55 = .ok (.aload_n 0, 1) := by decide +kernel
theorem dX7_store_56 : decode cX7_store 56 = .ok (.dup, 1) := by decide +kernel
theorem dX7_store_57 : decode cX7_store 57 = .ok (.getfield 286, 3) := by decide +kernel
theorem dX7_store_60 : decode cX7_store 60 = .ok (.iconst 1, 1) := by decide +kernel
theorem dX7_store_61 : decode cX7_store 61 = .ok (.iadd, 1) := by decide +kernel
theorem dX7_store_62 : decode cX7_store 62 = .ok (.putfield 286, 3) := by decide +kernel
theorem dX7_store_65 : decode cX7_store 65 = .ok (.aload_n 0, 1) := by decide +kernel
theorem dX7_store_66 : decode cX7_store 66 = .ok (.iload_n 1, 1) := by decide +kernel
theorem dX7_store_67 : decode cX7_store 67 = .ok (.iload_n 2, 1) := by decide +kernel
theorem dX7_store_68 : decode cX7_store 68 = .ok (.invokevirtual 289, 3) := by decide +kernel
theorem dX7_store_71 : decode cX7_store 71 = .ok (.iload_n 3, 1) := by decide +kernel
theorem dX7_store_72 : decode cX7_store 72 = .ok (.iconst 2, 1) := by decide +kernel
theorem dX7_store_73 : decode cX7_store 73 = .ok (.if_icmp .ge 31, 3) := by decide +kernel
theorem dX7_store_76 : decode cX7_store 76 = .ok (.aload_n 0, 1) := by decide +kernel
theorem dX7_store_77 : decode cX7_store 77 = .ok (.getfield 263, 3) := by decide +kernel
theorem dX7_store_80 : decode cX7_store 80 = .ok (.ifCond .ne 7, 3) := by decide +kernel
theorem dX7_store_83 : decode cX7_store 83 = .ok (.iconst (-1), 1) := by decide +kernel
theorem dX7_store_84 : decode cX7_store 84 = .ok (.goto 19, 3) := by decide +kernel
theorem dX7_store_87 : decode cX7_store 87 = .ok (.iload_n 3, 1) := by decide +kernel
theorem dX7_store_88 : decode cX7_store 88 = .ok (.ifCond .ne 10, 3) := by decide +kernel
theorem dX7_store_91 : decode cX7_store 91 = .ok (.aload_n 0, 1) := by decide +kernel
theorem dX7_store_92 : decode cX7_store 92 = .ok (.getfield 276, 3) := by decide +kernel
theorem dX7_store_95 : decode cX7_store 95 = .ok (.goto 8, 3) := by decide +kernel
theorem dX7_store_98 : decode cX7_store 98 = .ok (.aload_n 0, 1) := by decide +kernel
theorem dX7_store_99 : decode cX7_store 99 = .ok (.getfield 279, 3) := by decide +kernel
theorem dX7_store_102 : decode cX7_store 102 = .ok (.l2i, 1) := by decide +kernel
theorem dX7_store_103 : decode cX7_store 103 = .ok (.ireturn, 1) := by decide +kernel
theorem dX7_store_104 : decode cX7_store 104 = .ok (.iload_n 3, 1) := by decide +kernel
theorem dX7_store_105 : decode cX7_store 105 = .ok (.bipush 10, 2) := by decide +kernel
theorem dX7_store_107 : decode cX7_store 107 = .ok (.irem, 1) := by decide +kernel
theorem dX7_store_108 : decode cX7_store 108 = .ok (.istore 4, 2) := by decide +kernel
theorem dX7_store_110 : decode cX7_store 110 = .ok (.aload_n 0, 1) := by decide +kernel
theorem dX7_store_111 : decode cX7_store 111 = .ok (.getfield 263, 3) := by decide +kernel
theorem dX7_store_114 : decode cX7_store 114 = .ok (.ifCond .eq 9, 3) := by decide +kernel
theorem dX7_store_117 : decode cX7_store 117 = .ok (.iload 4, 2) := by decide +kernel
theorem dX7_store_119 : decode cX7_store 119 = .ok (.iload_n 1, 1) := by decide +kernel
theorem dX7_store_120 : decode cX7_store 120 = .ok (.if_icmp .lt 8, 3) := by decide +kernel
theorem dX7_store_123 : decode cX7_store 123 = .ok (.bipush (-2), 2) := by decide +kernel
theorem dX7_store_125 : decode cX7_store 125 = .ok (.goto 26, 3) := by decide +kernel
theorem dX7_store_128 : decode cX7_store 128 = .ok (.iload_n 3, 1) := by decide +kernel
theorem dX7_store_129 : decode cX7_store 129 = .ok (.bipush 20, 2) := by decide +kernel
theorem dX7_store_131 : decode cX7_store 131 = .ok (.if_icmp .ge 13, 3) := by decide +kernel
theorem dX7_store_134 : decode cX7_store 134 = .ok (.aload_n 0, 1) := by decide +kernel
theorem dX7_store_135 : decode cX7_store 135 = .ok (.getfield 91, 3) := by decide +kernel
theorem dX7_store_138 : decode cX7_store 138 = .ok (.iload 4, 2) := by decide +kernel
theorem dX7_store_140 : decode cX7_store 140 = .ok (.iaload, 1) := by decide +kernel
theorem dX7_store_141 : decode cX7_store 141 = .ok (.goto 10, 3) := by decide +kernel
theorem dX7_store_144 : decode cX7_store 144 = .ok (.aload_n 0, 1) := by decide +kernel
theorem dX7_store_145 : decode cX7_store 145 = .ok (.getfield 94, 3) := by decide +kernel
theorem dX7_store_148 : decode cX7_store 148 = .ok (.iload 4, 2) := by decide +kernel
theorem dX7_store_150 : decode cX7_store 150 = .ok (.iaload, 1) := by decide +kernel
theorem dX7_store_151 : decode cX7_store 151 = .ok (.ireturn, 1) := by decide +kernel
theorem dX7_lostBy_0 : decode cX7_lostBy 0 = .ok (.iconst 0, 1) := by decide +kernel
theorem dX7_lostBy_1 : decode cX7_lostBy 1 = .ok (.istore_n 3, 1) := by decide +kernel
theorem dX7_lostBy_2 : decode cX7_lostBy 2 = .ok (.iconst 0, 1) := by decide +kernel
theorem dX7_lostBy_3 : decode cX7_lostBy 3 = .ok (.istore 4, 2) := by decide +kernel
theorem dX7_lostBy_5 : decode cX7_lostBy 5 = .ok (.iload 4, 2) := by decide +kernel
theorem dX7_lostBy_7 : decode cX7_lostBy 7 = .ok (.iload_n 2, 1) := by decide +kernel
theorem dX7_lostBy_8 : decode cX7_lostBy 8 = .ok (.if_icmp .ge 71, 3) := by decide +kernel
theorem dX7_lostBy_11 : decode cX7_lostBy 11 = .ok (.iconst 0, 1) := by decide +kernel
theorem dX7_lostBy_12 : decode cX7_lostBy 12 = .ok (.istore 5, 2) := by decide +kernel
theorem dX7_lostBy_14 : decode cX7_lostBy 14 = .ok (.iload 4, 2) := by decide +kernel
theorem dX7_lostBy_16 : decode cX7_lostBy 16 = .ok (.istore 6, 2) := by decide +kernel
theorem dX7_lostBy_18 : decode cX7_lostBy 18 = .ok (.iload 6, 2) := by decide +kernel
theorem dX7_lostBy_20 : decode cX7_lostBy 20 = .ok (.iconst (-1), 1) := by decide +kernel
theorem dX7_lostBy_21 : decode cX7_lostBy 21 = .ok (.if_icmp .eq 33, 3) := by decide +kernel
theorem dX7_lostBy_24 : decode cX7_lostBy 24 = .ok (.iload 5, 2) := by decide +kernel
theorem dX7_lostBy_26 : decode cX7_lostBy 26 = .ok (.ifCond .ne 9, 3) := by decide +kernel
theorem dX7_lostBy_29 : decode cX7_lostBy 29 = .ok (.iload 6, 2) := by decide +kernel
theorem dX7_lostBy_31 : decode cX7_lostBy 31 = .ok (.iload_n 1, 1) := by decide +kernel
theorem dX7_lostBy_32 : decode cX7_lostBy 32 = .ok (.if_icmp .ne 7, 3) := by decide +kernel
theorem dX7_lostBy_35 : decode cX7_lostBy 35 = .ok (.iconst 1, 1) := by decide +kernel
theorem dX7_lostBy_36 : decode cX7_lostBy 36 = .ok (.goto 4, 3) := by decide +kernel
theorem dX7_lostBy_39 : decode cX7_lostBy 39 = .ok (.iconst 0, 1) := by decide +kernel
theorem dX7_lostBy_40 : decode cX7_lostBy 40 = .ok (.istore 5, 2) := by decide +kernel
theorem dX7_lostBy_42 : decode cX7_lostBy 42 = .ok (.aload_n 0, 1) := by decide +kernel
theorem dX7_lostBy_43 : decode cX7_lostBy 43 = .ok (.getfield 91, 3) := by decide +kernel
theorem dX7_lostBy_46 : decode cX7_lostBy 46 = .ok (.iload 6, 2) := by decide +kernel
theorem dX7_lostBy_48 : decode cX7_lostBy 48 = .ok (.iaload, 1) := by decide +kernel
theorem dX7_lostBy_49 : decode cX7_lostBy 49 = .ok (.istore 6, 2) := by decide +kernel
theorem dX7_lostBy_51 : decode cX7_lostBy 51 = .ok (.goto (-33), 3) := by decide +kernel
theorem dX7_lostBy_54 : decode cX7_lostBy 54 = .ok (.iload_n 3, 1) := by decide +kernel
theorem dX7_lostBy_55 : decode cX7_lostBy 55 = .ok (.iload 5, 2) := by decide +kernel
theorem dX7_lostBy_57 : decode cX7_lostBy 57 = .ok (.ifCond .eq 13, 3) := by decide +kernel
theorem dX7_lostBy_60 : decode cX7_lostBy 60 = .ok (.aload_n 0, 1) := by decide +kernel
theorem dX7_lostBy_61 : decode cX7_lostBy 61 = .ok (.getfield 25, 3) := by decide +kernel
theorem dX7_lostBy_64 : decode cX7_lostBy 64 = .ok (.iload 4, 2) := by decide +kernel
theorem dX7_lostBy_66 : decode cX7_lostBy 66 = .ok (.iaload, 1) := by decide +kernel
theorem dX7_lostBy_67 : decode cX7_lostBy 67 = .ok (.goto 4, 3) := by decide +kernel
theorem dX7_lostBy_70 : decode cX7_lostBy 70 = .ok (.iconst 0, 1) := by decide +kernel
theorem dX7_lostBy_71 : decode cX7_lostBy 71 = .ok (.iadd, 1) := by decide +kernel
theorem dX7_lostBy_72 : decode cX7_lostBy 72 = .ok (.istore_n 3, 1) := by decide +kernel
theorem dX7_lostBy_73 : decode cX7_lostBy 73 = .ok (.iinc 4 1, 3) := by decide +kernel
theorem dX7_lostBy_76 : decode cX7_lostBy 76 = .ok (.goto (-71), 3) := by decide +kernel
theorem dX7_lostBy_79 : decode cX7_lostBy 79 = .ok (.iload_n 3, 1) := by decide +kernel
theorem dX7_lostBy_80 : decode cX7_lostBy 80 = .ok (.ireturn, 1) := by decide +kernel
theorem dX7_worstPiece_0 : decode cX7_worstPiece 0 = .ok (.iconst (-1), 1) := by decide +kernel
theorem dX7_worstPiece_1 : decode cX7_worstPiece 1 = .ok (.istore_n 3, 1) := by decide +kernel
theorem dX7_worstPiece_2 : decode cX7_worstPiece 2 = .ok (.iconst 0, 1) := by decide +kernel
theorem dX7_worstPiece_3 : decode cX7_worstPiece 3 = .ok (.istore 4, 2) := by decide +kernel
theorem dX7_worstPiece_5 : decode cX7_worstPiece 5 = .ok (.iload 4, 2) := by decide +kernel
theorem dX7_worstPiece_7 : decode cX7_worstPiece 7 = .ok (.iload_n 1, 1) := by decide +kernel
theorem dX7_worstPiece_8 : decode cX7_worstPiece 8 = .ok (.if_icmp .ge 43, 3) := by decide +kernel
theorem dX7_worstPiece_11 : decode cX7_worstPiece 11 = .ok (.iload 4, 2) := by decide +kernel
theorem dX7_worstPiece_13 : decode cX7_worstPiece 13 = .ok (.iload_n 2, 1) := by decide +kernel
theorem dX7_worstPiece_14 : decode cX7_worstPiece 14 = .ok (.if_icmp .eq 29, 3) := by decide +kernel
theorem dX7_worstPiece_17 : decode cX7_worstPiece 17 = .ok (.iload_n 3, 1) := by decide +kernel
theorem dX7_worstPiece_18 : decode cX7_worstPiece 18 = .ok (.iconst (-1), 1) := by decide +kernel
theorem dX7_worstPiece_19 : decode cX7_worstPiece 19 = .ok (.if_icmp .eq 19, 3) := by decide +kernel
theorem dX7_worstPiece_22 : decode cX7_worstPiece 22 = .ok (.aload_n 0, 1) := by decide +kernel
theorem dX7_worstPiece_23 : decode cX7_worstPiece 23 = .ok (.iload 4, 2) := by decide +kernel
theorem dX7_worstPiece_25 : decode cX7_worstPiece 25 = .ok (.iload_n 1, 1) := by decide +kernel
theorem dX7_worstPiece_26 : decode cX7_worstPiece 26 = .ok (.invokevirtual 292, 3) := by decide +kernel
theorem dX7_worstPiece_29 : decode cX7_worstPiece 29 = .ok (.aload_n 0, 1) := by decide +kernel
theorem dX7_worstPiece_30 : decode cX7_worstPiece 30 = .ok (.iload_n 3, 1) := by decide +kernel
theorem dX7_worstPiece_31 : decode cX7_worstPiece 31 = .ok (.iload_n 1, 1) := by decide +kernel
theorem dX7_worstPiece_32 : decode cX7_worstPiece 32 = .ok (.invokevirtual 292, 3) := by decide +kernel
theorem dX7_worstPiece_35 : decode cX7_worstPiece 35 = .ok (.if_icmp .le 8, 3) := by decide +kernel
theorem dX7_worstPiece_38 : decode cX7_worstPiece 38 = .ok (.iload 4, 2) := by decide +kernel
theorem dX7_worstPiece_40 : decode cX7_worstPiece 40 = .ok (.goto 4, 3) := by decide +kernel
theorem dX7_worstPiece_43 : decode cX7_worstPiece 43 = .ok (.iload_n 3, 1) := by decide +kernel
theorem dX7_worstPiece_44 : decode cX7_worstPiece 44 = .ok (.istore_n 3, 1) := by decide +kernel
theorem dX7_worstPiece_45 : decode cX7_worstPiece 45 = .ok (.iinc 4 1, 3) := by decide +kernel
theorem dX7_worstPiece_48 : decode cX7_worstPiece 48 = .ok (.goto (-43), 3) := by decide +kernel
theorem dX7_worstPiece_51 : decode cX7_worstPiece 51 = .ok (.iload_n 3, 1) := by decide +kernel
theorem dX7_worstPiece_52 : decode cX7_worstPiece 52 = .ok (.ireturn, 1) := by decide +kernel
theorem dX7_worst_0 : decode cX7_worst 0 = .ok (.aload_n 0, 1) := by decide +kernel
theorem dX7_worst_1 : decode cX7_worst 1 = .ok (.iload_n 1, 1) := by decide +kernel
theorem dX7_worst_2 : decode cX7_worst 2 = .ok (.iload_n 2, 1) := by decide +kernel
theorem dX7_worst_3 : decode cX7_worst 3 = .ok (.invokevirtual 283, 3) := by decide +kernel
theorem dX7_worst_6 : decode cX7_worst 6 = .ok (.ifCond .eq 12, 3) := by decide +kernel
theorem dX7_worst_9 : decode cX7_worst 9 = .ok (.iload_n 3, 1) := by decide +kernel
theorem dX7_worst_10 : decode cX7_worst 10 = .ok (.iconst 0, 1) := by decide +kernel
theorem dX7_worst_11 : decode cX7_worst 11 = .ok (.iconst 1, 1) := by decide +kernel
theorem dX7_worst_12 : decode cX7_worst 12 = .ok (.invokestatic 101, 3) := by decide +kernel
theorem dX7_worst_15 : decode cX7_worst 15 = .ok (.ifCond .ne 6, 3) := by decide +kernel
theorem dX7_worst_18 : decode cX7_worst 18 = .ok (.bipush (-102), 2) := by decide +kernel
theorem dX7_worst_20 : decode cX7_worst 20 = .ok (.ireturn, 1) := by decide +kernel
theorem dX7_worst_21 : decode cX7_worst 21 = .ok (.aload_n 0, 1) := by decide +kernel
theorem dX7_worst_22 : decode cX7_worst 22 = .ok (.getfield 286, 3) := by decide +kernel
theorem dX7_worst_25 : decode cX7_worst 25 = .ok (.bipush 30, 2) := by decide +kernel
theorem dX7_worst_27 : decode cX7_worst 27 = .ok (.if_icmp .ne 6, 3) := by decide +kernel
theorem dX7_worst_30 : decode cX7_worst 30 = .ok (.bipush (-103), 2) := by decide +kernel
theorem dX7_worst_32 : decode cX7_worst 32 = .ok (.ireturn, 1) := by decide +kernel
theorem dX7_worst_33 : decode cX7_worst 33 = .ok (.aload_n 0, 1) := by decide +kernel
theorem dX7_worst_34 : decode cX7_worst 34 = .ok (.dup, 1) := by decide +kernel
theorem dX7_worst_35 : decode cX7_worst 35 = .ok (.getfield 286, 3) := by decide +kernel
theorem dX7_worst_38 : decode cX7_worst 38 = .ok (.iconst 1, 1) := by decide +kernel
theorem dX7_worst_39 : decode cX7_worst 39 = .ok (.iadd, 1) := by decide +kernel
theorem dX7_worst_40 : decode cX7_worst 40 = .ok (.putfield 286, 3) := by decide +kernel
theorem dX7_worst_43 : decode cX7_worst 43 = .ok (.aload_n 0, 1) := by decide +kernel
theorem dX7_worst_44 : decode cX7_worst 44 = .ok (.iload_n 1, 1) := by decide +kernel
theorem dX7_worst_45 : decode cX7_worst 45 = .ok (.iload_n 2, 1) := by decide +kernel
theorem dX7_worst_46 : decode cX7_worst 46 = .ok (.invokevirtual 289, 3) := by decide +kernel
theorem dX7_worst_49 : decode cX7_worst 49 = .ok (.aload_n 0, 1) := by decide +kernel
theorem dX7_worst_50 : decode cX7_worst 50 = .ok (.getfield 263, 3) := by decide +kernel
theorem dX7_worst_53 : decode cX7_worst 53 = .ok (.ifCond .ne 5, 3) := by decide +kernel
theorem dX7_worst_56 : decode cX7_worst 56 = .ok (.iconst (-1), 1) := by decide +kernel
theorem dX7_worst_57 : decode cX7_worst 57 = .ok (.ireturn, 1) := by decide +kernel
theorem dX7_worst_58 : decode cX7_worst 58 = .ok (.aload_n 0, 1) := by decide +kernel
theorem dX7_worst_59 : decode cX7_worst 59 = .ok (.iload_n 1, 1) := by decide +kernel
theorem dX7_worst_60 : decode cX7_worst 60 = .ok (.iconst (-1), 1) := by decide +kernel
theorem dX7_worst_61 : decode cX7_worst 61 = .ok (.invokevirtual 295, 3) := by decide +kernel
theorem dX7_worst_64 : decode cX7_worst 64 = .ok (.istore 4, 2) := by decide +kernel
theorem dX7_worst_66 : decode cX7_worst 66 = .ok (.iload_n 3, 1) := by decide +kernel
theorem dX7_worst_67 : decode cX7_worst 67 = .ok (.ifCond .ne 8, 3) := by decide +kernel
theorem dX7_worst_70 : decode cX7_worst 70 = .ok (.iload 4, 2) := by decide +kernel
theorem dX7_worst_72 : decode cX7_worst 72 = .ok (.goto 10, 3) := by decide +kernel
theorem dX7_worst_75 : decode cX7_worst 75 = .ok (.aload_n 0, 1) := by decide +kernel
theorem dX7_worst_76 : decode cX7_worst 76 = .ok (.iload 4, 2) := by decide +kernel
theorem dX7_worst_78 : decode cX7_worst 78 = .ok (.iload_n 1, 1) := by decide +kernel
theorem dX7_worst_79 : decode cX7_worst 79 = .ok (.invokevirtual 292, 3) := by decide +kernel
theorem dX7_worst_82 : decode cX7_worst 82 = .ok (.ireturn, 1) := by decide +kernel
theorem dX7_pieceRoom_0 : decode cX7_pieceRoom 0 = .ok (.aload_n 0, 1) := by decide +kernel
theorem dX7_pieceRoom_1 : decode cX7_pieceRoom 1 = .ok (.getfield 91, 3) := by decide +kernel
theorem dX7_pieceRoom_4 : decode cX7_pieceRoom 4 = .ok (.iload_n 1, 1) := by decide +kernel
theorem dX7_pieceRoom_5 : decode cX7_pieceRoom 5 = .ok (.iaload, 1) := by decide +kernel
theorem dX7_pieceRoom_6 : decode cX7_pieceRoom 6 = .ok (.iconst (-1), 1) := by decide +kernel
theorem dX7_pieceRoom_7 : decode cX7_pieceRoom 7 = .ok (.if_icmp .ne 15, 3) := by decide +kernel
theorem dX7_pieceRoom_10 : decode cX7_pieceRoom 10 = .ok (.aload_n 0, 1) := by decide +kernel
theorem dX7_pieceRoom_11 : decode cX7_pieceRoom 11 = .ok (.getfield 82, 3) := by decide +kernel
theorem dX7_pieceRoom_14 : decode cX7_pieceRoom 14 = .ok (.bipush 7, 2) := by decide +kernel
theorem dX7_pieceRoom_16 : decode cX7_pieceRoom 16 = .ok (.iload_n 1, 1) := by decide +kernel
theorem dX7_pieceRoom_17 : decode cX7_pieceRoom 17 = .ok (.imul, 1) := by decide +kernel
theorem dX7_pieceRoom_18 : decode cX7_pieceRoom 18 = .ok (.iaload, 1) := by decide +kernel
theorem dX7_pieceRoom_19 : decode cX7_pieceRoom 19 = .ok (.goto 19, 3) := by decide +kernel
theorem dX7_pieceRoom_22 : decode cX7_pieceRoom 22 = .ok (.aload_n 0, 1) := by decide +kernel
theorem dX7_pieceRoom_23 : decode cX7_pieceRoom 23 = .ok (.getfield 82, 3) := by decide +kernel
theorem dX7_pieceRoom_26 : decode cX7_pieceRoom 26 = .ok (.bipush 6, 2) := by decide +kernel
theorem dX7_pieceRoom_28 : decode cX7_pieceRoom 28 = .ok (.iload_n 1, 1) := by decide +kernel
theorem dX7_pieceRoom_29 : decode cX7_pieceRoom 29 = .ok (.imul, 1) := by decide +kernel
theorem dX7_pieceRoom_30 : decode cX7_pieceRoom 30 = .ok (.aload_n 0, 1) := by decide +kernel
theorem dX7_pieceRoom_31 : decode cX7_pieceRoom 31 = .ok (.getfield 91, 3) := by decide +kernel
theorem dX7_pieceRoom_34 : decode cX7_pieceRoom 34 = .ok (.iload_n 1, 1) := by decide +kernel
theorem dX7_pieceRoom_35 : decode cX7_pieceRoom 35 = .ok (.iaload, 1) := by decide +kernel
theorem dX7_pieceRoom_36 : decode cX7_pieceRoom 36 = .ok (.iadd, 1) := by decide +kernel
theorem dX7_pieceRoom_37 : decode cX7_pieceRoom 37 = .ok (.iaload, 1) := by decide +kernel
theorem dX7_pieceRoom_38 : decode cX7_pieceRoom 38 = .ok (.ireturn, 1) := by decide +kernel
theorem dX7_worstThen_0 : decode cX7_worstThen 0 = .ok (.aload_n 0, 1) := by decide +kernel
theorem dX7_worstThen_1 : decode cX7_worstThen 1 = .ok (.iload_n 1, 1) := by decide +kernel
theorem dX7_worstThen_2 : decode cX7_worstThen 2 = .ok (.iload_n 2, 1) := by decide +kernel
theorem dX7_worstThen_3 : decode cX7_worstThen 3 = .ok (.invokevirtual 295, 3) := by decide +kernel
theorem dX7_worstThen_6 : decode cX7_worstThen 6 = .ok (.istore_n 3, 1) := by decide +kernel
theorem dX7_worstThen_7 : decode cX7_worstThen 7 = .ok (.iload_n 3, 1) := by decide +kernel
theorem dX7_worstThen_8 : decode cX7_worstThen 8 = .ok (.iconst (-1), 1) := by decide +kernel
theorem dX7_worstThen_9 : decode cX7_worstThen 9 = .ok (.if_icmp .ne 7, 3) := by decide +kernel
theorem dX7_worstThen_12 : decode cX7_worstThen 12 = .ok (.iconst 0, 1) := by decide +kernel
theorem dX7_worstThen_13 : decode cX7_worstThen 13 = .ok (.goto 9, 3) := by decide +kernel
theorem dX7_worstThen_16 : decode cX7_worstThen 16 = .ok (.aload_n 0, 1) := by decide +kernel
theorem dX7_worstThen_17 : decode cX7_worstThen 17 = .ok (.iload_n 3, 1) := by decide +kernel
theorem dX7_worstThen_18 : decode cX7_worstThen 18 = .ok (.iload_n 1, 1) := by decide +kernel
theorem dX7_worstThen_19 : decode cX7_worstThen 19 = .ok (.invokevirtual 292, 3) := by decide +kernel
theorem dX7_worstThen_22 : decode cX7_worstThen 22 = .ok (.ireturn, 1) := by decide +kernel
theorem dX7_saved_0 : decode cX7_saved 0 = .ok (.aload_n 0, 1) := by decide +kernel
theorem dX7_saved_1 : decode cX7_saved 1 = .ok (.iload_n 1, 1) := by decide +kernel
theorem dX7_saved_2 : decode cX7_saved 2 = .ok (.iload_n 2, 1) := by decide +kernel
theorem dX7_saved_3 : decode cX7_saved 3 = .ok (.invokevirtual 283, 3) := by decide +kernel
theorem dX7_saved_6 : decode cX7_saved 6 = .ok (.ifCond .eq 23, 3) := by decide +kernel
theorem dX7_saved_9 : decode cX7_saved 9 = .ok (.iload_n 3, 1) := by decide +kernel
theorem dX7_saved_10 : decode cX7_saved 10 = .ok (.iconst 0, 1) := by decide +kernel
theorem dX7_saved_11 : decode cX7_saved 11 = .ok (.bipush 99, 2) := by decide +kernel
theorem dX7_saved_13 : decode cX7_saved 13 = .ok (.invokestatic 101, 3) := by decide +kernel
theorem dX7_saved_16 : decode cX7_saved 16 = .ok (.ifCond .eq 13, 3) := by decide +kernel
theorem dX7_saved_19 : decode cX7_saved 19 = .ok (.iload 4, 2) := by decide +kernel
theorem dX7_saved_21 : decode cX7_saved 21 = .ok (.iconst 0, 1) := by decide +kernel
theorem dX7_saved_22 : decode cX7_saved 22 = .ok (.iconst 1, 1) := by decide +kernel
theorem dX7_saved_23 : decode cX7_saved 23 = .ok (.invokestatic 101, 3) := by decide +kernel
theorem dX7_saved_26 : decode cX7_saved 26 = .ok (.ifCond .ne 6, 3) := by decide +kernel
theorem dX7_saved_29 : decode cX7_saved 29 = .ok (.bipush (-102), 2) := by decide +kernel
theorem dX7_saved_31 : decode cX7_saved 31 = .ok (.ireturn, 1) := by decide +kernel
theorem dX7_saved_32 : decode cX7_saved 32 = .ok (.aload_n 0, 1) := by decide +kernel
theorem dX7_saved_33 : decode cX7_saved 33 = .ok (.getfield 286, 3) := by decide +kernel
theorem dX7_saved_36 : decode cX7_saved 36 = .ok (.bipush 30, 2) := by decide +kernel
theorem dX7_saved_38 : decode cX7_saved 38 = .ok (.if_icmp .ne 6, 3) := by decide +kernel
theorem dX7_saved_41 : decode cX7_saved 41 = .ok (.bipush (-103), 2) := by decide +kernel
theorem dX7_saved_43 : decode cX7_saved 43 = .ok (.ireturn, 1) := by decide +kernel
theorem dX7_saved_44 : decode cX7_saved 44 = .ok (.aload_n 0, 1) := by decide +kernel
theorem dX7_saved_45 : decode cX7_saved 45 = .ok (.dup, 1) := by decide +kernel
theorem dX7_saved_46 : decode cX7_saved 46 = .ok (.getfield 286, 3) := by decide +kernel
theorem dX7_saved_49 : decode cX7_saved 49 = .ok (.iconst 1, 1) := by decide +kernel
theorem dX7_saved_50 : decode cX7_saved 50 = .ok (.iadd, 1) := by decide +kernel
theorem dX7_saved_51 : decode cX7_saved 51 = .ok (.putfield 286, 3) := by decide +kernel
theorem dX7_saved_54 : decode cX7_saved 54 = .ok (.aload_n 0, 1) := by decide +kernel
theorem dX7_saved_55 : decode cX7_saved 55 = .ok (.iload_n 1, 1) := by decide +kernel
theorem dX7_saved_56 : decode cX7_saved 56 = .ok (.iload_n 2, 1) := by decide +kernel
theorem dX7_saved_57 : decode cX7_saved 57 = .ok (.invokevirtual 289, 3) := by decide +kernel
theorem dX7_saved_60 : decode cX7_saved 60 = .ok (.iconst (-1), 1) := by decide +kernel
theorem dX7_saved_61 : decode cX7_saved 61 = .ok (.istore 5, 2) := by decide +kernel
theorem dX7_saved_63 : decode cX7_saved 63 = .ok (.iconst 0, 1) := by decide +kernel
theorem dX7_saved_64 : decode cX7_saved 64 = .ok (.istore 6, 2) := by decide +kernel
theorem dX7_saved_66 : decode cX7_saved 66 = .ok (.iload 6, 2) := by decide +kernel
theorem dX7_saved_68 : decode cX7_saved 68 = .ok (.iload_n 1, 1) := by decide +kernel
theorem dX7_saved_69 : decode cX7_saved 69 = .ok (.if_icmp .ge 87, 3) := by decide +kernel
theorem dX7_saved_72 : decode cX7_saved 72 = .ok (.aload_n 0, 1) := by decide +kernel
theorem dX7_saved_73 : decode cX7_saved 73 = .ok (.getfield 263, 3) := by decide +kernel
theorem dX7_saved_76 : decode cX7_saved 76 = .ok (.ifCond .eq 80, 3) := by decide +kernel
theorem dX7_saved_79 : decode cX7_saved 79 = .ok (.aload_n 0, 1) := by decide +kernel
theorem dX7_saved_80 : decode cX7_saved 80 = .ok (.iload 6, 2) := by decide +kernel
theorem dX7_saved_82 : decode cX7_saved 82 = .ok (.invokevirtual 298, 3) := by decide +kernel
theorem dX7_saved_85 : decode cX7_saved 85 = .ok (.iload_n 3, 1) := by decide +kernel
theorem dX7_saved_86 : decode cX7_saved 86 = .ok (.if_icmp .gt 64, 3) := by decide +kernel
theorem dX7_saved_89 : decode cX7_saved 89 = .ok (.iload 5, 2) := by decide +kernel
theorem dX7_saved_91 : decode cX7_saved 91 = .ok (.iconst (-1), 1) := by decide +kernel
theorem dX7_saved_92 : decode cX7_saved 92 = .ok (.if_icmp .ne 7, 3) := by decide +kernel
theorem dX7_saved_95 : decode cX7_saved 95 = .ok (.iconst (-1), 1) := by decide +kernel
theorem dX7_saved_96 : decode cX7_saved 96 = .ok (.goto 18, 3) := by decide +kernel
theorem dX7_saved_99 : decode cX7_saved 99 = .ok (.aload_n 0, 1) := by decide +kernel
theorem dX7_saved_100 : decode cX7_saved 100 = .ok (.iload_n 1, 1) := by decide +kernel
theorem dX7_saved_101 : decode cX7_saved 101 = .ok (.iload 6, 2) := by decide +kernel
theorem dX7_saved_103 : decode cX7_saved 103 = .ok (.invokevirtual 301, 3) := by decide +kernel
theorem dX7_saved_106 : decode cX7_saved 106 = .ok (.aload_n 0, 1) := by decide +kernel
theorem dX7_saved_107 : decode cX7_saved 107 = .ok (.iload_n 1, 1) := by decide +kernel
theorem dX7_saved_108 : decode cX7_saved 108 = .ok (.iload 5, 2) := by decide +kernel
theorem dX7_saved_110 : decode cX7_saved 110 = .ok (.invokevirtual 301, 3) := by decide +kernel
theorem dX7_saved_113 : decode cX7_saved 113 = .ok (.isub, 1) := by decide +kernel
theorem dX7_saved_114 : decode cX7_saved 114 = .ok (.istore 7, 2) := by decide +kernel
theorem dX7_saved_116 : decode cX7_saved 116 = .ok (.iload 7, 2) := by decide +kernel
theorem dX7_saved_118 : decode cX7_saved 118 = .ok (.ifCond .lt 23, 3) := by decide +kernel
theorem dX7_saved_121 : decode cX7_saved 121 = .ok (.iload 7, 2) := by decide +kernel
theorem dX7_saved_123 : decode cX7_saved 123 = .ok (.ifCond .ne 23, 3) := by decide +kernel
theorem dX7_saved_126 : decode cX7_saved 126 = .ok (.aload_n 0, 1) := by decide +kernel
theorem dX7_saved_127 : decode cX7_saved 127 = .ok (.iload 6, 2) := by decide +kernel
theorem dX7_saved_129 : decode cX7_saved 129 = .ok (.invokevirtual 298, 3) := by decide +kernel
theorem dX7_saved_132 : decode cX7_saved 132 = .ok (.aload_n 0, 1) := by decide +kernel
theorem dX7_saved_133 : decode cX7_saved 133 = .ok (.iload 5, 2) := by decide +kernel
theorem dX7_saved_135 : decode cX7_saved 135 = .ok (.invokevirtual 298, 3) := by decide +kernel
theorem dX7_saved_138 : decode cX7_saved 138 = .ok (.if_icmp .ge 8, 3) := by decide +kernel
theorem dX7_saved_141 : decode cX7_saved 141 = .ok (.iload 6, 2) := by decide +kernel
theorem dX7_saved_143 : decode cX7_saved 143 = .ok (.goto 5, 3) := by decide +kernel
theorem dX7_saved_146 : decode cX7_saved 146 = .ok (.iload 5, 2) := by decide +kernel
theorem dX7_saved_148 : decode cX7_saved 148 = .ok (.istore 5, 2) := by decide +kernel
theorem dX7_saved_150 : decode cX7_saved 150 = .ok (.iinc 6 1, 3) := by decide +kernel
theorem dX7_saved_153 : decode cX7_saved 153 = .ok (.goto (-87), 3) := by decide +kernel
theorem dX7_saved_156 : decode cX7_saved 156 = .ok (.iload 5, 2) := by decide +kernel
theorem dX7_saved_158 : decode cX7_saved 158 = .ok (.iconst (-1), 1) := by decide +kernel
theorem dX7_saved_159 : decode cX7_saved 159 = .ok (.if_icmp .ne 7, 3) := by decide +kernel
theorem dX7_saved_162 : decode cX7_saved 162 = .ok (.iconst (-1), 1) := by decide +kernel
theorem dX7_saved_163 : decode cX7_saved 163 = .ok (.goto 20, 3) := by decide +kernel
theorem dX7_saved_166 : decode cX7_saved 166 = .ok (.iload 4, 2) := by decide +kernel
theorem dX7_saved_168 : decode cX7_saved 168 = .ok (.ifCond .ne 8, 3) := by decide +kernel
theorem dX7_saved_171 : decode cX7_saved 171 = .ok (.iload 5, 2) := by decide +kernel
theorem dX7_saved_173 : decode cX7_saved 173 = .ok (.goto 10, 3) := by decide +kernel
theorem dX7_saved_176 : decode cX7_saved 176 = .ok (.aload_n 0, 1) := by decide +kernel
theorem dX7_saved_177 : decode cX7_saved 177 = .ok (.iload_n 1, 1) := by decide +kernel
theorem dX7_saved_178 : decode cX7_saved 178 = .ok (.iload 5, 2) := by decide +kernel
theorem dX7_saved_180 : decode cX7_saved 180 = .ok (.invokevirtual 301, 3) := by decide +kernel
theorem dX7_saved_183 : decode cX7_saved 183 = .ok (.ireturn, 1) := by decide +kernel
theorem dX7_howMany_0 : decode cX7_howMany 0 = .ok (.iload_n 1, 1) := by decide +kernel
theorem dX7_howMany_1 : decode cX7_howMany 1 = .ok (.ifCond .ne 10, 3) := by decide +kernel
theorem dX7_howMany_4 : decode cX7_howMany 4 = .ok (.aload_n 0, 1) := by decide +kernel
theorem dX7_howMany_5 : decode cX7_howMany 5 = .ok (.getfield 97, 3) := by decide +kernel
theorem dX7_howMany_8 : decode cX7_howMany 8 = .ok (.goto 41, 3) := by decide +kernel
theorem dX7_howMany_11 : decode cX7_howMany 11 = .ok (.iload_n 1, 1) := by decide +kernel
theorem dX7_howMany_12 : decode cX7_howMany 12 = .ok (.iconst 1, 1) := by decide +kernel
theorem dX7_howMany_13 : decode cX7_howMany 13 = .ok (.if_icmp .ne 10, 3) := by decide +kernel
theorem dX7_howMany_16 : decode cX7_howMany 16 = .ok (.aload_n 0, 1) := by decide +kernel
theorem dX7_howMany_17 : decode cX7_howMany 17 = .ok (.getfield 108, 3) := by decide +kernel
theorem dX7_howMany_20 : decode cX7_howMany 20 = .ok (.goto 29, 3) := by decide +kernel
theorem dX7_howMany_23 : decode cX7_howMany 23 = .ok (.iload_n 1, 1) := by decide +kernel
theorem dX7_howMany_24 : decode cX7_howMany 24 = .ok (.iconst 2, 1) := by decide +kernel
theorem dX7_howMany_25 : decode cX7_howMany 25 = .ok (.if_icmp .ne 10, 3) := by decide +kernel
theorem dX7_howMany_28 : decode cX7_howMany 28 = .ok (.aload_n 0, 1) := by decide +kernel
theorem dX7_howMany_29 : decode cX7_howMany 29 = .ok (.getfield 105, 3) := by decide +kernel
theorem dX7_howMany_32 : decode cX7_howMany 32 = .ok (.goto 17, 3) := by decide +kernel
theorem dX7_howMany_35 : decode cX7_howMany 35 = .ok (.iload_n 1, 1) := by decide +kernel
theorem dX7_howMany_36 : decode cX7_howMany 36 = .ok (.iconst 3, 1) := by decide +kernel
theorem dX7_howMany_37 : decode cX7_howMany 37 = .ok (.if_icmp .ne 10, 3) := by decide +kernel
theorem dX7_howMany_40 : decode cX7_howMany 40 = .ok (.aload_n 0, 1) := by decide +kernel
theorem dX7_howMany_41 : decode cX7_howMany 41 = .ok (.getfield 286, 3) := by decide +kernel
theorem dX7_howMany_44 : decode cX7_howMany 44 = .ok (.goto 5, 3) := by decide +kernel
theorem dX7_howMany_47 : decode cX7_howMany 47 = .ok (.bipush (-102), 2) := by decide +kernel
theorem dX7_howMany_49 : decode cX7_howMany 49 = .ok (.ireturn, 1) := by decide +kernel
theorem dX7_count_0 : decode cX7_count 0 = .ok (.aload_n 0, 1) := by decide +kernel
theorem dX7_count_1 : decode cX7_count 1 = .ok (.iload_n 1, 1) := by decide +kernel
theorem dX7_count_2 : decode cX7_count 2 = .ok (.invokevirtual 304, 3) := by decide +kernel
theorem dX7_count_5 : decode cX7_count 5 = .ok (.ireturn, 1) := by decide +kernel
theorem dX7_mix_0 : decode cX7_mix 0 = .ok (.aload_n 0, 1) := by decide +kernel
theorem dX7_mix_1 : decode cX7_mix 1 = .ok (.ldc2_w 307, 3) := by decide +kernel
theorem dX7_mix_4 : decode cX7_mix 4 = .ok (.aload_n 0, 1) := by decide +kernel
theorem dX7_mix_5 : decode cX7_mix 5 = .ok (.getfield 309, 3) := by decide +kernel
theorem dX7_mix_8 : decode cX7_mix 8 = .ok (.lmul, 1) := by decide +kernel
theorem dX7_mix_9 : decode cX7_mix 9 = .ok (.lload_n 1, 1) := by decide +kernel
theorem dX7_mix_10 : decode cX7_mix 10 = .ok (.ladd, 1) := by decide +kernel
theorem dX7_mix_11 : decode cX7_mix 11 = .ok (.putfield 309, 3) := by decide +kernel
theorem dX7_mix_14 : decode cX7_mix 14 = .ok (.return_, 1) := by decide +kernel
theorem dX7_mixPatch_0 : decode cX7_mixPatch 0 = .ok (.iconst 0, 1) := by decide +kernel
theorem dX7_mixPatch_1 : decode cX7_mixPatch 1 = .ok (.istore_n 2, 1) := by decide +kernel
theorem dX7_mixPatch_2 : decode cX7_mixPatch 2 = .ok (.iload_n 2, 1) := by decide +kernel
theorem dX7_mixPatch_3 : decode cX7_mixPatch 3 = .ok (.iconst 4, 1) := by decide +kernel
theorem dX7_mixPatch_4 : decode cX7_mixPatch 4 = .ok (.if_icmp .ge 20, 3) := by decide +kernel
theorem dX7_mixPatch_7 : decode cX7_mixPatch 7 = .ok (.aload_n 0, 1) := by decide +kernel
theorem dX7_mixPatch_8 : decode cX7_mixPatch 8 = .ok (.aload_n 0, 1) := by decide +kernel
theorem dX7_mixPatch_9 : decode cX7_mixPatch 9 = .ok (.iload_n 1, 1) := by decide +kernel
theorem dX7_mixPatch_10 : decode cX7_mixPatch 10 = .ok (.iload_n 2, 1) := by decide +kernel
theorem dX7_mixPatch_11 : decode cX7_mixPatch 11 = .ok (.invokevirtual 165, 3) := by decide +kernel
theorem dX7_mixPatch_14 : decode cX7_mixPatch 14 = .ok (.i2l, 1) := by decide +kernel
theorem dX7_mixPatch_15 : decode cX7_mixPatch 15 = .ok (.invokevirtual 312, 3) := by decide +kernel
theorem dX7_mixPatch_18 : decode cX7_mixPatch 18 = .ok (.iinc 2 1, 3) := by decide +kernel
theorem dX7_mixPatch_21 : decode cX7_mixPatch 21 = .ok (.goto (-19), 3) := by decide +kernel
theorem dX7_mixPatch_24 : decode cX7_mixPatch 24 = .ok (.iconst 0, 1) := by decide +kernel
theorem dX7_mixPatch_25 : decode cX7_mixPatch 25 = .ok (.istore_n 2, 1) := by decide +kernel
theorem dX7_mixPatch_26 : decode cX7_mixPatch 26 = .ok (.iload_n 2, 1) := by decide +kernel
theorem dX7_mixPatch_27 : decode cX7_mixPatch 27 = .ok (.aload_n 0, 1) := by decide +kernel
theorem dX7_mixPatch_28 : decode cX7_mixPatch 28 = .ok (.getfield 28, 3) := by decide +kernel
theorem dX7_mixPatch_31 : decode cX7_mixPatch 31 = .ok (.iload_n 1, 1) := by decide +kernel
theorem dX7_mixPatch_32 : decode cX7_mixPatch 32 = .ok (.iaload, 1) := by decide +kernel
theorem dX7_mixPatch_33 : decode cX7_mixPatch 33 = .ok (.if_icmp .ge 116, 3) := by decide +kernel
theorem dX7_mixPatch_36 : decode cX7_mixPatch 36 = .ok (.iconst 0, 1) := by decide +kernel
theorem dX7_mixPatch_37 : decode cX7_mixPatch 37 = .ok (.istore_n 3, 1) := by decide +kernel
theorem dX7_mixPatch_38 : decode cX7_mixPatch 38 = .ok (.iload_n 3, 1) := by decide +kernel
theorem dX7_mixPatch_39 : decode cX7_mixPatch 39 = .ok (.iconst 3, 1) := by decide +kernel
theorem dX7_mixPatch_40 : decode cX7_mixPatch 40 = .ok (.if_icmp .ge 21, 3) := by decide +kernel
theorem dX7_mixPatch_43 : decode cX7_mixPatch 43 = .ok (.aload_n 0, 1) := by decide +kernel
theorem dX7_mixPatch_44 : decode cX7_mixPatch 44 = .ok (.aload_n 0, 1) := by decide +kernel
theorem dX7_mixPatch_45 : decode cX7_mixPatch 45 = .ok (.iload_n 1, 1) := by decide +kernel
theorem dX7_mixPatch_46 : decode cX7_mixPatch 46 = .ok (.iload_n 2, 1) := by decide +kernel
theorem dX7_mixPatch_47 : decode cX7_mixPatch 47 = .ok (.iload_n 3, 1) := by decide +kernel
theorem dX7_mixPatch_48 : decode cX7_mixPatch 48 = .ok (.invokevirtual 174, 3) := by decide +kernel
theorem dX7_mixPatch_51 : decode cX7_mixPatch 51 = .ok (.i2l, 1) := by decide +kernel
theorem dX7_mixPatch_52 : decode cX7_mixPatch 52 = .ok (.invokevirtual 312, 3) := by decide +kernel
theorem dX7_mixPatch_55 : decode cX7_mixPatch 55 = .ok (.iinc 3 1, 3) := by decide +kernel
theorem dX7_mixPatch_58 : decode cX7_mixPatch 58 = .ok (.goto (-20), 3) := by decide +kernel
theorem dX7_mixPatch_61 : decode cX7_mixPatch 61 = .ok (.iconst 0, 1) := by decide +kernel
theorem dX7_mixPatch_62 : decode cX7_mixPatch 62 = .ok (.istore_n 3, 1) := by decide +kernel
theorem dX7_mixPatch_63 : decode cX7_mixPatch 63 = .ok (.iload_n 3, 1) := by decide +kernel
theorem dX7_mixPatch_64 : decode cX7_mixPatch 64 = .ok (.aload_n 0, 1) := by decide +kernel
theorem dX7_mixPatch_65 : decode cX7_mixPatch 65 = .ok (.getfield 34, 3) := by decide +kernel
theorem dX7_mixPatch_68 : decode cX7_mixPatch 68 = .ok (.bipush 10, 2) := by decide +kernel
theorem dX7_mixPatch_70 : decode cX7_mixPatch 70 = .ok (.iload_n 1, 1) := by decide +kernel
theorem dX7_mixPatch_71 : decode cX7_mixPatch 71 = .ok (.imul, 1) := by decide +kernel
theorem dX7_mixPatch_72 : decode cX7_mixPatch 72 = .ok (.iload_n 2, 1) := by decide +kernel
theorem dX7_mixPatch_73 : decode cX7_mixPatch 73 = .ok (.iadd, 1) := by decide +kernel
theorem dX7_mixPatch_74 : decode cX7_mixPatch 74 = .ok (.iaload, 1) := by decide +kernel
theorem dX7_mixPatch_75 : decode cX7_mixPatch 75 = .ok (.if_icmp .ge 27, 3) := by decide +kernel
theorem dX7_mixPatch_78 : decode cX7_mixPatch 78 = .ok (.aload_n 0, 1) := by decide +kernel
theorem dX7_mixPatch_79 : decode cX7_mixPatch 79 = .ok (.aload_n 0, 1) := by decide +kernel
theorem dX7_mixPatch_80 : decode cX7_mixPatch 80 = .ok (.getfield 40, 3) := by decide +kernel
theorem dX7_mixPatch_83 : decode cX7_mixPatch 83 = .ok (.aload_n 0, 1) := by decide +kernel
theorem dX7_mixPatch_84 : decode cX7_mixPatch 84 = .ok (.iload_n 1, 1) := by decide +kernel
theorem dX7_mixPatch_85 : decode cX7_mixPatch 85 = .ok (.iload_n 2, 1) := by decide +kernel
theorem dX7_mixPatch_86 : decode cX7_mixPatch 86 = .ok (.invokevirtual 168, 3) := by decide +kernel
theorem dX7_mixPatch_89 : decode cX7_mixPatch 89 = .ok (.iload_n 3, 1) := by decide +kernel
theorem dX7_mixPatch_90 : decode cX7_mixPatch 90 = .ok (.iadd, 1) := by decide +kernel
theorem dX7_mixPatch_91 : decode cX7_mixPatch 91 = .ok (.iaload, 1) := by decide +kernel
theorem dX7_mixPatch_92 : decode cX7_mixPatch 92 = .ok (.i2l, 1) := by decide +kernel
theorem dX7_mixPatch_93 : decode cX7_mixPatch 93 = .ok (.invokevirtual 312, 3) := by decide +kernel
theorem dX7_mixPatch_96 : decode cX7_mixPatch 96 = .ok (.iinc 3 1, 3) := by decide +kernel
theorem dX7_mixPatch_99 : decode cX7_mixPatch 99 = .ok (.goto (-36), 3) := by decide +kernel
theorem dX7_mixPatch_102 : decode cX7_mixPatch 102 = .ok (.iconst 0, 1) := by decide +kernel
theorem dX7_mixPatch_103 : decode cX7_mixPatch 103 = .ok (.istore_n 3, 1) := by decide +kernel
theorem dX7_mixPatch_104 : decode cX7_mixPatch 104 = .ok (.iload_n 3, 1) := by decide +kernel
theorem dX7_mixPatch_105 : decode cX7_mixPatch 105 = .ok (.aload_n 0, 1) := by decide +kernel
theorem dX7_mixPatch_106 : decode cX7_mixPatch 106 = .ok (.getfield 37, 3) := by decide +kernel
theorem dX7_mixPatch_109 : decode cX7_mixPatch 109 = .ok (.bipush 10, 2) := by decide +kernel
theorem dX7_mixPatch_111 : decode cX7_mixPatch 111 = .ok (.iload_n 1, 1) := by decide +kernel
theorem dX7_mixPatch_112 : decode cX7_mixPatch 112 = .ok (.imul, 1) := by decide +kernel
theorem dX7_mixPatch_113 : decode cX7_mixPatch 113 = .ok (.iload_n 2, 1) := by decide +kernel
theorem dX7_mixPatch_114 : decode cX7_mixPatch 114 = .ok (.iadd, 1) := by decide +kernel
theorem dX7_mixPatch_115 : decode cX7_mixPatch 115 = .ok (.iaload, 1) := by decide +kernel
theorem dX7_mixPatch_116 : decode cX7_mixPatch 116 = .ok (.if_icmp .ge 27, 3) := by decide +kernel
theorem dX7_mixPatch_119 : decode cX7_mixPatch 119 = .ok (.aload_n 0, 1) := by decide +kernel
theorem dX7_mixPatch_120 : decode cX7_mixPatch 120 = .ok (.aload_n 0, 1) := by decide +kernel
theorem dX7_mixPatch_121 : decode cX7_mixPatch 121 = .ok (.getfield 43, 3) := by decide +kernel
theorem dX7_mixPatch_124 : decode cX7_mixPatch 124 = .ok (.aload_n 0, 1) := by decide +kernel
theorem dX7_mixPatch_125 : decode cX7_mixPatch 125 = .ok (.iload_n 1, 1) := by decide +kernel
theorem dX7_mixPatch_126 : decode cX7_mixPatch 126 = .ok (.iload_n 2, 1) := by decide +kernel
theorem dX7_mixPatch_127 : decode cX7_mixPatch 127 = .ok (.invokevirtual 171, 3) := by decide +kernel
theorem dX7_mixPatch_130 : decode cX7_mixPatch 130 = .ok (.iload_n 3, 1) := by decide +kernel
theorem dX7_mixPatch_131 : decode cX7_mixPatch 131 = .ok (.iadd, 1) := by decide +kernel
theorem dX7_mixPatch_132 : decode cX7_mixPatch 132 = .ok (.iaload, 1) := by decide +kernel
theorem dX7_mixPatch_133 : decode cX7_mixPatch 133 = .ok (.i2l, 1) := by decide +kernel
theorem dX7_mixPatch_134 : decode cX7_mixPatch 134 = .ok (.invokevirtual 312, 3) := by decide +kernel
theorem dX7_mixPatch_137 : decode cX7_mixPatch 137 = .ok (.iinc 3 1, 3) := by decide +kernel
theorem dX7_mixPatch_140 : decode cX7_mixPatch 140 = .ok (.goto (-36), 3) := by decide +kernel
theorem dX7_mixPatch_143 : decode cX7_mixPatch 143 = .ok (.iinc 2 1, 3) := by decide +kernel
theorem dX7_mixPatch_146 : decode cX7_mixPatch 146 = .ok (.goto (-120), 3) := by decide +kernel
theorem dX7_mixPatch_149 : decode cX7_mixPatch 149 = .ok (.return_, 1) := by decide +kernel
theorem dX7_digest_0 : decode cX7_digest 0 = .ok (.aload_n 0, 1) := by decide +kernel
theorem dX7_digest_1 : decode cX7_digest 1 = .ok (.ldc2_w 316, 3) := by decide +kernel
theorem dX7_digest_4 : decode cX7_digest 4 = .ok (.putfield 309, 3) := by decide +kernel
theorem dX7_digest_7 : decode cX7_digest 7 = .ok (.iconst 0, 1) := by decide +kernel
theorem dX7_digest_8 : decode cX7_digest 8 = .ok (.istore_n 1, 1) := by decide +kernel
theorem dX7_digest_9 : decode cX7_digest 9 = .ok (.iload_n 1, 1) := by decide +kernel
theorem dX7_digest_10 : decode cX7_digest 10 = .ok (.aload_n 0, 1) := by decide +kernel
theorem dX7_digest_11 : decode cX7_digest 11 = .ok (.getfield 108, 3) := by decide +kernel
theorem dX7_digest_14 : decode cX7_digest 14 = .ok (.if_icmp .ge 20, 3) := by decide +kernel
theorem dX7_digest_17 : decode cX7_digest 17 = .ok (.aload_n 0, 1) := by decide +kernel
theorem dX7_digest_18 : decode cX7_digest 18 = .ok (.aload_n 0, 1) := by decide +kernel
theorem dX7_digest_19 : decode cX7_digest 19 = .ok (.getfield 7, 3) := by decide +kernel
theorem dX7_digest_22 : decode cX7_digest 22 = .ok (.iload_n 1, 1) := by decide +kernel
theorem dX7_digest_23 : decode cX7_digest 23 = .ok (.iaload, 1) := by decide +kernel
theorem dX7_digest_24 : decode cX7_digest 24 = .ok (.i2l, 1) := by decide +kernel
theorem dX7_digest_25 : decode cX7_digest 25 = .ok (.invokevirtual 312, 3) := by decide +kernel
theorem dX7_digest_28 : decode cX7_digest 28 = .ok (.iinc 1 1, 3) := by decide +kernel
theorem dX7_digest_31 : decode cX7_digest 31 = .ok (.goto (-22), 3) := by decide +kernel
theorem dX7_digest_34 : decode cX7_digest 34 = .ok (.iconst 0, 1) := by decide +kernel
theorem dX7_digest_35 : decode cX7_digest 35 = .ok (.istore_n 1, 1) := by decide +kernel
theorem dX7_digest_36 : decode cX7_digest 36 = .ok (.iload_n 1, 1) := by decide +kernel
theorem dX7_digest_37 : decode cX7_digest 37 = .ok (.aload_n 0, 1) := by decide +kernel
theorem dX7_digest_38 : decode cX7_digest 38 = .ok (.getfield 97, 3) := by decide +kernel
theorem dX7_digest_41 : decode cX7_digest 41 = .ok (.if_icmp .ge 67, 3) := by decide +kernel
theorem dX7_digest_44 : decode cX7_digest 44 = .ok (.iconst 0, 1) := by decide +kernel
theorem dX7_digest_45 : decode cX7_digest 45 = .ok (.istore_n 2, 1) := by decide +kernel
theorem dX7_digest_46 : decode cX7_digest 46 = .ok (.iload_n 2, 1) := by decide +kernel
theorem dX7_digest_47 : decode cX7_digest 47 = .ok (.iconst 5, 1) := by decide +kernel
theorem dX7_digest_48 : decode cX7_digest 48 = .ok (.if_icmp .ge 20, 3) := by decide +kernel
theorem dX7_digest_51 : decode cX7_digest 51 = .ok (.aload_n 0, 1) := by decide +kernel
theorem dX7_digest_52 : decode cX7_digest 52 = .ok (.aload_n 0, 1) := by decide +kernel
theorem dX7_digest_53 : decode cX7_digest 53 = .ok (.iload_n 1, 1) := by decide +kernel
theorem dX7_digest_54 : decode cX7_digest 54 = .ok (.iload_n 2, 1) := by decide +kernel
theorem dX7_digest_55 : decode cX7_digest 55 = .ok (.invokevirtual 115, 3) := by decide +kernel
theorem dX7_digest_58 : decode cX7_digest 58 = .ok (.i2l, 1) := by decide +kernel
theorem dX7_digest_59 : decode cX7_digest 59 = .ok (.invokevirtual 312, 3) := by decide +kernel
theorem dX7_digest_62 : decode cX7_digest 62 = .ok (.iinc 2 1, 3) := by decide +kernel
theorem dX7_digest_65 : decode cX7_digest 65 = .ok (.goto (-19), 3) := by decide +kernel
theorem dX7_digest_68 : decode cX7_digest 68 = .ok (.iconst 0, 1) := by decide +kernel
theorem dX7_digest_69 : decode cX7_digest 69 = .ok (.istore_n 2, 1) := by decide +kernel
theorem dX7_digest_70 : decode cX7_digest 70 = .ok (.iload_n 2, 1) := by decide +kernel
theorem dX7_digest_71 : decode cX7_digest 71 = .ok (.aload_n 0, 1) := by decide +kernel
theorem dX7_digest_72 : decode cX7_digest 72 = .ok (.getfield 13, 3) := by decide +kernel
theorem dX7_digest_75 : decode cX7_digest 75 = .ok (.iload_n 1, 1) := by decide +kernel
theorem dX7_digest_76 : decode cX7_digest 76 = .ok (.iaload, 1) := by decide +kernel
theorem dX7_digest_77 : decode cX7_digest 77 = .ok (.if_icmp .ge 25, 3) := by decide +kernel
theorem dX7_digest_80 : decode cX7_digest 80 = .ok (.aload_n 0, 1) := by decide +kernel
theorem dX7_digest_81 : decode cX7_digest 81 = .ok (.aload_n 0, 1) := by decide +kernel
theorem dX7_digest_82 : decode cX7_digest 82 = .ok (.getfield 16, 3) := by decide +kernel
theorem dX7_digest_85 : decode cX7_digest 85 = .ok (.bipush 14, 2) := by decide +kernel
theorem dX7_digest_87 : decode cX7_digest 87 = .ok (.iload_n 1, 1) := by decide +kernel
theorem dX7_digest_88 : decode cX7_digest 88 = .ok (.imul, 1) := by decide +kernel
theorem dX7_digest_89 : decode cX7_digest 89 = .ok (.iload_n 2, 1) := by decide +kernel
theorem dX7_digest_90 : decode cX7_digest 90 = .ok (.iadd, 1) := by decide +kernel
theorem dX7_digest_91 : decode cX7_digest 91 = .ok (.iaload, 1) := by decide +kernel
theorem dX7_digest_92 : decode cX7_digest 92 = .ok (.i2l, 1) := by decide +kernel
theorem dX7_digest_93 : decode cX7_digest 93 = .ok (.invokevirtual 312, 3) := by decide +kernel
theorem dX7_digest_96 : decode cX7_digest 96 = .ok (.iinc 2 1, 3) := by decide +kernel
theorem dX7_digest_99 : decode cX7_digest 99 = .ok (.goto (-29), 3) := by decide +kernel
theorem dX7_digest_102 : decode cX7_digest 102 = .ok (.iinc 1 1, 3) := by decide +kernel
theorem dX7_digest_105 : decode cX7_digest 105 = .ok (.goto (-69), 3) := by decide +kernel
theorem dX7_digest_108 : decode cX7_digest 108 = .ok (.iconst 0, 1) := by decide +kernel
theorem dX7_digest_109 : decode cX7_digest 109 = .ok (.istore_n 1, 1) := by decide +kernel
theorem dX7_digest_110 : decode cX7_digest 110 = .ok (.iload_n 1, 1) := by decide +kernel
theorem dX7_digest_111 : decode cX7_digest 111 = .ok (.aload_n 0, 1) := by decide +kernel
theorem dX7_digest_112 : decode cX7_digest 112 = .ok (.getfield 105, 3) := by decide +kernel
theorem dX7_digest_115 : decode cX7_digest 115 = .ok (.if_icmp .ge 14, 3) := by decide +kernel
theorem dX7_digest_118 : decode cX7_digest 118 = .ok (.aload_n 0, 1) := by decide +kernel
theorem dX7_digest_119 : decode cX7_digest 119 = .ok (.iload_n 1, 1) := by decide +kernel
theorem dX7_digest_120 : decode cX7_digest 120 = .ok (.invokevirtual 318, 3) := by decide +kernel
theorem dX7_digest_123 : decode cX7_digest 123 = .ok (.iinc 1 1, 3) := by decide +kernel
theorem dX7_digest_126 : decode cX7_digest 126 = .ok (.goto (-16), 3) := by decide +kernel
theorem dX7_digest_129 : decode cX7_digest 129 = .ok (.iconst 0, 1) := by decide +kernel
theorem dX7_digest_130 : decode cX7_digest 130 = .ok (.istore_n 1, 1) := by decide +kernel
theorem dX7_digest_131 : decode cX7_digest 131 = .ok (.iload_n 1, 1) := by decide +kernel
theorem dX7_digest_132 : decode cX7_digest 132 = .ok (.aload_n 0, 1) := by decide +kernel
theorem dX7_digest_133 : decode cX7_digest 133 = .ok (.getfield 97, 3) := by decide +kernel
theorem dX7_digest_136 : decode cX7_digest 136 = .ok (.if_icmp .ge 45, 3) := by decide +kernel
theorem dX7_digest_139 : decode cX7_digest 139 = .ok (.iconst 0, 1) := by decide +kernel
theorem dX7_digest_140 : decode cX7_digest 140 = .ok (.istore_n 2, 1) := by decide +kernel
theorem dX7_digest_141 : decode cX7_digest 141 = .ok (.iload_n 2, 1) := by decide +kernel
theorem dX7_digest_142 : decode cX7_digest 142 = .ok (.aload_n 0, 1) := by decide +kernel
theorem dX7_digest_143 : decode cX7_digest 143 = .ok (.getfield 97, 3) := by decide +kernel
theorem dX7_digest_146 : decode cX7_digest 146 = .ok (.if_icmp .ge 29, 3) := by decide +kernel
theorem dX7_digest_149 : decode cX7_digest 149 = .ok (.iload_n 1, 1) := by decide +kernel
theorem dX7_digest_150 : decode cX7_digest 150 = .ok (.iload_n 2, 1) := by decide +kernel
theorem dX7_digest_151 : decode cX7_digest 151 = .ok (.if_icmp .eq 18, 3) := by decide +kernel
theorem dX7_digest_154 : decode cX7_digest 154 = .ok (.aload_n 0, 1) := by decide +kernel
theorem dX7_digest_155 : decode cX7_digest 155 = .ok (.iload_n 1, 1) := by decide +kernel
theorem dX7_digest_156 : decode cX7_digest 156 = .ok (.iload_n 2, 1) := by decide +kernel
theorem dX7_digest_157 : decode cX7_digest 157 = .ok (.invokevirtual 144, 3) := by decide +kernel
theorem dX7_digest_160 : decode cX7_digest 160 = .ok (.aload_n 0, 1) := by decide +kernel
theorem dX7_digest_161 : decode cX7_digest 161 = .ok (.aload_n 0, 1) := by decide +kernel
theorem dX7_digest_162 : decode cX7_digest 162 = .ok (.invokevirtual 148, 3) := by decide +kernel
theorem dX7_digest_165 : decode cX7_digest 165 = .ok (.i2l, 1) := by decide +kernel
theorem dX7_digest_166 : decode cX7_digest 166 = .ok (.invokevirtual 312, 3) := by decide +kernel
theorem dX7_digest_169 : decode cX7_digest 169 = .ok (.iinc 2 1, 3) := by decide +kernel
theorem dX7_digest_172 : decode cX7_digest 172 = .ok (.goto (-31), 3) := by decide +kernel
theorem dX7_digest_175 : decode cX7_digest 175 = .ok (.iinc 1 1, 3) := by decide +kernel
theorem dX7_digest_178 : decode cX7_digest 178 = .ok (.goto (-47), 3) := by decide +kernel
theorem dX7_digest_181 : decode cX7_digest 181 = .ok (.iconst 0, 1) := by decide +kernel
theorem dX7_digest_182 : decode cX7_digest 182 = .ok (.istore_n 1, 1) := by decide +kernel
theorem dX7_digest_183 : decode cX7_digest 183 = .ok (.iload_n 1, 1) := by decide +kernel
theorem dX7_digest_184 : decode cX7_digest 184 = .ok (.iconst 4, 1) := by decide +kernel
theorem dX7_digest_185 : decode cX7_digest 185 = .ok (.if_icmp .ge 19, 3) := by decide +kernel
theorem dX7_digest_188 : decode cX7_digest 188 = .ok (.aload_n 0, 1) := by decide +kernel
theorem dX7_digest_189 : decode cX7_digest 189 = .ok (.aload_n 0, 1) := by decide +kernel
theorem dX7_digest_190 : decode cX7_digest 190 = .ok (.iload_n 1, 1) := by decide +kernel
theorem dX7_digest_191 : decode cX7_digest 191 = .ok (.invokevirtual 304, 3) := by decide +kernel
theorem dX7_digest_194 : decode cX7_digest 194 = .ok (.i2l, 1) := by decide +kernel
theorem dX7_digest_195 : decode cX7_digest 195 = .ok (.invokevirtual 312, 3) := by decide +kernel
theorem dX7_digest_198 : decode cX7_digest 198 = .ok (.iinc 1 1, 3) := by decide +kernel
theorem dX7_digest_201 : decode cX7_digest 201 = .ok (.goto (-18), 3) := by decide +kernel
theorem dX7_digest_204 : decode cX7_digest 204 = .ok (.aload_n 0, 1) := by decide +kernel
theorem dX7_digest_205 : decode cX7_digest 205 = .ok (.getfield 309, 3) := by decide +kernel
theorem dX7_digest_208 : decode cX7_digest 208 = .ok (.lreturn, 1) := by decide +kernel
