theorem dX9_after_117 : decode cX9_after 117 = .ok (.getfield 46, 3) := by decide +kernel
theorem dX9_after_120 : decode cX9_after 120 = .ok (.iconst 2, 1) := by decide +kernel
theorem dX9_after_121 : decode cX9_after 121 = .ok (.iload_n 2, 1) := by decide +kernel
theorem dX9_after_122 : decode cX9_after 122 = .ok (.imul, 1) := by decide +kernel
theorem dX9_after_123 : decode cX9_after 123 = .ok (.iaload, 1) := by decide +kernel
theorem dX9_after_124 : decode cX9_after 124 = .ok (.imul, 1) := by decide +kernel
theorem dX9_after_125 : decode cX9_after 125 = .ok (.iastore, 1) := by decide +kernel
theorem dX9_after_126 : decode cX9_after 126 = .ok (.goto 19, 3) := by decide +kernel
theorem dX9_after_129 : decode cX9_after 129 = .ok (.aload_n 0, 1) := by decide +kernel
theorem dX9_after_130 : decode cX9_after 130 = .ok (.getfield 18, 3) := by decide +kernel
theorem dX9_after_133 : decode cX9_after 133 = .ok (.iload_n 3, 1) := by decide +kernel
theorem dX9_after_134 : decode cX9_after 134 = .ok (.aload_n 0, 1) := by decide +kernel
theorem dX9_after_135 : decode cX9_after 135 = .ok (.getfield 46, 3) := by decide +kernel
theorem dX9_after_138 : decode cX9_after 138 = .ok (.iconst 2, 1) := by decide +kernel
theorem dX9_after_139 : decode cX9_after 139 = .ok (.iload_n 2, 1) := by decide +kernel
theorem dX9_after_140 : decode cX9_after 140 = .ok (.imul, 1) := by decide +kernel
theorem dX9_after_141 : decode cX9_after 141 = .ok (.iaload, 1) := by decide +kernel
theorem dX9_after_142 : decode cX9_after 142 = .ok (.iconst 2, 1) := by decide +kernel
theorem dX9_after_143 : decode cX9_after 143 = .ok (.isub, 1) := by decide +kernel
theorem dX9_after_144 : decode cX9_after 144 = .ok (.iastore, 1) := by decide +kernel
theorem dX9_after_145 : decode cX9_after 145 = .ok (.iinc 2 1, 3) := by decide +kernel
theorem dX9_after_148 : decode cX9_after 148 = .ok (.goto (-70), 3) := by decide +kernel
theorem dX9_after_151 : decode cX9_after 151 = .ok (.iload_n 1, 1) := by decide +kernel
theorem dX9_after_152 : decode cX9_after 152 = .ok (.ifCond .ne 11, 3) := by decide +kernel
theorem dX9_after_155 : decode cX9_after 155 = .ok (.aload_n 0, 1) := by decide +kernel
theorem dX9_after_156 : decode cX9_after 156 = .ok (.iconst 1, 1) := by decide +kernel
theorem dX9_after_157 : decode cX9_after 157 = .ok (.invokevirtual 259, 3) := by decide +kernel
theorem dX9_after_160 : decode cX9_after 160 = .ok (.goto 40, 3) := by decide +kernel
theorem dX9_after_163 : decode cX9_after 163 = .ok (.iload_n 1, 1) := by decide +kernel
theorem dX9_after_164 : decode cX9_after 164 = .ok (.iconst 1, 1) := by decide +kernel
theorem dX9_after_165 : decode cX9_after 165 = .ok (.if_icmp .ne 10, 3) := by decide +kernel
theorem dX9_after_168 : decode cX9_after 168 = .ok (.aload_n 0, 1) := by decide +kernel
theorem dX9_after_169 : decode cX9_after 169 = .ok (.invokevirtual 256, 3) := by decide +kernel
theorem dX9_after_172 : decode cX9_after 172 = .ok (.goto 28, 3) := by decide +kernel
theorem dX9_after_175 : decode cX9_after 175 = .ok (.iload_n 1, 1) := by decide +kernel
theorem dX9_after_176 : decode cX9_after 176 = .ok (.iconst 2, 1) := by decide +kernel
theorem dX9_after_177 : decode cX9_after 177 = .ok (.if_icmp .ne 19, 3) := by decide +kernel
theorem dX9_after_180 : decode cX9_after 180 = .ok (.aload_n 0, 1) := by decide +kernel
theorem dX9_after_181 : decode cX9_after 181 = .ok (.iconst 0, 1) := by decide +kernel
theorem dX9_after_182 : decode cX9_after 182 = .ok (.invokevirtual 199, 3) := by decide +kernel
theorem dX9_after_185 : decode cX9_after 185 = .ok (.ifCond .eq 7, 3) := by decide +kernel
theorem dX9_after_188 : decode cX9_after 188 = .ok (.iconst 1, 1) := by decide +kernel
theorem dX9_after_189 : decode cX9_after 189 = .ok (.goto 11, 3) := by decide +kernel
theorem dX9_after_192 : decode cX9_after 192 = .ok (.iconst 0, 1) := by decide +kernel
theorem dX9_after_193 : decode cX9_after 193 = .ok (.goto 7, 3) := by decide +kernel
theorem dX9_after_196 : decode cX9_after 196 = .ok (.aload_n 0, 1) := by decide +kernel
theorem dX9_after_197 : decode cX9_after 197 = .ok (.invokevirtual 262, 3) := by decide +kernel
theorem dX9_after_200 : decode cX9_after 200 = .ok (.istore_n 2, 1) := by decide +kernel
theorem dX9_after_201 : decode cX9_after 201 = .ok (.iconst 0, 1) := by decide +kernel
theorem dX9_after_202 : decode cX9_after 202 = .ok (.istore_n 3, 1) := by decide +kernel
theorem dX9_after_203 : decode cX9_after 203 = .ok (.iload_n 3, 1) := by decide +kernel
theorem dX9_after_204 : decode cX9_after 204 = .ok (.bipush 6, 2) := by decide +kernel
theorem dX9_after_206 : decode cX9_after 206 = .ok (.if_icmp .ge 21, 3) := by decide +kernel
theorem dX9_after_209 : decode cX9_after 209 = .ok (.aload_n 0, 1) := by decide +kernel
theorem dX9_after_210 : decode cX9_after 210 = .ok (.getfield 9, 3) := by decide +kernel
theorem dX9_after_213 : decode cX9_after 213 = .ok (.iload_n 3, 1) := by decide +kernel
theorem dX9_after_214 : decode cX9_after 214 = .ok (.aload_n 0, 1) := by decide +kernel
theorem dX9_after_215 : decode cX9_after 215 = .ok (.getfield 75, 3) := by decide +kernel
theorem dX9_after_218 : decode cX9_after 218 = .ok (.iload_n 3, 1) := by decide +kernel
theorem dX9_after_219 : decode cX9_after 219 = .ok (.iaload, 1) := by decide +kernel
theorem dX9_after_220 : decode cX9_after 220 = .ok (.iastore, 1) := by decide +kernel
theorem dX9_after_221 : decode cX9_after 221 = .ok (.iinc 3 1, 3) := by decide +kernel
theorem dX9_after_224 : decode cX9_after 224 = .ok (.goto (-21), 3) := by decide +kernel
theorem dX9_after_227 : decode cX9_after 227 = .ok (.iconst 0, 1) := by decide +kernel
theorem dX9_after_228 : decode cX9_after 228 = .ok (.istore_n 3, 1) := by decide +kernel
theorem dX9_after_229 : decode cX9_after 229 = .ok (.iload_n 3, 1) := by decide +kernel
theorem dX9_after_230 : decode cX9_after 230 = .ok (.bipush 8, 2) := by decide +kernel
theorem dX9_after_232 : decode cX9_after 232 = .ok (.if_icmp .ge 24, 3) := by decide +kernel
theorem dX9_after_235 : decode cX9_after 235 = .ok (.aload_n 0, 1) := by decide +kernel
theorem dX9_after_236 : decode cX9_after 236 = .ok (.getfield 18, 3) := by decide +kernel
theorem dX9_after_239 : decode cX9_after 239 = .ok (.iload_n 3, 1) := by decide +kernel
theorem dX9_after_240 : decode cX9_after 240 = .ok (.aload_n 0, 1) := by decide +kernel
theorem dX9_after_241 : decode cX9_after 241 = .ok (.getfield 75, 3) := by decide +kernel
theorem dX9_after_244 : decode cX9_after 244 = .ok (.bipush 6, 2) := by decide +kernel
theorem dX9_after_246 : decode cX9_after 246 = .ok (.iload_n 3, 1) := by decide +kernel
theorem dX9_after_247 : decode cX9_after 247 = .ok (.iadd, 1) := by decide +kernel
theorem dX9_after_248 : decode cX9_after 248 = .ok (.iaload, 1) := by decide +kernel
theorem dX9_after_249 : decode cX9_after 249 = .ok (.iastore, 1) := by decide +kernel
theorem dX9_after_250 : decode cX9_after 250 = .ok (.iinc 3 1, 3) := by decide +kernel
theorem dX9_after_253 : decode cX9_after 253 = .ok (.goto (-24), 3) := by decide +kernel
theorem dX9_after_256 : decode cX9_after 256 = .ok (.iload_n 2, 1) := by decide +kernel
theorem dX9_after_257 : decode cX9_after 257 = .ok (.ireturn, 1) := by decide +kernel
theorem dX9_book_0 : decode cX9_book 0 = .ok (.iload_n 1, 1) := by decide +kernel
theorem dX9_book_1 : decode cX9_book 1 = .ok (.iconst (-1), 1) := by decide +kernel
theorem dX9_book_2 : decode cX9_book 2 = .ok (.if_icmp .ne 10, 3) := by decide +kernel
theorem dX9_book_5 : decode cX9_book 5 = .ok (.aload_n 0, 1) := by decide +kernel
theorem dX9_book_6 : decode cX9_book 6 = .ok (.iconst 0, 1) := by decide +kernel
theorem dX9_book_7 : decode cX9_book 7 = .ok (.putfield 278, 3) := by decide +kernel
theorem dX9_book_10 : decode cX9_book 10 = .ok (.iconst 0, 1) := by decide +kernel
theorem dX9_book_11 : decode cX9_book 11 = .ok (.ireturn, 1) := by decide +kernel
theorem dX9_book_12 : decode cX9_book 12 = .ok (.aload_n 0, 1) := by decide +kernel
theorem dX9_book_13 : decode cX9_book 13 = .ok (.iload_n 1, 1) := by decide +kernel
theorem dX9_book_14 : decode cX9_book 14 = .ok (.invokevirtual 118, 3) := by decide +kernel
theorem dX9_book_17 : decode cX9_book 17 = .ok (.ifCond .ne 6, 3) := by decide +kernel
theorem dX9_book_20 : decode cX9_book 20 = .ok (.bipush (-2), 2) := by decide +kernel
theorem dX9_book_22 : decode cX9_book 22 = .ok (.ireturn, 1) := by decide +kernel
theorem dX9_book_23 : decode cX9_book 23 = .ok (.aload_n 0, 1) := by decide +kernel
theorem dX9_book_24 : decode cX9_book 24 = .ok (.getfield 278, 3) := by decide +kernel
theorem dX9_book_27 : decode cX9_book 27 = .ok (.bipush 8, 2) := by decide +kernel
theorem dX9_book_29 : decode cX9_book 29 = .ok (.if_icmp .ne 6, 3) := by decide +kernel
theorem dX9_book_32 : decode cX9_book 32 = .ok (.bipush (-4), 2) := by decide +kernel
theorem dX9_book_34 : decode cX9_book 34 = .ok (.ireturn, 1) := by decide +kernel
theorem dX9_book_35 : decode cX9_book 35 = .ok (.aload_n 0, 1) := by decide +kernel
theorem dX9_book_36 : decode cX9_book 36 = .ok (.getfield 49, 3) := by decide +kernel
theorem dX9_book_39 : decode cX9_book 39 = .ok (.aload_n 0, 1) := by decide +kernel
theorem dX9_book_40 : decode cX9_book 40 = .ok (.dup, 1) := by decide +kernel
theorem dX9_book_41 : decode cX9_book 41 = .ok (.getfield 278, 3) := by decide +kernel
theorem dX9_book_44 : decode cX9_book 44 = .ok (.dup_x1, 1) := by decide +kernel
theorem dX9_book_45 : decode cX9_book 45 = .ok (.iconst 1, 1) := by decide +kernel
theorem dX9_book_46 : decode cX9_book 46 = .ok (.iadd, 1) := by decide +kernel
theorem dX9_book_47 : decode cX9_book 47 = .ok (.putfield 278, 3) := by decide +kernel
theorem dX9_book_50 : decode cX9_book 50 = .ok (.iload_n 1, 1) := by decide +kernel
theorem dX9_book_51 : decode cX9_book 51 = .ok (.iastore, 1) := by decide +kernel
theorem dX9_book_52 : decode cX9_book 52 = .ok (.aload_n 0, 1) := by decide +kernel
theorem dX9_book_53 : decode cX9_book 53 = .ok (.getfield 278, 3) := by decide +kernel
theorem dX9_book_56 : decode cX9_book 56 = .ok (.ireturn, 1) := by decide +kernel
theorem dX9_isTold_0 : decode cX9_isTold 0 = .ok (.iconst 0, 1) := by decide +kernel
theorem dX9_isTold_1 : decode cX9_isTold 1 = .ok (.istore_n 2, 1) := by decide +kernel
theorem dX9_isTold_2 : decode cX9_isTold 2 = .ok (.iload_n 2, 1) := by decide +kernel
theorem dX9_isTold_3 : decode cX9_isTold 3 = .ok (.aload_n 0, 1) := by decide +kernel
theorem dX9_isTold_4 : decode cX9_isTold 4 = .ok (.getfield 209, 3) := by decide +kernel
theorem dX9_isTold_7 : decode cX9_isTold 7 = .ok (.if_icmp .ge 21, 3) := by decide +kernel
theorem dX9_isTold_10 : decode cX9_isTold 10 = .ok (.aload_n 0, 1) := by decide +kernel
theorem dX9_isTold_11 : decode cX9_isTold 11 = .ok (.getfield 72, 3) := by decide +kernel
theorem dX9_isTold_14 : decode cX9_isTold 14 = .ok (.iload_n 2, 1) := by decide +kernel
theorem dX9_isTold_15 : decode cX9_isTold 15 = .ok (.iaload, 1) := by decide +kernel
theorem dX9_isTold_16 : decode cX9_isTold 16 = .ok (.iload_n 1, 1) := by decide +kernel
theorem dX9_isTold_17 : decode cX9_isTold 17 = .ok (.if_icmp .ne 5, 3) := by decide +kernel
theorem dX9_isTold_20 : decode cX9_isTold 20 = .ok (.iconst 1, 1) := by decide +kernel
theorem dX9_isTold_21 : decode cX9_isTold 21 = .ok (.ireturn, 1) := by decide +kernel
theorem dX9_isTold_22 : decode cX9_isTold 22 = .ok (.iinc 2 1, 3) := by decide +kernel
theorem dX9_isTold_25 : decode cX9_isTold 25 = .ok (.goto (-23), 3) := by decide +kernel
theorem dX9_isTold_28 : decode cX9_isTold 28 = .ok (.iconst 0, 1) := by decide +kernel
theorem dX9_isTold_29 : decode cX9_isTold 29 = .ok (.ireturn, 1) := by decide +kernel
theorem dX9_looked_0 : decode cX9_looked 0 = .ok (.aload_n 0, 1) := by decide +kernel
theorem dX9_looked_1 : decode cX9_looked 1 = .ok (.getfield 97, 3) := by decide +kernel
theorem dX9_looked_4 : decode cX9_looked 4 = .ok (.ifCond .ne 6, 3) := by decide +kernel
theorem dX9_looked_7 : decode cX9_looked 7 = .ok (.bipush (-3), 2) := by decide +kernel
theorem dX9_looked_9 : decode cX9_looked 9 = .ok (.ireturn, 1) := by decide +kernel
theorem dX9_looked_10 : decode cX9_looked 10 = .ok (.aload_n 0, 1) := by decide +kernel
theorem dX9_looked_11 : decode cX9_looked 11 = .ok (.iconst 1, 1) := by decide +kernel
theorem dX9_looked_12 : decode cX9_looked 12 = .ok (.invokevirtual 218, 3) := by decide +kernel
theorem dX9_looked_15 : decode cX9_looked 15 = .ok (.iconst 0, 1) := by decide +kernel
theorem dX9_looked_16 : decode cX9_looked 16 = .ok (.istore_n 1, 1) := by decide +kernel
theorem dX9_looked_17 : decode cX9_looked 17 = .ok (.iload_n 1, 1) := by decide +kernel
theorem dX9_looked_18 : decode cX9_looked 18 = .ok (.aload_n 0, 1) := by decide +kernel
theorem dX9_looked_19 : decode cX9_looked 19 = .ok (.getfield 278, 3) := by decide +kernel
theorem dX9_looked_22 : decode cX9_looked 22 = .ok (.if_icmp .ge 24, 3) := by decide +kernel
theorem dX9_looked_25 : decode cX9_looked 25 = .ok (.aload_n 0, 1) := by decide +kernel
theorem dX9_looked_26 : decode cX9_looked 26 = .ok (.aload_n 0, 1) := by decide +kernel
theorem dX9_looked_27 : decode cX9_looked 27 = .ok (.getfield 49, 3) := by decide +kernel
theorem dX9_looked_30 : decode cX9_looked 30 = .ok (.iload_n 1, 1) := by decide +kernel
theorem dX9_looked_31 : decode cX9_looked 31 = .ok (.iaload, 1) := by decide +kernel
theorem dX9_looked_32 : decode cX9_looked 32 = .ok (.invokevirtual 281, 3) := by decide +kernel
theorem dX9_looked_35 : decode cX9_looked 35 = .ok (.ifCond .ne 5, 3) := by decide +kernel
theorem dX9_looked_38 : decode cX9_looked 38 = .ok (.iload_n 1, 1) := by decide +kernel
theorem dX9_looked_39 : decode cX9_looked 39 = .ok (.ireturn, 1) := by decide +kernel
theorem dX9_looked_40 : decode cX9_looked 40 = .ok (.iinc 1 1, 3) := by decide +kernel
theorem dX9_looked_43 : decode cX9_looked 43 = .ok (.goto (-26), 3) := by decide +kernel
theorem dX9_looked_46 : decode cX9_looked 46 = .ok (.bipush (-5), 2) := by decide +kernel
theorem dX9_looked_48 : decode cX9_looked 48 = .ok (.ireturn, 1) := by decide +kernel
theorem dX9_judge_0 : decode cX9_judge 0 = .ok (.iload_n 1, 1) := by decide +kernel
theorem dX9_judge_1 : decode cX9_judge 1 = .ok (.invokestatic 284, 3) := by decide +kernel
theorem dX9_judge_4 : decode cX9_judge 4 = .ok (.ifCond .ne 5, 3) := by decide +kernel
theorem dX9_judge_7 : decode cX9_judge 7 = .ok (.iconst (-1), 1) := by decide +kernel
theorem dX9_judge_8 : decode cX9_judge 8 = .ok (.ireturn, 1) := by decide +kernel
theorem dX9_judge_9 : decode cX9_judge 9 = .ok (.aload_n 0, 1) := by decide +kernel
theorem dX9_judge_10 : decode cX9_judge 10 = .ok (.getfield 97, 3) := by decide +kernel
theorem dX9_judge_13 : decode cX9_judge 13 = .ok (.ifCond .ne 6, 3) := by decide +kernel
theorem dX9_judge_16 : decode cX9_judge 16 = .ok (.bipush (-3), 2) := by decide +kernel
theorem dX9_judge_18 : decode cX9_judge 18 = .ok (.ireturn, 1) := by decide +kernel
theorem dX9_judge_19 : decode cX9_judge 19 = .ok (.aload_n 0, 1) := by decide +kernel
theorem dX9_judge_20 : decode cX9_judge 20 = .ok (.getfield 81, 3) := by decide +kernel
theorem dX9_judge_23 : decode cX9_judge 23 = .ok (.iload_n 1, 1) := by decide +kernel
theorem dX9_judge_24 : decode cX9_judge 24 = .ok (.iaload, 1) := by decide +kernel
theorem dX9_judge_25 : decode cX9_judge 25 = .ok (.ifCond .le 6, 3) := by decide +kernel
theorem dX9_judge_28 : decode cX9_judge 28 = .ok (.bipush (-12), 2) := by decide +kernel
theorem dX9_judge_30 : decode cX9_judge 30 = .ok (.ireturn, 1) := by decide +kernel
theorem dX9_judge_31 : decode cX9_judge 31 = .ok (.aload_n 0, 1) := by decide +kernel
theorem dX9_judge_32 : decode cX9_judge 32 = .ok (.iconst 1, 1) := by decide +kernel
theorem dX9_judge_33 : decode cX9_judge 33 = .ok (.invokevirtual 218, 3) := by decide +kernel
theorem dX9_judge_36 : decode cX9_judge 36 = .ok (.iconst 0, 1) := by decide +kernel
theorem dX9_judge_37 : decode cX9_judge 37 = .ok (.istore_n 3, 1) := by decide +kernel
theorem dX9_judge_38 : decode cX9_judge 38 = .ok (.iload_n 3, 1) := by decide +kernel
theorem dX9_judge_39 : decode cX9_judge 39 = .ok (.aload_n 0, 1) := by decide +kernel
theorem dX9_judge_40 : decode cX9_judge 40 = .ok (.getfield 209, 3) := by decide +kernel
theorem dX9_judge_43 : decode cX9_judge 43 = .ok (.if_icmp .ge 70, 3) := by decide +kernel
theorem dX9_judge_46 : decode cX9_judge 46 = .ok (.aload_n 0, 1) := by decide +kernel
theorem dX9_judge_47 : decode cX9_judge 47 = .ok (.getfield 81, 3) := by decide +kernel
theorem dX9_judge_50 : decode cX9_judge 50 = .ok (.iload_n 1, 1) := by decide +kernel
theorem dX9_judge_51 : decode cX9_judge 51 = .ok (.iaload, 1) := by decide +kernel
theorem dX9_judge_52 : decode cX9_judge 52 = .ok (.iconst (-1), 1) := by decide +kernel
theorem dX9_judge_53 : decode cX9_judge 53 = .ok (.if_icmp .eq 23, 3) := by decide +kernel
theorem dX9_judge_56 : decode cX9_judge 56 = .ok (.iload_n 2, 1) := by decide +kernel
theorem dX9_judge_57 : decode cX9_judge 57 = .ok (.ifCond .lt 19, 3) := by decide +kernel
theorem dX9_judge_60 : decode cX9_judge 60 = .ok (.iload_n 2, 1) := by decide +kernel
theorem dX9_judge_61 : decode cX9_judge 61 = .ok (.i2l, 1) := by decide +kernel
theorem dX9_judge_62 : decode cX9_judge 62 = .ok (.iload_n 3, 1) := by decide +kernel
theorem dX9_judge_63 : decode cX9_judge 63 = .ok (.i2l, 1) := by decide +kernel
theorem dX9_judge_64 : decode cX9_judge 64 = .ok (.ladd, 1) := by decide +kernel
theorem dX9_judge_65 : decode cX9_judge 65 = .ok (.aload_n 0, 1) := by decide +kernel
theorem dX9_judge_66 : decode cX9_judge 66 = .ok (.getfield 84, 3) := by decide +kernel
theorem dX9_judge_69 : decode cX9_judge 69 = .ok (.iload_n 1, 1) := by decide +kernel
theorem dX9_judge_70 : decode cX9_judge 70 = .ok (.iaload, 1) := by decide +kernel
theorem dX9_judge_71 : decode cX9_judge 71 = .ok (.i2l, 1) := by decide +kernel
theorem dX9_judge_72 : decode cX9_judge 72 = .ok (.lcmp, 1) := by decide +kernel
theorem dX9_judge_73 : decode cX9_judge 73 = .ok (.ifCond .lt 8, 3) := by decide +kernel
theorem dX9_judge_76 : decode cX9_judge 76 = .ok (.bipush 100, 2) := by decide +kernel
theorem dX9_judge_78 : decode cX9_judge 78 = .ok (.iload_n 3, 1) := by decide +kernel
theorem dX9_judge_79 : decode cX9_judge 79 = .ok (.iadd, 1) := by decide +kernel
theorem dX9_judge_80 : decode cX9_judge 80 = .ok (.ireturn, 1) := by decide +kernel
theorem dX9_judge_81 : decode cX9_judge 81 = .ok (.aload_n 0, 1) := by decide +kernel
theorem dX9_judge_82 : decode cX9_judge 82 = .ok (.getfield 87, 3) := by decide +kernel
theorem dX9_judge_85 : decode cX9_judge 85 = .ok (.bipush 60, 2) := by decide +kernel
theorem dX9_judge_87 : decode cX9_judge 87 = .ok (.iload_n 1, 1) := by decide +kernel
theorem dX9_judge_88 : decode cX9_judge 88 = .ok (.imul, 1) := by decide +kernel
theorem dX9_judge_89 : decode cX9_judge 89 = .ok (.iload_n 2, 1) := by decide +kernel
theorem dX9_judge_90 : decode cX9_judge 90 = .ok (.iadd, 1) := by decide +kernel
theorem dX9_judge_91 : decode cX9_judge 91 = .ok (.iload_n 3, 1) := by decide +kernel
theorem dX9_judge_92 : decode cX9_judge 92 = .ok (.iadd, 1) := by decide +kernel
theorem dX9_judge_93 : decode cX9_judge 93 = .ok (.laload, 1) := by decide +kernel
theorem dX9_judge_94 : decode cX9_judge 94 = .ok (.aload_n 0, 1) := by decide +kernel
theorem dX9_judge_95 : decode cX9_judge 95 = .ok (.getfield 72, 3) := by decide +kernel
theorem dX9_judge_98 : decode cX9_judge 98 = .ok (.iload_n 3, 1) := by decide +kernel
theorem dX9_judge_99 : decode cX9_judge 99 = .ok (.iaload, 1) := by decide +kernel
theorem dX9_judge_100 : decode cX9_judge 100 = .ok (.i2l, 1) := by decide +kernel
theorem dX9_judge_101 : decode cX9_judge 101 = .ok (.lcmp, 1) := by decide +kernel
theorem dX9_judge_102 : decode cX9_judge 102 = .ok (.ifCond .eq 5, 3) := by decide +kernel
theorem dX9_judge_105 : decode cX9_judge 105 = .ok (.iload_n 3, 1) := by decide +kernel
theorem dX9_judge_106 : decode cX9_judge 106 = .ok (.ireturn, 1) := by decide +kernel
theorem dX9_judge_107 : decode cX9_judge 107 = .ok (.iinc 3 1, 3) := by decide +kernel
theorem dX9_judge_110 : decode cX9_judge 110 = .ok (.goto (-72), 3) := by decide +kernel
theorem dX9_judge_113 : decode cX9_judge 113 = .ok (.bipush (-5), 2) := by decide +kernel
theorem dX9_judge_115 : decode cX9_judge 115 = .ok (.ireturn, 1) := by decide +kernel
theorem dX9_image_0 : decode cX9_image 0 = .ok (.aload_n 0, 1) := by decide +kernel
theorem dX9_image_1 : decode cX9_image 1 = .ok (.iconst 1, 1) := by decide +kernel
theorem dX9_image_2 : decode cX9_image 2 = .ok (.putfield 287, 3) := by decide +kernel
theorem dX9_image_5 : decode cX9_image 5 = .ok (.iconst 0, 1) := by decide +kernel
theorem dX9_image_6 : decode cX9_image 6 = .ok (.istore_n 1, 1) := by decide +kernel
theorem dX9_image_7 : decode cX9_image 7 = .ok (.iload_n 1, 1) := by decide +kernel
theorem dX9_image_8 : decode cX9_image 8 = .ok (.bipush 6, 2) := by decide +kernel
theorem dX9_image_10 : decode cX9_image 10 = .ok (.if_icmp .ge 66, 3) := by decide +kernel
theorem dX9_image_13 : decode cX9_image 13 = .ok (.aload_n 0, 1) := by decide +kernel
theorem dX9_image_14 : decode cX9_image 14 = .ok (.getfield 78, 3) := by decide +kernel
theorem dX9_image_17 : decode cX9_image 17 = .ok (.iload_n 1, 1) := by decide +kernel
theorem dX9_image_18 : decode cX9_image 18 = .ok (.aload_n 0, 1) := by decide +kernel
theorem dX9_image_19 : decode cX9_image 19 = .ok (.getfield 9, 3) := by decide +kernel
theorem dX9_image_22 : decode cX9_image 22 = .ok (.iload_n 1, 1) := by decide +kernel
theorem dX9_image_23 : decode cX9_image 23 = .ok (.iaload, 1) := by decide +kernel
theorem dX9_image_24 : decode cX9_image 24 = .ok (.iastore, 1) := by decide +kernel
theorem dX9_image_25 : decode cX9_image 25 = .ok (.aload_n 0, 1) := by decide +kernel
theorem dX9_image_26 : decode cX9_image 26 = .ok (.getfield 78, 3) := by decide +kernel
theorem dX9_image_29 : decode cX9_image 29 = .ok (.bipush 6, 2) := by decide +kernel
theorem dX9_image_31 : decode cX9_image 31 = .ok (.iload_n 1, 1) := by decide +kernel
theorem dX9_image_32 : decode cX9_image 32 = .ok (.iadd, 1) := by decide +kernel
theorem dX9_image_33 : decode cX9_image 33 = .ok (.aload_n 0, 1) := by decide +kernel
theorem dX9_image_34 : decode cX9_image 34 = .ok (.getfield 15, 3) := by decide +kernel
theorem dX9_image_37 : decode cX9_image 37 = .ok (.iload_n 1, 1) := by decide +kernel
theorem dX9_image_38 : decode cX9_image 38 = .ok (.iaload, 1) := by decide +kernel
theorem dX9_image_39 : decode cX9_image 39 = .ok (.iastore, 1) := by decide +kernel
theorem dX9_image_40 : decode cX9_image 40 = .ok (.aload_n 0, 1) := by decide +kernel
theorem dX9_image_41 : decode cX9_image 41 = .ok (.getfield 78, 3) := by decide +kernel
theorem dX9_image_44 : decode cX9_image 44 = .ok (.bipush 12, 2) := by decide +kernel
theorem dX9_image_46 : decode cX9_image 46 = .ok (.iload_n 1, 1) := by decide +kernel
theorem dX9_image_47 : decode cX9_image 47 = .ok (.iadd, 1) := by decide +kernel
theorem dX9_image_48 : decode cX9_image 48 = .ok (.aload_n 0, 1) := by decide +kernel
theorem dX9_image_49 : decode cX9_image 49 = .ok (.getfield 40, 3) := by decide +kernel
theorem dX9_image_52 : decode cX9_image 52 = .ok (.iload_n 1, 1) := by decide +kernel
theorem dX9_image_53 : decode cX9_image 53 = .ok (.iaload, 1) := by decide +kernel
theorem dX9_image_54 : decode cX9_image 54 = .ok (.iastore, 1) := by decide +kernel
theorem dX9_image_55 : decode cX9_image 55 = .ok (.aload_n 0, 1) := by decide +kernel
theorem dX9_image_56 : decode cX9_image 56 = .ok (.getfield 78, 3) := by decide +kernel
theorem dX9_image_59 : decode cX9_image 59 = .ok (.bipush 18, 2) := by decide +kernel
theorem dX9_image_61 : decode cX9_image 61 = .ok (.iload_n 1, 1) := by decide +kernel
theorem dX9_image_62 : decode cX9_image 62 = .ok (.iadd, 1) := by decide +kernel
theorem dX9_image_63 : decode cX9_image 63 = .ok (.aload_n 0, 1) := by decide +kernel
theorem dX9_image_64 : decode cX9_image 64 = .ok (.getfield 43, 3) := by decide +kernel
theorem dX9_image_67 : decode cX9_image 67 = .ok (.iload_n 1, 1) := by decide +kernel
theorem dX9_image_68 : decode cX9_image 68 = .ok (.iaload, 1) := by decide +kernel
theorem dX9_image_69 : decode cX9_image 69 = .ok (.iastore, 1) := by decide +kernel
theorem dX9_image_70 : decode cX9_image 70 = .ok (.iinc 1 1, 3) := by decide +kernel
theorem dX9_image_73 : decode cX9_image 73 = .ok (.goto (-66), 3) := by decide +kernel
theorem dX9_image_76 : decode cX9_image 76 = .ok (.iconst 0, 1) := by decide +kernel
theorem dX9_image_77 : decode cX9_image 77 = .ok (.istore_n 1, 1) := by decide +kernel
theorem dX9_image_78 : decode cX9_image 78 = .ok (.iload_n 1, 1) := by decide +kernel
theorem dX9_image_79 : decode cX9_image 79 = .ok (.bipush 8, 2) := by decide +kernel
theorem dX9_image_81 : decode cX9_image 81 = .ok (.if_icmp .ge 69, 3) := by decide +kernel
theorem dX9_image_84 : decode cX9_image 84 = .ok (.aload_n 0, 1) := by decide +kernel
theorem dX9_image_85 : decode cX9_image 85 = .ok (.getfield 78, 3) := by decide +kernel
theorem dX9_image_88 : decode cX9_image 88 = .ok (.bipush 24, 2) := by decide +kernel
theorem dX9_image_90 : decode cX9_image 90 = .ok (.iload_n 1, 1) := by decide +kernel
theorem dX9_image_91 : decode cX9_image 91 = .ok (.iadd, 1) := by decide +kernel
theorem dX9_image_92 : decode cX9_image 92 = .ok (.aload_n 0, 1) := by decide +kernel
theorem dX9_image_93 : decode cX9_image 93 = .ok (.getfield 18, 3) := by decide +kernel
theorem dX9_image_96 : decode cX9_image 96 = .ok (.iload_n 1, 1) := by decide +kernel
theorem dX9_image_97 : decode cX9_image 97 = .ok (.iaload, 1) := by decide +kernel
theorem dX9_image_98 : decode cX9_image 98 = .ok (.iastore, 1) := by decide +kernel
theorem dX9_image_99 : decode cX9_image 99 = .ok (.aload_n 0, 1) := by decide +kernel
theorem dX9_image_100 : decode cX9_image 100 = .ok (.getfield 78, 3) := by decide +kernel
theorem dX9_image_103 : decode cX9_image 103 = .ok (.bipush 32, 2) := by decide +kernel
theorem dX9_image_105 : decode cX9_image 105 = .ok (.iload_n 1, 1) := by decide +kernel
theorem dX9_image_106 : decode cX9_image 106 = .ok (.iadd, 1) := by decide +kernel
theorem dX9_image_107 : decode cX9_image 107 = .ok (.aload_n 0, 1) := by decide +kernel
theorem dX9_image_108 : decode cX9_image 108 = .ok (.getfield 21, 3) := by decide +kernel
theorem dX9_image_111 : decode cX9_image 111 = .ok (.iload_n 1, 1) := by decide +kernel
theorem dX9_image_112 : decode cX9_image 112 = .ok (.iaload, 1) := by decide +kernel
theorem dX9_image_113 : decode cX9_image 113 = .ok (.iastore, 1) := by decide +kernel
theorem dX9_image_114 : decode cX9_image 114 = .ok (.aload_n 0, 1) := by decide +kernel
theorem dX9_image_115 : decode cX9_image 115 = .ok (.getfield 78, 3) := by decide +kernel
theorem dX9_image_118 : decode cX9_image 118 = .ok (.bipush 40, 2) := by decide +kernel
theorem dX9_image_120 : decode cX9_image 120 = .ok (.iload_n 1, 1) := by decide +kernel
theorem dX9_image_121 : decode cX9_image 121 = .ok (.iadd, 1) := by decide +kernel
theorem dX9_image_122 : decode cX9_image 122 = .ok (.aload_n 0, 1) := by decide +kernel
theorem dX9_image_123 : decode cX9_image 123 = .ok (.getfield 24, 3) := by decide +kernel
theorem dX9_image_126 : decode cX9_image 126 = .ok (.iload_n 1, 1) := by decide +kernel
theorem dX9_image_127 : decode cX9_image 127 = .ok (.iaload, 1) := by decide +kernel
theorem dX9_image_128 : decode cX9_image 128 = .ok (.iastore, 1) := by decide +kernel
theorem dX9_image_129 : decode cX9_image 129 = .ok (.aload_n 0, 1) := by decide +kernel
theorem dX9_image_130 : decode cX9_image 130 = .ok (.getfield 78, 3) := by decide +kernel
theorem dX9_image_133 : decode cX9_image 133 = .ok (.bipush 48, 2) := by decide +kernel
theorem dX9_image_135 : decode cX9_image 135 = .ok (.iload_n 1, 1) := by decide +kernel
theorem dX9_image_136 : decode cX9_image 136 = .ok (.iadd, 1) := by decide +kernel
theorem dX9_image_137 : decode cX9_image 137 = .ok (.aload_n 0, 1) := by decide +kernel
theorem dX9_image_138 : decode cX9_image 138 = .ok (.getfield 49, 3) := by decide +kernel
theorem dX9_image_141 : decode cX9_image 141 = .ok (.iload_n 1, 1) := by decide +kernel
theorem dX9_image_142 : decode cX9_image 142 = .ok (.iaload, 1) := by decide +kernel
theorem dX9_image_143 : decode cX9_image 143 = .ok (.iastore, 1) := by decide +kernel
theorem dX9_image_144 : decode cX9_image 144 = .ok (.iinc 1 1, 3) := by decide +kernel
theorem dX9_image_147 : decode cX9_image 147 = .ok (.goto (-69), 3) := by decide +kernel
theorem dX9_image_150 : decode cX9_image 150 = .ok (.iconst 0, 1) := by decide +kernel
theorem dX9_image_151 : decode cX9_image 151 = .ok (.istore_n 1, 1) := by decide +kernel
theorem dX9_image_152 : decode cX9_image 152 = .ok (.iload_n 1, 1) := by decide +kernel
theorem dX9_image_153 : decode cX9_image 153 = .ok (.bipush 32, 2) := by decide +kernel
theorem dX9_image_155 : decode cX9_image 155 = .ok (.if_icmp .ge 24, 3) := by decide +kernel
theorem dX9_image_158 : decode cX9_image 158 = .ok (.aload_n 0, 1) := by decide +kernel
theorem dX9_image_159 : decode cX9_image 159 = .ok (.getfield 78, 3) := by decide +kernel
theorem dX9_image_162 : decode cX9_image 162 = .ok (.bipush 56, 2) := by decide +kernel
theorem dX9_image_164 : decode cX9_image 164 = .ok (.iload_n 1, 1) := by decide +kernel
theorem dX9_image_165 : decode cX9_image 165 = .ok (.iadd, 1) := by decide +kernel
theorem dX9_image_166 : decode cX9_image 166 = .ok (.aload_n 0, 1) := by decide +kernel
theorem dX9_image_167 : decode cX9_image 167 = .ok (.getfield 27, 3) := by decide +kernel
theorem dX9_image_170 : decode cX9_image 170 = .ok (.iload_n 1, 1) := by decide +kernel
theorem dX9_image_171 : decode cX9_image 171 = .ok (.iaload, 1) := by decide +kernel
theorem dX9_image_172 : decode cX9_image 172 = .ok (.iastore, 1) := by decide +kernel
theorem dX9_image_173 : decode cX9_image 173 = .ok (.iinc 1 1, 3) := by decide +kernel
theorem dX9_image_176 : decode cX9_image 176 = .ok (.goto (-24), 3) := by decide +kernel
theorem dX9_image_179 : decode cX9_image 179 = .ok (.iconst 0, 1) := by decide +kernel
theorem dX9_image_180 : decode cX9_image 180 = .ok (.istore_n 1, 1) := by decide +kernel
theorem dX9_image_181 : decode cX9_image 181 = .ok (.iload_n 1, 1) := by decide +kernel
theorem dX9_image_182 : decode cX9_image 182 = .ok (.bipush 16, 2) := by decide +kernel
theorem dX9_image_184 : decode cX9_image 184 = .ok (.if_icmp .ge 24, 3) := by decide +kernel
theorem dX9_image_187 : decode cX9_image 187 = .ok (.aload_n 0, 1) := by decide +kernel
theorem dX9_image_188 : decode cX9_image 188 = .ok (.getfield 78, 3) := by decide +kernel
theorem dX9_image_191 : decode cX9_image 191 = .ok (.bipush 88, 2) := by decide +kernel
theorem dX9_image_193 : decode cX9_image 193 = .ok (.iload_n 1, 1) := by decide +kernel
theorem dX9_image_194 : decode cX9_image 194 = .ok (.iadd, 1) := by decide +kernel
theorem dX9_image_195 : decode cX9_image 195 = .ok (.aload_n 0, 1) := by decide +kernel
theorem dX9_image_196 : decode cX9_image 196 = .ok (.getfield 46, 3) := by decide +kernel
theorem dX9_image_199 : decode cX9_image 199 = .ok (.iload_n 1, 1) := by decide +kernel
theorem dX9_image_200 : decode cX9_image 200 = .ok (.iaload, 1) := by decide +kernel
theorem dX9_image_201 : decode cX9_image 201 = .ok (.iastore, 1) := by decide +kernel
theorem dX9_image_202 : decode cX9_image 202 = .ok (.iinc 1 1, 3) := by decide +kernel
theorem dX9_image_205 : decode cX9_image 205 = .ok (.goto (-24), 3) := by decide +kernel
theorem dX9_image_208 : decode cX9_image 208 = .ok (.iconst 0, 1) := by decide +kernel
theorem dX9_image_209 : decode cX9_image 209 = .ok (.istore_n 1, 1) := by decide +kernel
theorem dX9_image_210 : decode cX9_image 210 = .ok (.iload_n 1, 1) := by decide +kernel
theorem dX9_image_211 : decode cX9_image 211 = .ok (.iconst 3, 1) := by decide +kernel
theorem dX9_image_212 : decode cX9_image 212 = .ok (.if_icmp .ge 39, 3) := by decide +kernel
theorem dX9_image_215 : decode cX9_image 215 = .ok (.aload_n 0, 1) := by decide +kernel
theorem dX9_image_216 : decode cX9_image 216 = .ok (.getfield 78, 3) := by decide +kernel
theorem dX9_image_219 : decode cX9_image 219 = .ok (.bipush 104, 2) := by decide +kernel
theorem dX9_image_221 : decode cX9_image 221 = .ok (.iload_n 1, 1) := by decide +kernel
theorem dX9_image_222 : decode cX9_image 222 = .ok (.iadd, 1) := by decide +kernel
theorem dX9_image_223 : decode cX9_image 223 = .ok (.aload_n 0, 1) := by decide +kernel
theorem dX9_image_224 : decode cX9_image 224 = .ok (.getfield 34, 3) := by decide +kernel
theorem dX9_image_227 : decode cX9_image 227 = .ok (.iload_n 1, 1) := by decide +kernel
theorem dX9_image_228 : decode cX9_image 228 = .ok (.iaload, 1) := by decide +kernel
theorem dX9_image_229 : decode cX9_image 229 = .ok (.iastore, 1) := by decide +kernel
theorem dX9_image_230 : decode cX9_image 230 = .ok (.aload_n 0, 1) := by decide +kernel
theorem dX9_image_231 : decode cX9_image 231 = .ok (.getfield 78, 3) := by decide +kernel
theorem dX9_image_234 : decode cX9_image 234 = .ok (.bipush 107, 2) := by decide +kernel
theorem dX9_image_236 : decode cX9_image 236 = .ok (.iload_n 1, 1) := by decide +kernel
theorem dX9_image_237 : decode cX9_image 237 = .ok (.iadd, 1) := by decide +kernel
theorem dX9_image_238 : decode cX9_image 238 = .ok (.aload_n 0, 1) := by decide +kernel
theorem dX9_image_239 : decode cX9_image 239 = .ok (.getfield 37, 3) := by decide +kernel
theorem dX9_image_242 : decode cX9_image 242 = .ok (.iload_n 1, 1) := by decide +kernel
theorem dX9_image_243 : decode cX9_image 243 = .ok (.iaload, 1) := by decide +kernel
theorem dX9_image_244 : decode cX9_image 244 = .ok (.iastore, 1) := by decide +kernel
theorem dX9_image_245 : decode cX9_image 245 = .ok (.iinc 1 1, 3) := by decide +kernel
theorem dX9_image_248 : decode cX9_image 248 = .ok (.goto (-38), 3) := by decide +kernel
theorem dX9_image_251 : decode cX9_image 251 = .ok (.aload_n 0, 1) := by decide +kernel
theorem dX9_image_252 : decode cX9_image 252 = .ok (.getfield 78, 3) := by decide +kernel
theorem dX9_image_255 : decode cX9_image 255 = .ok (.bipush 110, 2) := by decide +kernel
theorem dX9_image_257 : decode cX9_image 257 = .ok (.aload_n 0, 1) := by decide +kernel
theorem dX9_image_258 : decode cX9_image 258 = .ok (.getfield 90, 3) := by decide +kernel
theorem dX9_image_261 : decode cX9_image 261 = .ok (.iastore, 1) := by decide +kernel
theorem dX9_image_262 : decode cX9_image 262 = .ok (.aload_n 0, 1) := by decide +kernel
theorem dX9_image_263 : decode cX9_image 263 = .ok (.getfield 78, 3) := by decide +kernel
theorem dX9_image_266 : decode cX9_image 266 = .ok (.bipush 111, 2) := by decide +kernel
theorem dX9_image_268 : decode cX9_image 268 = .ok (.aload_n 0, 1) := by decide +kernel
theorem dX9_image_269 : decode cX9_image 269 = .ok (.getfield 97, 3) := by decide +kernel
theorem dX9_image_272 : decode cX9_image 272 = .ok (.iastore, 1) := by decide +kernel
theorem dX9_image_273 : decode cX9_image 273 = .ok (.aload_n 0, 1) := by decide +kernel
theorem dX9_image_274 : decode cX9_image 274 = .ok (.getfield 78, 3) := by decide +kernel
theorem dX9_image_277 : decode cX9_image 277 = .ok (.bipush 112, 2) := by decide +kernel
theorem dX9_image_279 : decode cX9_image 279 = .ok (.aload_n 0, 1) := by decide +kernel
theorem dX9_image_280 : decode cX9_image 280 = .ok (.getfield 30, 3) := by decide +kernel
theorem dX9_image_283 : decode cX9_image 283 = .ok (.iastore, 1) := by decide +kernel
theorem dX9_image_284 : decode cX9_image 284 = .ok (.aload_n 0, 1) := by decide +kernel
theorem dX9_image_285 : decode cX9_image 285 = .ok (.getfield 78, 3) := by decide +kernel
theorem dX9_image_288 : decode cX9_image 288 = .ok (.bipush 113, 2) := by decide +kernel
theorem dX9_image_290 : decode cX9_image 290 = .ok (.aload_n 0, 1) := by decide +kernel
theorem dX9_image_291 : decode cX9_image 291 = .ok (.getfield 121, 3) := by decide +kernel
theorem dX9_image_294 : decode cX9_image 294 = .ok (.iastore, 1) := by decide +kernel
theorem dX9_image_295 : decode cX9_image 295 = .ok (.aload_n 0, 1) := by decide +kernel
theorem dX9_image_296 : decode cX9_image 296 = .ok (.getfield 78, 3) := by decide +kernel
theorem dX9_image_299 : decode cX9_image 299 = .ok (.bipush 114, 2) := by decide +kernel
theorem dX9_image_301 : decode cX9_image 301 = .ok (.aload_n 0, 1) := by decide +kernel
theorem dX9_image_302 : decode cX9_image 302 = .ok (.getfield 268, 3) := by decide +kernel
theorem dX9_image_305 : decode cX9_image 305 = .ok (.iastore, 1) := by decide +kernel
theorem dX9_image_306 : decode cX9_image 306 = .ok (.aload_n 0, 1) := by decide +kernel
theorem dX9_image_307 : decode cX9_image 307 = .ok (.getfield 78, 3) := by decide +kernel
theorem dX9_image_310 : decode cX9_image 310 = .ok (.bipush 115, 2) := by decide +kernel
theorem dX9_image_312 : decode cX9_image 312 = .ok (.aload_n 0, 1) := by decide +kernel
theorem dX9_image_313 : decode cX9_image 313 = .ok (.getfield 275, 3) := by decide +kernel
theorem dX9_image_316 : decode cX9_image 316 = .ok (.iastore, 1) := by decide +kernel
theorem dX9_image_317 : decode cX9_image 317 = .ok (.aload_n 0, 1) := by decide +kernel
theorem dX9_image_318 : decode cX9_image 318 = .ok (.getfield 78, 3) := by decide +kernel
theorem dX9_image_321 : decode cX9_image 321 = .ok (.bipush 116, 2) := by decide +kernel
theorem dX9_image_323 : decode cX9_image 323 = .ok (.aload_n 0, 1) := by decide +kernel
theorem dX9_image_324 : decode cX9_image 324 = .ok (.getfield 278, 3) := by decide +kernel
theorem dX9_image_327 : decode cX9_image 327 = .ok (.iastore, 1) := by decide +kernel
theorem dX9_image_328 : decode cX9_image 328 = .ok (.aload_n 0, 1) := by decide +kernel
theorem dX9_image_329 : decode cX9_image 329 = .ok (.getfield 97, 3) := by decide +kernel
theorem dX9_image_332 : decode cX9_image 332 = .ok (.ireturn, 1) := by decide +kernel
theorem dX9_undo_0 : decode cX9_undo 0 = .ok (.aload_n 0, 1) := by decide +kernel
theorem dX9_undo_1 : decode cX9_undo 1 = .ok (.getfield 287, 3) := by decide +kernel
theorem dX9_undo_4 : decode cX9_undo 4 = .ok (.ifCond .ne 6, 3) := by decide +kernel
theorem dX9_undo_7 : decode cX9_undo 7 = .ok (.bipush (-3), 2) := by decide +kernel
theorem dX9_undo_9 : decode cX9_undo 9 = .ok (.ireturn, 1) := by decide +kernel
theorem dX9_undo_10 : decode cX9_undo 10 = .ok (.iconst 0, 1) := by decide +kernel
theorem dX9_undo_11 : decode cX9_undo 11 = .ok (.istore_n 1, 1) := by decide +kernel
theorem dX9_undo_12 : decode cX9_undo 12 = .ok (.iload_n 1, 1) := by decide +kernel
theorem dX9_undo_13 : decode cX9_undo 13 = .ok (.bipush 6, 2) := by decide +kernel
theorem dX9_undo_15 : decode cX9_undo 15 = .ok (.if_icmp .ge 66, 3) := by decide +kernel
theorem dX9_undo_18 : decode cX9_undo 18 = .ok (.aload_n 0, 1) := by decide +kernel
theorem dX9_undo_19 : decode cX9_undo 19 = .ok (.getfield 9, 3) := by decide +kernel
theorem dX9_undo_22 : decode cX9_undo 22 = .ok (.iload_n 1, 1) := by decide +kernel
theorem dX9_undo_23 : decode cX9_undo 23 = .ok (.aload_n 0, 1) := by decide +kernel
theorem dX9_undo_24 : decode cX9_undo 24 = .ok (.getfield 78, 3) := by decide +kernel
theorem dX9_undo_27 : decode cX9_undo 27 = .ok (.iload_n 1, 1) := by decide +kernel
theorem dX9_undo_28 : decode cX9_undo 28 = .ok (.iaload, 1) := by decide +kernel
theorem dX9_undo_29 : decode cX9_undo 29 = .ok (.iastore, 1) := by decide +kernel
theorem dX9_undo_30 : decode cX9_undo 30 = .ok (.aload_n 0, 1) := by decide +kernel
theorem dX9_undo_31 : decode cX9_undo 31 = .ok (.getfield 15, 3) := by decide +kernel
theorem dX9_undo_34 : decode cX9_undo 34 = .ok (.iload_n 1, 1) := by decide +kernel
theorem dX9_undo_35 : decode cX9_undo 35 = .ok (.aload_n 0, 1) := by decide +kernel
theorem dX9_undo_36 : decode cX9_undo 36 = .ok (.getfield 78, 3) := by decide +kernel
theorem dX9_undo_39 : decode cX9_undo 39 = .ok (.bipush 6, 2) := by decide +kernel
theorem dX9_undo_41 : decode cX9_undo 41 = .ok (.iload_n 1, 1) := by decide +kernel
theorem dX9_undo_42 : decode cX9_undo 42 = .ok (.iadd, 1) := by decide +kernel
theorem dX9_undo_43 : decode cX9_undo 43 = .ok (.iaload, 1) := by decide +kernel
theorem dX9_undo_44 : decode cX9_undo 44 = .ok (.iastore, 1) := by decide +kernel
theorem dX9_undo_45 : decode cX9_undo 45 = .ok (.aload_n 0, 1) := by decide +kernel
theorem dX9_undo_46 : decode cX9_undo 46 = .ok (.getfield 40, 3) := by decide +kernel
theorem dX9_undo_49 : decode cX9_undo 49 = .ok (.iload_n 1, 1) := by decide +kernel
theorem dX9_undo_50 : decode cX9_undo 50 = .ok (.aload_n 0, 1) := by decide +kernel
theorem dX9_undo_51 : decode cX9_undo 51 = .ok (.getfield 78, 3) := by decide +kernel
theorem dX9_undo_54 : decode cX9_undo 54 = .ok (.bipush 12, 2) := by decide +kernel
theorem dX9_undo_56 : decode cX9_undo 56 = .ok (.iload_n 1, 1) := by decide +kernel
theorem dX9_undo_57 : decode cX9_undo 57 = .ok (.iadd, 1) := by decide +kernel
theorem dX9_undo_58 : decode cX9_undo 58 = .ok (.iaload, 1) := by decide +kernel
theorem dX9_undo_59 : decode cX9_undo 59 = .ok (.iastore, 1) := by decide +kernel
theorem dX9_undo_60 : decode cX9_undo 60 = .ok (.aload_n 0, 1) := by decide +kernel
theorem dX9_undo_61 : decode cX9_undo 61 = .ok (.getfield 43, 3) := by decide +kernel
theorem dX9_undo_64 : decode cX9_undo 64 = .ok (.iload_n 1, 1) := by decide +kernel
theorem dX9_undo_65 : decode cX9_undo 65 = .ok (.aload_n 0, 1) := by decide +kernel
theorem dX9_undo_66 : decode cX9_undo 66 = .ok (.getfield 78, 3) := by decide +kernel
theorem dX9_undo_69 : decode cX9_undo 69 = .ok (.bipush 18, 2) := by decide +kernel
theorem dX9_undo_71 : decode cX9_undo 71 = .ok (.iload_n 1, 1) := by decide +kernel
theorem dX9_undo_72 : decode cX9_undo 72 = .ok (.iadd, 1) := by decide +kernel
theorem dX9_undo_73 : decode cX9_undo 73 = .ok (.iaload, 1) := by decide +kernel
theorem dX9_undo_74 : decode cX9_undo 74 = .ok (.iastore, 1) := by decide +kernel
theorem dX9_undo_75 : decode cX9_undo 75 = .ok (.iinc 1 1, 3) := by decide +kernel
theorem dX9_undo_78 : decode cX9_undo 78 = .ok (.goto (-66), 3) := by decide +kernel
theorem dX9_undo_81 : decode cX9_undo 81 = .ok (.iconst 0, 1) := by decide +kernel
theorem dX9_undo_82 : decode cX9_undo 82 = .ok (.istore_n 1, 1) := by decide +kernel
theorem dX9_undo_83 : decode cX9_undo 83 = .ok (.iload_n 1, 1) := by decide +kernel
theorem dX9_undo_84 : decode cX9_undo 84 = .ok (.bipush 8, 2) := by decide +kernel
theorem dX9_undo_86 : decode cX9_undo 86 = .ok (.if_icmp .ge 69, 3) := by decide +kernel
theorem dX9_undo_89 : decode cX9_undo 89 = .ok (.aload_n 0, 1) := by decide +kernel
theorem dX9_undo_90 : decode cX9_undo 90 = .ok (.getfield 18, 3) := by decide +kernel
theorem dX9_undo_93 : decode cX9_undo 93 = .ok (.iload_n 1, 1) := by decide +kernel
theorem dX9_undo_94 : decode cX9_undo 94 = .ok (.aload_n 0, 1) := by decide +kernel
theorem dX9_undo_95 : decode cX9_undo 95 = .ok (.getfield 78, 3) := by decide +kernel
theorem dX9_undo_98 : decode cX9_undo 98 = .ok (.bipush 24, 2) := by decide +kernel
theorem dX9_undo_100 : decode cX9_undo 100 = .ok (.iload_n 1, 1) := by decide +kernel
theorem dX9_undo_101 : decode cX9_undo 101 = .ok (.iadd, 1) := by decide +kernel
theorem dX9_undo_102 : decode cX9_undo 102 = .ok (.iaload, 1) := by decide +kernel
theorem dX9_undo_103 : decode cX9_undo 103 = .ok (.iastore, 1) := by decide +kernel
theorem dX9_undo_104 : decode cX9_undo 104 = .ok (.aload_n 0, 1) := by decide +kernel
theorem dX9_undo_105 : decode cX9_undo 105 = .ok (.getfield 21, 3) := by decide +kernel
theorem dX9_undo_108 : decode cX9_undo 108 = .ok (.iload_n 1, 1) := by decide +kernel
theorem dX9_undo_109 : decode cX9_undo 109 = .ok (.aload_n 0, 1) := by decide +kernel
theorem dX9_undo_110 : decode cX9_undo 110 = .ok (.getfield 78, 3) := by decide +kernel
theorem dX9_undo_113 : decode cX9_undo 113 = .ok (.bipush 32, 2) := by decide +kernel
theorem dX9_undo_115 : decode cX9_undo 115 = .ok (.iload_n 1, 1) := by decide +kernel
theorem dX9_undo_116 : decode cX9_undo 116 = .ok (.iadd, 1) := by decide +kernel
theorem dX9_undo_117 : decode cX9_undo 117 = .ok (.iaload, 1) := by decide +kernel
theorem dX9_undo_118 : decode cX9_undo 118 = .ok (.iastore, 1) := by decide +kernel
theorem dX9_undo_119 : decode cX9_undo 119 = .ok (.aload_n 0, 1) := by decide +kernel
theorem dX9_undo_120 : decode cX9_undo 120 = .ok (.getfield 24, 3) := by decide +kernel
theorem dX9_undo_123 : decode cX9_undo 123 = .ok (.iload_n 1, 1) := by decide +kernel
theorem dX9_undo_124 : decode cX9_undo 124 = .ok (.aload_n 0, 1) := by decide +kernel
theorem dX9_undo_125 : decode cX9_undo 125 = .ok (.getfield 78, 3) := by decide +kernel
theorem dX9_undo_128 : decode cX9_undo 128 = .ok (.bipush 40, 2) := by decide +kernel
theorem dX9_undo_130 : decode cX9_undo 130 = .ok (.iload_n 1, 1) := by decide +kernel
theorem dX9_undo_131 : decode cX9_undo 131 = .ok (.iadd, 1) := by decide +kernel
theorem dX9_undo_132 : decode cX9_undo 132 = .ok (.iaload, 1) := by decide +kernel
theorem dX9_undo_133 : decode cX9_undo 133 = .ok (.iastore, 1) := by decide +kernel
theorem dX9_undo_134 : decode cX9_undo 134 = .ok (.aload_n 0, 1) := by decide +kernel
theorem dX9_undo_135 : decode cX9_undo 135 = .ok (.getfield 49, 3) := by decide +kernel
theorem dX9_undo_138 : decode cX9_undo 138 = .ok (.iload_n 1, 1) := by decide +kernel
theorem dX9_undo_139 : decode cX9_undo 139 = .ok (.aload_n 0, 1) := by decide +kernel
theorem dX9_undo_140 : decode cX9_undo 140 = .ok (.getfield 78, 3) := by decide +kernel
theorem dX9_undo_143 : decode cX9_undo 143 = .ok (.bipush 48, 2) := by decide +kernel
theorem dX9_undo_145 : decode cX9_undo 145 = .ok (.iload_n 1, 1) := by decide +kernel
theorem dX9_undo_146 : decode cX9_undo 146 = .ok (.iadd, 1) := by decide +kernel
theorem dX9_undo_147 : decode cX9_undo 147 = .ok (.iaload, 1) := by decide +kernel
theorem dX9_undo_148 : decode cX9_undo 148 = .ok (.iastore, 1) := by decide +kernel
theorem dX9_undo_149 : decode cX9_undo 149 = .ok (.iinc 1 1, 3) := by decide +kernel
theorem dX9_undo_152 : decode cX9_undo 152 = .ok (.goto (-69), 3) := by decide +kernel
theorem dX9_undo_155 : decode cX9_undo 155 = .ok (.iconst 0, 1) := by decide +kernel
theorem dX9_undo_156 : decode cX9_undo 156 = .ok (.istore_n 1, 1) := by decide +kernel
theorem dX9_undo_157 : decode cX9_undo 157 = .ok (.iload_n 1, 1) := by decide +kernel
theorem dX9_undo_158 : decode cX9_undo 158 = .ok (.bipush 32, 2) := by decide +kernel
theorem dX9_undo_160 : decode cX9_undo 160 = .ok (.if_icmp .ge 24, 3) := by decide +kernel
theorem dX9_undo_163 : decode cX9_undo 163 = .ok (.aload_n 0, 1) := by decide +kernel
theorem dX9_undo_164 : decode cX9_undo 164 = .ok (.getfield 27, 3) := by decide +kernel
theorem dX9_undo_167 : decode cX9_undo 167 = .ok (.iload_n 1, 1) := by decide +kernel
theorem dX9_undo_168 : decode cX9_undo 168 = .ok (.aload_n 0, 1) := by decide +kernel
theorem dX9_undo_169 : decode cX9_undo 169 = .ok (.getfield 78, 3) := by decide +kernel
theorem dX9_undo_172 : decode cX9_undo 172 = .ok (.bipush 56, 2) := by decide +kernel
theorem dX9_undo_174 : decode cX9_undo 174 = .ok (.iload_n 1, 1) := by decide +kernel
theorem dX9_undo_175 : decode cX9_undo 175 = .ok (.iadd, 1) := by decide +kernel
theorem dX9_undo_176 : decode cX9_undo 176 = .ok (.iaload, 1) := by decide +kernel
theorem dX9_undo_177 : decode cX9_undo 177 = .ok (.iastore, 1) := by decide +kernel
theorem dX9_undo_178 : decode cX9_undo 178 = .ok (.iinc 1 1, 3) := by decide +kernel
theorem dX9_undo_181 : decode cX9_undo 181 = .ok (.goto (-24), 3) := by decide +kernel
theorem dX9_undo_184 : decode cX9_undo 184 = .ok (.iconst 0, 1) := by decide +kernel
theorem dX9_undo_185 : decode cX9_undo 185 = .ok (.istore_n 1, 1) := by decide +kernel
theorem dX9_undo_186 : decode cX9_undo 186 = .ok (.iload_n 1, 1) := by decide +kernel
theorem dX9_undo_187 : decode cX9_undo 187 = .ok (.bipush 16, 2) := by decide +kernel
theorem dX9_undo_189 : decode cX9_undo 189 = .ok (.if_icmp .ge 24, 3) := by decide +kernel
theorem dX9_undo_192 : decode cX9_undo 192 = .ok (.aload_n 0, 1) := by decide +kernel
theorem dX9_undo_193 : decode cX9_undo 193 = .ok (.getfield 46, 3) := by decide +kernel
theorem dX9_undo_196 : decode cX9_undo 196 = .ok (.iload_n 1, 1) := by decide +kernel
theorem dX9_undo_197 : decode cX9_undo 197 = .ok (.aload_n 0, 1) := by decide +kernel
theorem dX9_undo_198 : decode cX9_undo 198 = .ok (.getfield 78, 3) := by decide +kernel
theorem dX9_undo_201 : decode cX9_undo 201 = .ok (.bipush 88, 2) := by decide +kernel
theorem dX9_undo_203 : decode cX9_undo 203 = .ok (.iload_n 1, 1) := by decide +kernel
theorem dX9_undo_204 : decode cX9_undo 204 = .ok (.iadd, 1) := by decide +kernel
theorem dX9_undo_205 : decode cX9_undo 205 = .ok (.iaload, 1) := by decide +kernel
theorem dX9_undo_206 : decode cX9_undo 206 = .ok (.iastore, 1) := by decide +kernel
theorem dX9_undo_207 : decode cX9_undo 207 = .ok (.iinc 1 1, 3) := by decide +kernel
theorem dX9_undo_210 : decode cX9_undo 210 = .ok (.goto (-24), 3) := by decide +kernel
theorem dX9_undo_213 : decode cX9_undo 213 = .ok (.iconst 0, 1) := by decide +kernel
theorem dX9_undo_214 : decode cX9_undo 214 = .ok (.istore_n 1, 1) := by decide +kernel
theorem dX9_undo_215 : decode cX9_undo 215 = .ok (.iload_n 1, 1) := by decide +kernel
theorem dX9_undo_216 : decode cX9_undo 216 = .ok (.iconst 3, 1) := by decide +kernel
theorem dX9_undo_217 : decode cX9_undo 217 = .ok (.if_icmp .ge 39, 3) := by decide +kernel
theorem dX9_undo_220 : decode cX9_undo 220 = .ok (.aload_n 0, 1) := by decide +kernel
theorem dX9_undo_221 : decode cX9_undo 221 = .ok (.getfield 34, 3) := by decide +kernel
theorem dX9_undo_224 : decode cX9_undo 224 = .ok (.iload_n 1, 1) := by decide +kernel
theorem dX9_undo_225 : decode cX9_undo 225 = .ok (.aload_n 0, 1) := by decide +kernel
theorem dX9_undo_226 : decode cX9_undo 226 = .ok (.getfield 78, 3) := by decide +kernel
theorem dX9_undo_229 : decode cX9_undo 229 = .ok (.bipush 104, 2) := by decide +kernel
theorem dX9_undo_231 : decode cX9_undo 231 = .ok (.iload_n 1, 1) := by decide +kernel
theorem dX9_undo_232 : decode cX9_undo 232 = .ok (.iadd, 1) := by decide +kernel
theorem dX9_undo_233 : decode cX9_undo 233 = .ok (.iaload, 1) := by decide +kernel
theorem dX9_undo_234 : decode cX9_undo 234 = .ok (.iastore, 1) := by decide +kernel
theorem dX9_undo_235 : decode cX9_undo 235 = .ok (.aload_n 0, 1) := by decide +kernel
theorem dX9_undo_236 : decode cX9_undo 236 = .ok (.getfield 37, 3) := by decide +kernel
theorem dX9_undo_239 : decode cX9_undo 239 = .ok (.iload_n 1, 1) := by decide +kernel
theorem dX9_undo_240 : decode cX9_undo 240 = .ok (.aload_n 0, 1) := by decide +kernel
theorem dX9_undo_241 : decode cX9_undo 241 = .ok (.getfield 78, 3) := by decide +kernel
theorem dX9_undo_244 : decode cX9_undo 244 = .ok (.bipush 107, 2) := by decide +kernel
theorem dX9_undo_246 : decode cX9_undo 246 = .ok (.iload_n 1, 1) := by decide +kernel
theorem dX9_undo_247 : decode cX9_undo 247 = .ok (.iadd, 1) := by decide +kernel
theorem dX9_undo_248 : decode cX9_undo 248 = .ok (.iaload, 1) := by decide +kernel
theorem dX9_undo_249 : decode cX9_undo 249 = .ok (.iastore, 1) := by decide +kernel
theorem dX9_undo_250 : decode cX9_undo 250 = .ok (.iinc 1 1, 3) := by decide +kernel
theorem dX9_undo_253 : decode cX9_undo 253 = .ok (.goto (-38), 3) := by decide +kernel
theorem dX9_undo_256 : decode cX9_undo 256 = .ok (.aload_n 0, 1) := by decide +kernel
theorem dX9_undo_257 : decode cX9_undo 257 = .ok (.aload_n 0, 1) := by decide +kernel
theorem dX9_undo_258 : decode cX9_undo 258 = .ok (.getfield 78, 3) := by decide +kernel
theorem dX9_undo_261 : decode cX9_undo 261 = .ok (.bipush 110, 2) := by decide +kernel
theorem dX9_undo_263 : decode cX9_undo 263 = .ok (.iaload, 1) := by decide +kernel
theorem dX9_undo_264 : decode cX9_undo 264 = .ok (.putfield 90, 3) := by decide +kernel
theorem dX9_undo_267 : decode cX9_undo 267 = .ok (.aload_n 0, 1) := by decide +kernel
theorem dX9_undo_268 : decode cX9_undo 268 = .ok (.aload_n 0, 1) := by decide +kernel
theorem dX9_undo_269 : decode cX9_undo 269 = .ok (.getfield 78, 3) := by decide +kernel
theorem dX9_undo_272 : decode cX9_undo 272 = .ok (.bipush 111, 2) := by decide +kernel
theorem dX9_undo_274 : decode cX9_undo 274 = .ok (.iaload, 1) := by decide +kernel
theorem dX9_undo_275 : decode cX9_undo 275 = .ok (.putfield 97, 3) := by decide +kernel
theorem dX9_undo_278 : decode cX9_undo 278 = .ok (.aload_n 0, 1) := by decide +kernel
theorem dX9_undo_279 : decode cX9_undo 279 = .ok (.aload_n 0, 1) := by decide +kernel
theorem dX9_undo_280 : decode cX9_undo 280 = .ok (.getfield 78, 3) := by decide +kernel
theorem dX9_undo_283 : decode cX9_undo 283 = .ok (.bipush 112, 2) := by decide +kernel
theorem dX9_undo_285 : decode cX9_undo 285 = .ok (.iaload, 1) := by decide +kernel
theorem dX9_undo_286 : decode cX9_undo 286 = .ok (.putfield 30, 3) := by decide +kernel
theorem dX9_undo_289 : decode cX9_undo 289 = .ok (.aload_n 0, 1) := by decide +kernel
theorem dX9_undo_290 : decode cX9_undo 290 = .ok (.aload_n 0, 1) := by decide +kernel
theorem dX9_undo_291 : decode cX9_undo 291 = .ok (.getfield 78, 3) := by decide +kernel
theorem dX9_undo_294 : decode cX9_undo 294 = .ok (.bipush 113, 2) := by decide +kernel
theorem dX9_undo_296 : decode cX9_undo 296 = .ok (.iaload, 1) := by decide +kernel
theorem dX9_undo_297 : decode cX9_undo 297 = .ok (.putfield 121, 3) := by decide +kernel
theorem dX9_undo_300 : decode cX9_undo 300 = .ok (.aload_n 0, 1) := by decide +kernel
theorem dX9_undo_301 : decode cX9_undo 301 = .ok (.aload_n 0, 1) := by decide +kernel
theorem dX9_undo_302 : decode cX9_undo 302 = .ok (.getfield 78, 3) := by decide +kernel
theorem dX9_undo_305 : decode cX9_undo 305 = .ok (.bipush 114, 2) := by decide +kernel
theorem dX9_undo_307 : decode cX9_undo 307 = .ok (.iaload, 1) := by decide +kernel
theorem dX9_undo_308 : decode cX9_undo 308 = .ok (.putfield 268, 3) := by decide +kernel
theorem dX9_undo_311 : decode cX9_undo 311 = .ok (.aload_n 0, 1) := by decide +kernel
theorem dX9_undo_312 : decode cX9_undo 312 = .ok (.aload_n 0, 1) := by decide +kernel
theorem dX9_undo_313 : decode cX9_undo 313 = .ok (.getfield 78, 3) := by decide +kernel
theorem dX9_undo_316 : decode cX9_undo 316 = .ok (.bipush 115, 2) := by decide +kernel
theorem dX9_undo_318 : decode cX9_undo 318 = .ok (.iaload, 1) := by decide +kernel
theorem dX9_undo_319 : decode cX9_undo 319 = .ok (.putfield 275, 3) := by decide +kernel
theorem dX9_undo_322 : decode cX9_undo 322 = .ok (.aload_n 0, 1) := by decide +kernel
theorem dX9_undo_323 : decode cX9_undo 323 = .ok (.aload_n 0, 1) := by decide +kernel
theorem dX9_undo_324 : decode cX9_undo 324 = .ok (.getfield 78, 3) := by decide +kernel
theorem dX9_undo_327 : decode cX9_undo 327 = .ok (.bipush 116, 2) := by decide +kernel
theorem dX9_undo_329 : decode cX9_undo 329 = .ok (.iaload, 1) := by decide +kernel
theorem dX9_undo_330 : decode cX9_undo 330 = .ok (.putfield 278, 3) := by decide +kernel
theorem dX9_undo_333 : decode cX9_undo 333 = .ok (.aload_n 0, 1) := by decide +kernel
theorem dX9_undo_334 : decode cX9_undo 334 = .ok (.getfield 97, 3) := by decide +kernel
theorem dX9_undo_337 : decode cX9_undo 337 = .ok (.ireturn, 1) := by decide +kernel
theorem dX9_count_0 : decode cX9_count 0 = .ok (.iload_n 1, 1) := by decide +kernel
theorem dX9_count_1 : decode cX9_count 1 = .ok (.tableswitch 51 0 3 #[31, 36, 41, 46], 31) := by decide +kernel
theorem dX9_count_32 : decode cX9_count 32 = .ok (.aload_n 0, 1) := by decide +kernel
theorem dX9_count_33 : decode cX9_count 33 = .ok (.getfield 268, 3) := by decide +kernel
theorem dX9_count_36 : decode cX9_count 36 = .ok (.ireturn, 1) := by decide +kernel
theorem dX9_count_37 : decode cX9_count 37 = .ok (.aload_n 0, 1) := by decide +kernel
theorem dX9_count_38 : decode cX9_count 38 = .ok (.getfield 275, 3) := by decide +kernel
theorem dX9_count_41 : decode cX9_count 41 = .ok (.ireturn, 1) := by decide +kernel
theorem dX9_count_42 : decode cX9_count 42 = .ok (.aload_n 0, 1) := by decide +kernel
theorem dX9_count_43 : decode cX9_count 43 = .ok (.getfield 278, 3) := by decide +kernel
theorem dX9_count_46 : decode cX9_count 46 = .ok (.ireturn, 1) := by decide +kernel
theorem dX9_count_47 : decode cX9_count 47 = .ok (.aload_n 0, 1) := by decide +kernel
theorem dX9_count_48 : decode cX9_count 48 = .ok (.getfield 132, 3) := by decide +kernel
theorem dX9_count_51 : decode cX9_count 51 = .ok (.ireturn, 1) := by decide +kernel
theorem dX9_count_52 : decode cX9_count 52 = .ok (.bipush (-2), 2) := by decide +kernel
theorem dX9_count_54 : decode cX9_count 54 = .ok (.ireturn, 1) := by decide +kernel
theorem dX9_isTape_0 : decode cX9_isTape 0 = .ok (.iload_n 0, 1) := by decide +kernel
theorem dX9_isTape_1 : decode cX9_isTape 1 = .ok (.iconst 0, 1) := by decide +kernel
theorem dX9_isTape_2 : decode cX9_isTape 2 = .ok (.iconst 5, 1) := by decide +kernel
theorem dX9_isTape_3 : decode cX9_isTape 3 = .ok (.invokestatic 93, 3) := by decide +kernel
theorem dX9_isTape_6 : decode cX9_isTape 6 = .ok (.ireturn, 1) := by decide +kernel
theorem dX9_tape_0 : decode cX9_tape 0 = .ok (.iload_n 1, 1) := by decide +kernel
theorem dX9_tape_1 : decode cX9_tape 1 = .ok (.invokestatic 284, 3) := by decide +kernel
theorem dX9_tape_4 : decode cX9_tape 4 = .ok (.ifCond .ne 5, 3) := by decide +kernel
theorem dX9_tape_7 : decode cX9_tape 7 = .ok (.iconst (-1), 1) := by decide +kernel
theorem dX9_tape_8 : decode cX9_tape 8 = .ok (.ireturn, 1) := by decide +kernel
theorem dX9_tape_9 : decode cX9_tape 9 = .ok (.iload_n 2, 1) := by decide +kernel
theorem dX9_tape_10 : decode cX9_tape 10 = .ok (.iconst (-1), 1) := by decide +kernel
theorem dX9_tape_11 : decode cX9_tape 11 = .ok (.iconst 4, 1) := by decide +kernel
theorem dX9_tape_12 : decode cX9_tape 12 = .ok (.invokestatic 93, 3) := by decide +kernel
theorem dX9_tape_15 : decode cX9_tape 15 = .ok (.ifCond .eq 13, 3) := by decide +kernel
theorem dX9_tape_18 : decode cX9_tape 18 = .ok (.iload_n 2, 1) := by decide +kernel
theorem dX9_tape_19 : decode cX9_tape 19 = .ok (.ifCond .lt 12, 3) := by decide +kernel
theorem dX9_tape_22 : decode cX9_tape 22 = .ok (.iload_n 3, 1) := by decide +kernel
theorem dX9_tape_23 : decode cX9_tape 23 = .ok (.bipush 60, 2) := by decide +kernel
theorem dX9_tape_25 : decode cX9_tape 25 = .ok (.if_icmp .le 6, 3) := by decide +kernel
theorem dX9_tape_28 : decode cX9_tape 28 = .ok (.bipush (-2), 2) := by decide +kernel
theorem dX9_tape_30 : decode cX9_tape 30 = .ok (.ireturn, 1) := by decide +kernel
theorem dX9_tape_31 : decode cX9_tape 31 = .ok (.iload_n 2, 1) := by decide +kernel
theorem dX9_tape_32 : decode cX9_tape 32 = .ok (.ifCond .lt 10, 3) := by decide +kernel
theorem dX9_tape_35 : decode cX9_tape 35 = .ok (.iload_n 3, 1) := by decide +kernel
theorem dX9_tape_36 : decode cX9_tape 36 = .ok (.ifCond .ge 6, 3) := by decide +kernel
theorem dX9_tape_39 : decode cX9_tape 39 = .ok (.bipush (-14), 2) := by decide +kernel
theorem dX9_tape_41 : decode cX9_tape 41 = .ok (.ireturn, 1) := by decide +kernel
theorem dX9_tape_42 : decode cX9_tape 42 = .ok (.aload_n 0, 1) := by decide +kernel
theorem dX9_tape_43 : decode cX9_tape 43 = .ok (.getfield 81, 3) := by decide +kernel
theorem dX9_tape_46 : decode cX9_tape 46 = .ok (.iload_n 1, 1) := by decide +kernel
theorem dX9_tape_47 : decode cX9_tape 47 = .ok (.iload_n 2, 1) := by decide +kernel
theorem dX9_tape_48 : decode cX9_tape 48 = .ok (.iastore, 1) := by decide +kernel
theorem dX9_tape_49 : decode cX9_tape 49 = .ok (.aload_n 0, 1) := by decide +kernel
theorem dX9_tape_50 : decode cX9_tape 50 = .ok (.getfield 84, 3) := by decide +kernel
theorem dX9_tape_53 : decode cX9_tape 53 = .ok (.iload_n 1, 1) := by decide +kernel
theorem dX9_tape_54 : decode cX9_tape 54 = .ok (.iload_n 2, 1) := by decide +kernel
theorem dX9_tape_55 : decode cX9_tape 55 = .ok (.ifCond .ge 7, 3) := by decide +kernel
theorem dX9_tape_58 : decode cX9_tape 58 = .ok (.iconst 0, 1) := by decide +kernel
theorem dX9_tape_59 : decode cX9_tape 59 = .ok (.goto 4, 3) := by decide +kernel
theorem dX9_tape_62 : decode cX9_tape 62 = .ok (.iload_n 3, 1) := by decide +kernel
theorem dX9_tape_63 : decode cX9_tape 63 = .ok (.iastore, 1) := by decide +kernel
theorem dX9_tape_64 : decode cX9_tape 64 = .ok (.iconst 0, 1) := by decide +kernel
theorem dX9_tape_65 : decode cX9_tape 65 = .ok (.istore 4, 2) := by decide +kernel
theorem dX9_tape_67 : decode cX9_tape 67 = .ok (.iload 4, 2) := by decide +kernel
theorem dX9_tape_69 : decode cX9_tape 69 = .ok (.bipush 60, 2) := by decide +kernel
theorem dX9_tape_71 : decode cX9_tape 71 = .ok (.if_icmp .ge 22, 3) := by decide +kernel
theorem dX9_tape_74 : decode cX9_tape 74 = .ok (.aload_n 0, 1) := by decide +kernel
theorem dX9_tape_75 : decode cX9_tape 75 = .ok (.getfield 87, 3) := by decide +kernel
theorem dX9_tape_78 : decode cX9_tape 78 = .ok (.bipush 60, 2) := by decide +kernel
theorem dX9_tape_80 : decode cX9_tape 80 = .ok (.iload_n 1, 1) := by decide +kernel
theorem dX9_tape_81 : decode cX9_tape 81 = .ok (.imul, 1) := by decide +kernel
theorem dX9_tape_82 : decode cX9_tape 82 = .ok (.iload 4, 2) := by decide +kernel
theorem dX9_tape_84 : decode cX9_tape 84 = .ok (.iadd, 1) := by decide +kernel
theorem dX9_tape_85 : decode cX9_tape 85 = .ok (.lconst 0, 1) := by decide +kernel
theorem dX9_tape_86 : decode cX9_tape 86 = .ok (.lastore, 1) := by decide +kernel
theorem dX9_tape_87 : decode cX9_tape 87 = .ok (.iinc 4 1, 3) := by decide +kernel
theorem dX9_tape_90 : decode cX9_tape 90 = .ok (.goto (-23), 3) := by decide +kernel
theorem dX9_tape_93 : decode cX9_tape 93 = .ok (.iconst 1, 1) := by decide +kernel
theorem dX9_tape_94 : decode cX9_tape 94 = .ok (.ireturn, 1) := by decide +kernel
theorem dX9_bits_0 : decode cX9_bits 0 = .ok (.iload_n 0, 1) := by decide +kernel
theorem dX9_bits_1 : decode cX9_bits 1 = .ok (.tableswitch 47 0 3 #[31, 36, 41, 45], 31) := by decide +kernel
theorem dX9_bits_32 : decode cX9_bits 32 = .ok (.lload_n 1, 1) := by decide +kernel
theorem dX9_bits_33 : decode cX9_bits 33 = .ok (.l2i, 1) := by decide +kernel
theorem dX9_bits_34 : decode cX9_bits 34 = .ok (.i2b, 1) := by decide +kernel
theorem dX9_bits_35 : decode cX9_bits 35 = .ok (.i2l, 1) := by decide +kernel
theorem dX9_bits_36 : decode cX9_bits 36 = .ok (.lreturn, 1) := by decide +kernel
theorem dX9_bits_37 : decode cX9_bits 37 = .ok (.lload_n 1, 1) := by decide +kernel
theorem dX9_bits_38 : decode cX9_bits 38 = .ok (.l2i, 1) := by decide +kernel
theorem dX9_bits_39 : decode cX9_bits 39 = .ok (.i2s, 1) := by decide +kernel
theorem dX9_bits_40 : decode cX9_bits 40 = .ok (.i2l, 1) := by decide +kernel
theorem dX9_bits_41 : decode cX9_bits 41 = .ok (.lreturn, 1) := by decide +kernel
theorem dX9_bits_42 : decode cX9_bits 42 = .ok (.lload_n 1, 1) := by decide +kernel
theorem dX9_bits_43 : decode cX9_bits 43 = .ok (.l2i, 1) := by decide +kernel
theorem dX9_bits_44 : decode cX9_bits 44 = .ok (.i2l, 1) := by decide +kernel
theorem dX9_bits_45 : decode cX9_bits 45 = .ok (.lreturn, 1) := by decide +kernel
theorem dX9_bits_46 : decode cX9_bits 46 = .ok (.lload_n 1, 1) := by decide +kernel
theorem dX9_bits_47 : decode cX9_bits 47 = .ok (.lreturn, 1) := by decide +kernel
theorem dX9_bits_48 : decode cX9_bits 48 = .ok (.lload_n 1, 1) := by decide +kernel
theorem dX9_bits_49 : decode cX9_bits 49 = .ok (.lconst 0, 1) := by decide +kernel
theorem dX9_bits_50 : decode cX9_bits 50 = .ok (.lcmp, 1) := by decide +kernel
theorem dX9_bits_51 : decode cX9_bits 51 = .ok (.ifCond .eq 7, 3) := by decide +kernel
theorem dX9_bits_54 : decode cX9_bits 54 = .ok (.lconst 1, 1) := by decide +kernel
theorem dX9_bits_55 : decode cX9_bits 55 = .ok (.goto 4, 3) := by decide +kernel
theorem dX9_bits_58 : decode cX9_bits 58 = .ok (.lconst 0, 1) := by decide +kernel
theorem dX9_bits_59 : decode cX9_bits 59 = .ok (.lreturn, 1) := by decide +kernel
theorem dX9_item_0 : decode cX9_item 0 = .ok (.iload_n 1, 1) := by decide +kernel
theorem dX9_item_1 : decode cX9_item 1 = .ok (.invokestatic 284, 3) := by decide +kernel
theorem dX9_item_4 : decode cX9_item 4 = .ok (.ifCond .ne 5, 3) := by decide +kernel
theorem dX9_item_7 : decode cX9_item 7 = .ok (.iconst (-1), 1) := by decide +kernel
theorem dX9_item_8 : decode cX9_item 8 = .ok (.ireturn, 1) := by decide +kernel
theorem dX9_item_9 : decode cX9_item 9 = .ok (.aload_n 0, 1) := by decide +kernel
theorem dX9_item_10 : decode cX9_item 10 = .ok (.getfield 81, 3) := by decide +kernel
theorem dX9_item_13 : decode cX9_item 13 = .ok (.iload_n 1, 1) := by decide +kernel
theorem dX9_item_14 : decode cX9_item 14 = .ok (.iaload, 1) := by decide +kernel
theorem dX9_item_15 : decode cX9_item 15 = .ok (.ifCond .ge 6, 3) := by decide +kernel
theorem dX9_item_18 : decode cX9_item 18 = .ok (.bipush (-11), 2) := by decide +kernel
theorem dX9_item_20 : decode cX9_item 20 = .ok (.ireturn, 1) := by decide +kernel
theorem dX9_item_21 : decode cX9_item 21 = .ok (.iload_n 2, 1) := by decide +kernel
theorem dX9_item_22 : decode cX9_item 22 = .ok (.iconst 0, 1) := by decide +kernel
theorem dX9_item_23 : decode cX9_item 23 = .ok (.aload_n 0, 1) := by decide +kernel
theorem dX9_item_24 : decode cX9_item 24 = .ok (.getfield 84, 3) := by decide +kernel
theorem dX9_item_27 : decode cX9_item 27 = .ok (.iload_n 1, 1) := by decide +kernel
theorem dX9_item_28 : decode cX9_item 28 = .ok (.iaload, 1) := by decide +kernel
theorem dX9_item_29 : decode cX9_item 29 = .ok (.iconst 1, 1) := by decide +kernel
theorem dX9_item_30 : decode cX9_item 30 = .ok (.isub, 1) := by decide +kernel
theorem dX9_item_31 : decode cX9_item 31 = .ok (.invokestatic 93, 3) := by decide +kernel
theorem dX9_item_34 : decode cX9_item 34 = .ok (.ifCond .ne 6, 3) := by decide +kernel
theorem dX9_item_37 : decode cX9_item 37 = .ok (.bipush (-13), 2) := by decide +kernel
theorem dX9_item_39 : decode cX9_item 39 = .ok (.ireturn, 1) := by decide +kernel
theorem dX9_item_40 : decode cX9_item 40 = .ok (.aload_n 0, 1) := by decide +kernel
theorem dX9_item_41 : decode cX9_item 41 = .ok (.getfield 87, 3) := by decide +kernel
theorem dX9_item_44 : decode cX9_item 44 = .ok (.bipush 60, 2) := by decide +kernel
theorem dX9_item_46 : decode cX9_item 46 = .ok (.iload_n 1, 1) := by decide +kernel
theorem dX9_item_47 : decode cX9_item 47 = .ok (.imul, 1) := by decide +kernel
theorem dX9_item_48 : decode cX9_item 48 = .ok (.iload_n 2, 1) := by decide +kernel
theorem dX9_item_49 : decode cX9_item 49 = .ok (.iadd, 1) := by decide +kernel
theorem dX9_item_50 : decode cX9_item 50 = .ok (.aload_n 0, 1) := by decide +kernel
theorem dX9_item_51 : decode cX9_item 51 = .ok (.getfield 81, 3) := by decide +kernel
theorem dX9_item_54 : decode cX9_item 54 = .ok (.iload_n 1, 1) := by decide +kernel
theorem dX9_item_55 : decode cX9_item 55 = .ok (.iaload, 1) := by decide +kernel
theorem dX9_item_56 : decode cX9_item 56 = .ok (.lload_n 3, 1) := by decide +kernel
theorem dX9_item_57 : decode cX9_item 57 = .ok (.invokestatic 291, 3) := by decide +kernel
theorem dX9_item_60 : decode cX9_item 60 = .ok (.lastore, 1) := by decide +kernel
theorem dX9_item_61 : decode cX9_item 61 = .ok (.iconst 1, 1) := by decide +kernel
theorem dX9_item_62 : decode cX9_item 62 = .ok (.ireturn, 1) := by decide +kernel
theorem dX9_peek_0 : decode cX9_peek 0 = .ok (.iload_n 1, 1) := by decide +kernel
theorem dX9_peek_1 : decode cX9_peek 1 = .ok (.invokestatic 284, 3) := by decide +kernel
theorem dX9_peek_4 : decode cX9_peek 4 = .ok (.ifCond .eq 42, 3) := by decide +kernel
theorem dX9_peek_7 : decode cX9_peek 7 = .ok (.aload_n 0, 1) := by decide +kernel
theorem dX9_peek_8 : decode cX9_peek 8 = .ok (.getfield 81, 3) := by decide +kernel
theorem dX9_peek_11 : decode cX9_peek 11 = .ok (.iload_n 1, 1) := by decide +kernel
theorem dX9_peek_12 : decode cX9_peek 12 = .ok (.iaload, 1) := by decide +kernel
theorem dX9_peek_13 : decode cX9_peek 13 = .ok (.ifCond .lt 33, 3) := by decide +kernel
theorem dX9_peek_16 : decode cX9_peek 16 = .ok (.iload_n 2, 1) := by decide +kernel
theorem dX9_peek_17 : decode cX9_peek 17 = .ok (.iconst 0, 1) := by decide +kernel
theorem dX9_peek_18 : decode cX9_peek 18 = .ok (.aload_n 0, 1) := by decide +kernel
theorem dX9_peek_19 : decode cX9_peek 19 = .ok (.getfield 84, 3) := by decide +kernel
theorem dX9_peek_22 : decode cX9_peek 22 = .ok (.iload_n 1, 1) := by decide +kernel
theorem dX9_peek_23 : decode cX9_peek 23 = .ok (.iaload, 1) := by decide +kernel
theorem dX9_peek_24 : decode cX9_peek 24 = .ok (.iconst 1, 1) := by decide +kernel
theorem dX9_peek_25 : decode cX9_peek 25 = .ok (.isub, 1) := by decide +kernel
theorem dX9_peek_26 : decode cX9_peek 26 = .ok (.invokestatic 93, 3) := by decide +kernel
theorem dX9_peek_29 : decode cX9_peek 29 = .ok (.ifCond .eq 17, 3) := by decide +kernel
theorem dX9_peek_32 : decode cX9_peek 32 = .ok (.aload_n 0, 1) := by decide +kernel
theorem dX9_peek_33 : decode cX9_peek 33 = .ok (.getfield 87, 3) := by decide +kernel
theorem dX9_peek_36 : decode cX9_peek 36 = .ok (.bipush 60, 2) := by decide +kernel
theorem dX9_peek_38 : decode cX9_peek 38 = .ok (.iload_n 1, 1) := by decide +kernel
theorem dX9_peek_39 : decode cX9_peek 39 = .ok (.imul, 1) := by decide +kernel
theorem dX9_peek_40 : decode cX9_peek 40 = .ok (.iload_n 2, 1) := by decide +kernel
theorem dX9_peek_41 : decode cX9_peek 41 = .ok (.iadd, 1) := by decide +kernel
theorem dX9_peek_42 : decode cX9_peek 42 = .ok (.laload, 1) := by decide +kernel
theorem dX9_peek_43 : decode cX9_peek 43 = .ok (.goto 6, 3) := by decide +kernel
theorem dX9_peek_46 : decode cX9_peek 46 = .ok (.ldc2_w 241, 3) := by decide +kernel
theorem dX9_peek_49 : decode cX9_peek 49 = .ok (.lreturn, 1) := by decide +kernel
theorem dX9_shift_0 : decode cX9_shift 0 = .ok (.iload_n 1, 1) := by decide +kernel
theorem dX9_shift_1 : decode cX9_shift 1 = .ok (.invokestatic 284, 3) := by decide +kernel
theorem dX9_shift_4 : decode cX9_shift 4 = .ok (.ifCond .eq 10, 3) := by decide +kernel
theorem dX9_shift_7 : decode cX9_shift 7 = .ok (.iload_n 3, 1) := by decide +kernel
theorem dX9_shift_8 : decode cX9_shift 8 = .ok (.invokestatic 284, 3) := by decide +kernel
theorem dX9_shift_11 : decode cX9_shift 11 = .ok (.ifCond .ne 5, 3) := by decide +kernel
theorem dX9_shift_14 : decode cX9_shift 14 = .ok (.iconst (-1), 1) := by decide +kernel
theorem dX9_shift_15 : decode cX9_shift 15 = .ok (.ireturn, 1) := by decide +kernel
theorem dX9_shift_16 : decode cX9_shift 16 = .ok (.aload_n 0, 1) := by decide +kernel
theorem dX9_shift_17 : decode cX9_shift 17 = .ok (.getfield 81, 3) := by decide +kernel
theorem dX9_shift_20 : decode cX9_shift 20 = .ok (.iload_n 1, 1) := by decide +kernel
theorem dX9_shift_21 : decode cX9_shift 21 = .ok (.iaload, 1) := by decide +kernel
theorem dX9_shift_22 : decode cX9_shift 22 = .ok (.ifCond .lt 12, 3) := by decide +kernel
theorem dX9_shift_25 : decode cX9_shift 25 = .ok (.aload_n 0, 1) := by decide +kernel
theorem dX9_shift_26 : decode cX9_shift 26 = .ok (.getfield 81, 3) := by decide +kernel
theorem dX9_shift_29 : decode cX9_shift 29 = .ok (.iload_n 3, 1) := by decide +kernel
theorem dX9_shift_30 : decode cX9_shift 30 = .ok (.iaload, 1) := by decide +kernel
theorem dX9_shift_31 : decode cX9_shift 31 = .ok (.ifCond .ge 6, 3) := by decide +kernel
theorem dX9_shift_34 : decode cX9_shift 34 = .ok (.bipush (-11), 2) := by decide +kernel
theorem dX9_shift_36 : decode cX9_shift 36 = .ok (.ireturn, 1) := by decide +kernel
theorem dX9_shift_37 : decode cX9_shift 37 = .ok (.aload_n 0, 1) := by decide +kernel
theorem dX9_shift_38 : decode cX9_shift 38 = .ok (.getfield 81, 3) := by decide +kernel
theorem dX9_shift_41 : decode cX9_shift 41 = .ok (.iload_n 1, 1) := by decide +kernel
theorem dX9_shift_42 : decode cX9_shift 42 = .ok (.iaload, 1) := by decide +kernel
theorem dX9_shift_43 : decode cX9_shift 43 = .ok (.aload_n 0, 1) := by decide +kernel
theorem dX9_shift_44 : decode cX9_shift 44 = .ok (.getfield 81, 3) := by decide +kernel
theorem dX9_shift_47 : decode cX9_shift 47 = .ok (.iload_n 3, 1) := by decide +kernel
theorem dX9_shift_48 : decode cX9_shift 48 = .ok (.iaload, 1) := by decide +kernel
theorem dX9_shift_49 : decode cX9_shift 49 = .ok (.if_icmp .eq 6, 3) := by decide +kernel
theorem dX9_shift_52 : decode cX9_shift 52 = .ok (.bipush (-12), 2) := by decide +kernel
theorem dX9_shift_54 : decode cX9_shift 54 = .ok (.ireturn, 1) := by decide +kernel
theorem dX9_shift_55 : decode cX9_shift 55 = .ok (.iload 5, 2) := by decide +kernel
theorem dX9_shift_57 : decode cX9_shift 57 = .ok (.ifCond .lt 47, 3) := by decide +kernel
theorem dX9_shift_60 : decode cX9_shift 60 = .ok (.iload_n 2, 1) := by decide +kernel
theorem dX9_shift_61 : decode cX9_shift 61 = .ok (.ifCond .lt 43, 3) := by decide +kernel
theorem dX9_shift_64 : decode cX9_shift 64 = .ok (.iload 4, 2) := by decide +kernel
theorem dX9_shift_66 : decode cX9_shift 66 = .ok (.ifCond .lt 38, 3) := by decide +kernel
theorem dX9_shift_69 : decode cX9_shift 69 = .ok (.iload_n 2, 1) := by decide +kernel
theorem dX9_shift_70 : decode cX9_shift 70 = .ok (.i2l, 1) := by decide +kernel
theorem dX9_shift_71 : decode cX9_shift 71 = .ok (.iload 5, 2) := by decide +kernel
theorem dX9_shift_73 : decode cX9_shift 73 = .ok (.i2l, 1) := by decide +kernel
theorem dX9_shift_74 : decode cX9_shift 74 = .ok (.ladd, 1) := by decide +kernel
theorem dX9_shift_75 : decode cX9_shift 75 = .ok (.aload_n 0, 1) := by decide +kernel
theorem dX9_shift_76 : decode cX9_shift 76 = .ok (.getfield 84, 3) := by decide +kernel
theorem dX9_shift_79 : decode cX9_shift 79 = .ok (.iload_n 1, 1) := by decide +kernel
theorem dX9_shift_80 : decode cX9_shift 80 = .ok (.iaload, 1) := by decide +kernel
theorem dX9_shift_81 : decode cX9_shift 81 = .ok (.i2l, 1) := by decide +kernel
theorem dX9_shift_82 : decode cX9_shift 82 = .ok (.lcmp, 1) := by decide +kernel
theorem dX9_shift_83 : decode cX9_shift 83 = .ok (.ifCond .gt 21, 3) := by decide +kernel
theorem dX9_shift_86 : decode cX9_shift 86 = .ok (.iload 4, 2) := by decide +kernel
theorem dX9_shift_88 : decode cX9_shift 88 = .ok (.i2l, 1) := by decide +kernel
theorem dX9_shift_89 : decode cX9_shift 89 = .ok (.iload 5, 2) := by decide +kernel
theorem dX9_shift_91 : decode cX9_shift 91 = .ok (.i2l, 1) := by decide +kernel
theorem dX9_shift_92 : decode cX9_shift 92 = .ok (.ladd, 1) := by decide +kernel
theorem dX9_shift_93 : decode cX9_shift 93 = .ok (.aload_n 0, 1) := by decide +kernel
theorem dX9_shift_94 : decode cX9_shift 94 = .ok (.getfield 84, 3) := by decide +kernel
theorem dX9_shift_97 : decode cX9_shift 97 = .ok (.iload_n 3, 1) := by decide +kernel
theorem dX9_shift_98 : decode cX9_shift 98 = .ok (.iaload, 1) := by decide +kernel
theorem dX9_shift_99 : decode cX9_shift 99 = .ok (.i2l, 1) := by decide +kernel
theorem dX9_shift_100 : decode cX9_shift 100 = .ok (.lcmp, 1) := by decide +kernel
theorem dX9_shift_101 : decode cX9_shift 101 = .ok (.ifCond .le 6, 3) := by decide +kernel
theorem dX9_shift_104 : decode cX9_shift 104 = .ok (.bipush (-13), 2) := by decide +kernel
theorem dX9_shift_106 : decode cX9_shift 106 = .ok (.ireturn, 1) := by decide +kernel
theorem dX9_shift_107 : decode cX9_shift 107 = .ok (.iload_n 1, 1) := by decide +kernel
theorem dX9_shift_108 : decode cX9_shift 108 = .ok (.iload_n 3, 1) := by decide +kernel
theorem dX9_shift_109 : decode cX9_shift 109 = .ok (.if_icmp .ne 58, 3) := by decide +kernel
theorem dX9_shift_112 : decode cX9_shift 112 = .ok (.iload_n 2, 1) := by decide +kernel
theorem dX9_shift_113 : decode cX9_shift 113 = .ok (.iload 4, 2) := by decide +kernel
theorem dX9_shift_115 : decode cX9_shift 115 = .ok (.if_icmp .ge 52, 3) := by decide +kernel
theorem dX9_shift_118 : decode cX9_shift 118 = .ok (.iload 5, 2) := by decide +kernel
theorem dX9_shift_120 : decode cX9_shift 120 = .ok (.iconst 1, 1) := by decide +kernel
theorem dX9_shift_121 : decode cX9_shift 121 = .ok (.isub, 1) := by decide +kernel
theorem dX9_shift_122 : decode cX9_shift 122 = .ok (.istore 6, 2) := by decide +kernel
theorem dX9_shift_124 : decode cX9_shift 124 = .ok (.iload 6, 2) := by decide +kernel
theorem dX9_shift_126 : decode cX9_shift 126 = .ok (.ifCond .lt 38, 3) := by decide +kernel
theorem dX9_shift_129 : decode cX9_shift 129 = .ok (.aload_n 0, 1) := by decide +kernel
theorem dX9_shift_130 : decode cX9_shift 130 = .ok (.getfield 87, 3) := by decide +kernel
theorem dX9_shift_133 : decode cX9_shift 133 = .ok (.bipush 60, 2) := by decide +kernel
theorem dX9_shift_135 : decode cX9_shift 135 = .ok (.iload_n 3, 1) := by decide +kernel
theorem dX9_shift_136 : decode cX9_shift 136 = .ok (.imul, 1) := by decide +kernel
theorem dX9_shift_137 : decode cX9_shift 137 = .ok (.iload 4, 2) := by decide +kernel
theorem dX9_shift_139 : decode cX9_shift 139 = .ok (.iadd, 1) := by decide +kernel
theorem dX9_shift_140 : decode cX9_shift 140 = .ok (.iload 6, 2) := by decide +kernel
theorem dX9_shift_142 : decode cX9_shift 142 = .ok (.iadd, 1) := by decide +kernel
theorem dX9_shift_143 : decode cX9_shift 143 = .ok (.aload_n 0, 1) := by decide +kernel
theorem dX9_shift_144 : decode cX9_shift 144 = .ok (.getfield 87, 3) := by decide +kernel
theorem dX9_shift_147 : decode cX9_shift 147 = .ok (.bipush 60, 2) := by decide +kernel
theorem dX9_shift_149 : decode cX9_shift 149 = .ok (.iload_n 1, 1) := by decide +kernel
theorem dX9_shift_150 : decode cX9_shift 150 = .ok (.imul, 1) := by decide +kernel
theorem dX9_shift_151 : decode cX9_shift 151 = .ok (.iload_n 2, 1) := by decide +kernel
theorem dX9_shift_152 : decode cX9_shift 152 = .ok (.iadd, 1) := by decide +kernel
theorem dX9_shift_153 : decode cX9_shift 153 = .ok (.iload 6, 2) := by decide +kernel
theorem dX9_shift_155 : decode cX9_shift 155 = .ok (.iadd, 1) := by decide +kernel
theorem dX9_shift_156 : decode cX9_shift 156 = .ok (.laload, 1) := by decide +kernel
theorem dX9_shift_157 : decode cX9_shift 157 = .ok (.lastore, 1) := by decide +kernel
theorem dX9_shift_158 : decode cX9_shift 158 = .ok (.iinc 6 (-1), 3) := by decide +kernel
theorem dX9_shift_161 : decode cX9_shift 161 = .ok (.goto (-37), 3) := by decide +kernel
theorem dX9_shift_164 : decode cX9_shift 164 = .ok (.goto 48, 3) := by decide +kernel
theorem dX9_shift_167 : decode cX9_shift 167 = .ok (.iconst 0, 1) := by decide +kernel
theorem dX9_shift_168 : decode cX9_shift 168 = .ok (.istore 6, 2) := by decide +kernel
theorem dX9_shift_170 : decode cX9_shift 170 = .ok (.iload 6, 2) := by decide +kernel
theorem dX9_shift_172 : decode cX9_shift 172 = .ok (.iload 5, 2) := by decide +kernel
theorem dX9_shift_174 : decode cX9_shift 174 = .ok (.if_icmp .ge 38, 3) := by decide +kernel
theorem dX9_shift_177 : decode cX9_shift 177 = .ok (.aload_n 0, 1) := by decide +kernel
theorem dX9_shift_178 : decode cX9_shift 178 = .ok (.getfield 87, 3) := by decide +kernel
theorem dX9_shift_181 : decode cX9_shift 181 = .ok (.bipush 60, 2) := by decide +kernel
theorem dX9_shift_183 : decode cX9_shift 183 = .ok (.iload_n 3, 1) := by decide +kernel
theorem dX9_shift_184 : decode cX9_shift 184 = .ok (.imul, 1) := by decide +kernel
theorem dX9_shift_185 : decode cX9_shift 185 = .ok (.iload 4, 2) := by decide +kernel
theorem dX9_shift_187 : decode cX9_shift 187 = .ok (.iadd, 1) := by decide +kernel
theorem dX9_shift_188 : decode cX9_shift 188 = .ok (.iload 6, 2) := by decide +kernel
theorem dX9_shift_190 : decode cX9_shift 190 = .ok (.iadd, 1) := by decide +kernel
theorem dX9_shift_191 : decode cX9_shift 191 = .ok (.aload_n 0, 1) := by decide +kernel
theorem dX9_shift_192 : decode cX9_shift 192 = .ok (.getfield 87, 3) := by decide +kernel
theorem dX9_shift_195 : decode cX9_shift 195 = .ok (.bipush 60, 2) := by decide +kernel
theorem dX9_shift_197 : decode cX9_shift 197 = .ok (.iload_n 1, 1) := by decide +kernel
theorem dX9_shift_198 : decode cX9_shift 198 = .ok (.imul, 1) := by decide +kernel
theorem dX9_shift_199 : decode cX9_shift 199 = .ok (.iload_n 2, 1) := by decide +kernel
theorem dX9_shift_200 : decode cX9_shift 200 = .ok (.iadd, 1) := by decide +kernel
theorem dX9_shift_201 : decode cX9_shift 201 = .ok (.iload 6, 2) := by decide +kernel
theorem dX9_shift_203 : decode cX9_shift 203 = .ok (.iadd, 1) := by decide +kernel
theorem dX9_shift_204 : decode cX9_shift 204 = .ok (.laload, 1) := by decide +kernel
theorem dX9_shift_205 : decode cX9_shift 205 = .ok (.lastore, 1) := by decide +kernel
theorem dX9_shift_206 : decode cX9_shift 206 = .ok (.iinc 6 1, 3) := by decide +kernel
theorem dX9_shift_209 : decode cX9_shift 209 = .ok (.goto (-39), 3) := by decide +kernel
theorem dX9_shift_212 : decode cX9_shift 212 = .ok (.iload 5, 2) := by decide +kernel
theorem dX9_shift_214 : decode cX9_shift 214 = .ok (.ireturn, 1) := by decide +kernel
