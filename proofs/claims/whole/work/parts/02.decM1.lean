theorem dX9_goes_54 : decode cX9_goes 54 = .ok (.getfield 15, 3) := by decide +kernel
theorem dX9_goes_57 : decode cX9_goes 57 = .ok (.iload 4, 2) := by decide +kernel
theorem dX9_goes_59 : decode cX9_goes 59 = .ok (.iconst 1, 1) := by decide +kernel
theorem dX9_goes_60 : decode cX9_goes 60 = .ok (.isub, 1) := by decide +kernel
theorem dX9_goes_61 : decode cX9_goes 61 = .ok (.iaload, 1) := by decide +kernel
theorem dX9_goes_62 : decode cX9_goes 62 = .ok (.iastore, 1) := by decide +kernel
theorem dX9_goes_63 : decode cX9_goes 63 = .ok (.iinc 4 (-1), 3) := by decide +kernel
theorem dX9_goes_66 : decode cX9_goes 66 = .ok (.goto (-25), 3) := by decide +kernel
theorem dX9_goes_69 : decode cX9_goes 69 = .ok (.aload_n 0, 1) := by decide +kernel
theorem dX9_goes_70 : decode cX9_goes 70 = .ok (.getfield 15, 3) := by decide +kernel
theorem dX9_goes_73 : decode cX9_goes 73 = .ok (.iload_n 2, 1) := by decide +kernel
theorem dX9_goes_74 : decode cX9_goes 74 = .ok (.iload_n 3, 1) := by decide +kernel
theorem dX9_goes_75 : decode cX9_goes 75 = .ok (.iastore, 1) := by decide +kernel
theorem dX9_goes_76 : decode cX9_goes 76 = .ok (.return_, 1) := by decide +kernel
theorem dX9_move_0 : decode cX9_move 0 = .ok (.aload_n 0, 1) := by decide +kernel
theorem dX9_move_1 : decode cX9_move 1 = .ok (.iload_n 1, 1) := by decide +kernel
theorem dX9_move_2 : decode cX9_move 2 = .ok (.invokevirtual 111, 3) := by decide +kernel
theorem dX9_move_5 : decode cX9_move 5 = .ok (.ifCond .ne 5, 3) := by decide +kernel
theorem dX9_move_8 : decode cX9_move 8 = .ok (.iconst (-1), 1) := by decide +kernel
theorem dX9_move_9 : decode cX9_move 9 = .ok (.ireturn, 1) := by decide +kernel
theorem dX9_move_10 : decode cX9_move 10 = .ok (.iload_n 2, 1) := by decide +kernel
theorem dX9_move_11 : decode cX9_move 11 = .ok (.iconst 0, 1) := by decide +kernel
theorem dX9_move_12 : decode cX9_move 12 = .ok (.aload_n 0, 1) := by decide +kernel
theorem dX9_move_13 : decode cX9_move 13 = .ok (.getfield 90, 3) := by decide +kernel
theorem dX9_move_16 : decode cX9_move 16 = .ok (.iconst 1, 1) := by decide +kernel
theorem dX9_move_17 : decode cX9_move 17 = .ok (.isub, 1) := by decide +kernel
theorem dX9_move_18 : decode cX9_move 18 = .ok (.invokestatic 93, 3) := by decide +kernel
theorem dX9_move_21 : decode cX9_move 21 = .ok (.ifCond .ne 6, 3) := by decide +kernel
theorem dX9_move_24 : decode cX9_move 24 = .ok (.bipush (-2), 2) := by decide +kernel
theorem dX9_move_26 : decode cX9_move 26 = .ok (.ireturn, 1) := by decide +kernel
theorem dX9_move_27 : decode cX9_move 27 = .ok (.aload_n 0, 1) := by decide +kernel
theorem dX9_move_28 : decode cX9_move 28 = .ok (.iload_n 1, 1) := by decide +kernel
theorem dX9_move_29 : decode cX9_move 29 = .ok (.invokevirtual 124, 3) := by decide +kernel
theorem dX9_move_32 : decode cX9_move 32 = .ok (.istore_n 3, 1) := by decide +kernel
theorem dX9_move_33 : decode cX9_move 33 = .ok (.aload_n 0, 1) := by decide +kernel
theorem dX9_move_34 : decode cX9_move 34 = .ok (.iload_n 3, 1) := by decide +kernel
theorem dX9_move_35 : decode cX9_move 35 = .ok (.iload_n 2, 1) := by decide +kernel
theorem dX9_move_36 : decode cX9_move 36 = .ok (.invokevirtual 178, 3) := by decide +kernel
theorem dX9_move_39 : decode cX9_move 39 = .ok (.iload_n 3, 1) := by decide +kernel
theorem dX9_move_40 : decode cX9_move 40 = .ok (.ireturn, 1) := by decide +kernel
theorem dX9_at_0 : decode cX9_at 0 = .ok (.iload_n 1, 1) := by decide +kernel
theorem dX9_at_1 : decode cX9_at 1 = .ok (.iconst 0, 1) := by decide +kernel
theorem dX9_at_2 : decode cX9_at 2 = .ok (.aload_n 0, 1) := by decide +kernel
theorem dX9_at_3 : decode cX9_at 3 = .ok (.getfield 90, 3) := by decide +kernel
theorem dX9_at_6 : decode cX9_at 6 = .ok (.iconst 1, 1) := by decide +kernel
theorem dX9_at_7 : decode cX9_at 7 = .ok (.isub, 1) := by decide +kernel
theorem dX9_at_8 : decode cX9_at 8 = .ok (.invokestatic 93, 3) := by decide +kernel
theorem dX9_at_11 : decode cX9_at 11 = .ok (.ifCond .eq 12, 3) := by decide +kernel
theorem dX9_at_14 : decode cX9_at 14 = .ok (.aload_n 0, 1) := by decide +kernel
theorem dX9_at_15 : decode cX9_at 15 = .ok (.getfield 15, 3) := by decide +kernel
theorem dX9_at_18 : decode cX9_at 18 = .ok (.iload_n 1, 1) := by decide +kernel
theorem dX9_at_19 : decode cX9_at 19 = .ok (.iaload, 1) := by decide +kernel
theorem dX9_at_20 : decode cX9_at 20 = .ok (.goto 4, 3) := by decide +kernel
theorem dX9_at_23 : decode cX9_at 23 = .ok (.iconst (-1), 1) := by decide +kernel
theorem dX9_at_24 : decode cX9_at 24 = .ok (.ireturn, 1) := by decide +kernel
theorem dX9_all_0 : decode cX9_all 0 = .ok (.aload_n 0, 1) := by decide +kernel
theorem dX9_all_1 : decode cX9_all 1 = .ok (.getfield 90, 3) := by decide +kernel
theorem dX9_all_4 : decode cX9_all 4 = .ok (.bipush 6, 2) := by decide +kernel
theorem dX9_all_6 : decode cX9_all 6 = .ok (.if_icmp .ne 9, 3) := by decide +kernel
theorem dX9_all_9 : decode cX9_all 9 = .ok (.ldc2_w 182, 3) := by decide +kernel
theorem dX9_all_12 : decode cX9_all 12 = .ok (.goto 13, 3) := by decide +kernel
theorem dX9_all_15 : decode cX9_all 15 = .ok (.lconst 1, 1) := by decide +kernel
theorem dX9_all_16 : decode cX9_all 16 = .ok (.iconst 1, 1) := by decide +kernel
theorem dX9_all_17 : decode cX9_all 17 = .ok (.aload_n 0, 1) := by decide +kernel
theorem dX9_all_18 : decode cX9_all 18 = .ok (.getfield 90, 3) := by decide +kernel
theorem dX9_all_21 : decode cX9_all 21 = .ok (.ishl, 1) := by decide +kernel
theorem dX9_all_22 : decode cX9_all 22 = .ok (.lshl, 1) := by decide +kernel
theorem dX9_all_23 : decode cX9_all 23 = .ok (.lconst 1, 1) := by decide +kernel
theorem dX9_all_24 : decode cX9_all 24 = .ok (.lsub, 1) := by decide +kernel
theorem dX9_all_25 : decode cX9_all 25 = .ok (.lreturn, 1) := by decide +kernel
theorem dX9_were_0 : decode cX9_were 0 = .ok (.lconst 0, 1) := by decide +kernel
theorem dX9_were_1 : decode cX9_were 1 = .ok (.lstore 5, 2) := by decide +kernel
theorem dX9_were_3 : decode cX9_were 3 = .ok (.iconst 0, 1) := by decide +kernel
theorem dX9_were_4 : decode cX9_were 4 = .ok (.istore 7, 2) := by decide +kernel
theorem dX9_were_6 : decode cX9_were 6 = .ok (.iload 7, 2) := by decide +kernel
theorem dX9_were_8 : decode cX9_were 8 = .ok (.iconst 1, 1) := by decide +kernel
theorem dX9_were_9 : decode cX9_were 9 = .ok (.aload_n 0, 1) := by decide +kernel
theorem dX9_were_10 : decode cX9_were 10 = .ok (.getfield 90, 3) := by decide +kernel
theorem dX9_were_13 : decode cX9_were 13 = .ok (.ishl, 1) := by decide +kernel
theorem dX9_were_14 : decode cX9_were 14 = .ok (.if_icmp .ge 53, 3) := by decide +kernel
theorem dX9_were_17 : decode cX9_were 17 = .ok (.iload 4, 2) := by decide +kernel
theorem dX9_were_19 : decode cX9_were 19 = .ok (.ifCond .eq 12, 3) := by decide +kernel
theorem dX9_were_22 : decode cX9_were 22 = .ok (.iload 7, 2) := by decide +kernel
theorem dX9_were_24 : decode cX9_were 24 = .ok (.iconst 1, 1) := by decide +kernel
theorem dX9_were_25 : decode cX9_were 25 = .ok (.iload_n 3, 1) := by decide +kernel
theorem dX9_were_26 : decode cX9_were 26 = .ok (.ishl, 1) := by decide +kernel
theorem dX9_were_27 : decode cX9_were 27 = .ok (.ior, 1) := by decide +kernel
theorem dX9_were_28 : decode cX9_were 28 = .ok (.goto 11, 3) := by decide +kernel
theorem dX9_were_31 : decode cX9_were 31 = .ok (.iload 7, 2) := by decide +kernel
theorem dX9_were_33 : decode cX9_were 33 = .ok (.iconst 1, 1) := by decide +kernel
theorem dX9_were_34 : decode cX9_were 34 = .ok (.iload_n 3, 1) := by decide +kernel
theorem dX9_were_35 : decode cX9_were 35 = .ok (.ishl, 1) := by decide +kernel
theorem dX9_were_36 : decode cX9_were 36 = .ok (.iconst (-1), 1) := by decide +kernel
theorem dX9_were_37 : decode cX9_were 37 = .ok (.ixor, 1) := by decide +kernel
theorem dX9_were_38 : decode cX9_were 38 = .ok (.iand, 1) := by decide +kernel
theorem dX9_were_39 : decode cX9_were 39 = .ok (.istore 8, 2) := by decide +kernel
theorem dX9_were_41 : decode cX9_were 41 = .ok (.lload_n 1, 1) := by decide +kernel
theorem dX9_were_42 : decode cX9_were 42 = .ok (.iload 8, 2) := by decide +kernel
theorem dX9_were_44 : decode cX9_were 44 = .ok (.lushr, 1) := by decide +kernel
theorem dX9_were_45 : decode cX9_were 45 = .ok (.lconst 1, 1) := by decide +kernel
theorem dX9_were_46 : decode cX9_were 46 = .ok (.land, 1) := by decide +kernel
theorem dX9_were_47 : decode cX9_were 47 = .ok (.lconst 1, 1) := by decide +kernel
theorem dX9_were_48 : decode cX9_were 48 = .ok (.lcmp, 1) := by decide +kernel
theorem dX9_were_49 : decode cX9_were 49 = .ok (.ifCond .ne 12, 3) := by decide +kernel
theorem dX9_were_52 : decode cX9_were 52 = .ok (.lload 5, 2) := by decide +kernel
theorem dX9_were_54 : decode cX9_were 54 = .ok (.lconst 1, 1) := by decide +kernel
theorem dX9_were_55 : decode cX9_were 55 = .ok (.iload 7, 2) := by decide +kernel
theorem dX9_were_57 : decode cX9_were 57 = .ok (.lshl, 1) := by decide +kernel
theorem dX9_were_58 : decode cX9_were 58 = .ok (.lor, 1) := by decide +kernel
theorem dX9_were_59 : decode cX9_were 59 = .ok (.lstore 5, 2) := by decide +kernel
theorem dX9_were_61 : decode cX9_were 61 = .ok (.iinc 7 1, 3) := by decide +kernel
theorem dX9_were_64 : decode cX9_were 64 = .ok (.goto (-58), 3) := by decide +kernel
theorem dX9_were_67 : decode cX9_were 67 = .ok (.lload 5, 2) := by decide +kernel
theorem dX9_were_69 : decode cX9_were 69 = .ok (.lreturn, 1) := by decide +kernel
theorem dX9_nodeFor_0 : decode cX9_nodeFor 0 = .ok (.lload_n 1, 1) := by decide +kernel
theorem dX9_nodeFor_1 : decode cX9_nodeFor 1 = .ok (.lconst 0, 1) := by decide +kernel
theorem dX9_nodeFor_2 : decode cX9_nodeFor 2 = .ok (.lcmp, 1) := by decide +kernel
theorem dX9_nodeFor_3 : decode cX9_nodeFor 3 = .ok (.ifCond .ne 6, 3) := by decide +kernel
theorem dX9_nodeFor_6 : decode cX9_nodeFor 6 = .ok (.bipush (-6), 2) := by decide +kernel
theorem dX9_nodeFor_8 : decode cX9_nodeFor 8 = .ok (.ireturn, 1) := by decide +kernel
theorem dX9_nodeFor_9 : decode cX9_nodeFor 9 = .ok (.lload_n 1, 1) := by decide +kernel
theorem dX9_nodeFor_10 : decode cX9_nodeFor 10 = .ok (.aload_n 0, 1) := by decide +kernel
theorem dX9_nodeFor_11 : decode cX9_nodeFor 11 = .ok (.invokevirtual 184, 3) := by decide +kernel
theorem dX9_nodeFor_14 : decode cX9_nodeFor 14 = .ok (.lcmp, 1) := by decide +kernel
theorem dX9_nodeFor_15 : decode cX9_nodeFor 15 = .ok (.ifCond .ne 6, 3) := by decide +kernel
theorem dX9_nodeFor_18 : decode cX9_nodeFor 18 = .ok (.bipush (-7), 2) := by decide +kernel
theorem dX9_nodeFor_20 : decode cX9_nodeFor 20 = .ok (.ireturn, 1) := by decide +kernel
theorem dX9_nodeFor_21 : decode cX9_nodeFor 21 = .ok (.iconst 0, 1) := by decide +kernel
theorem dX9_nodeFor_22 : decode cX9_nodeFor 22 = .ok (.istore_n 3, 1) := by decide +kernel
theorem dX9_nodeFor_23 : decode cX9_nodeFor 23 = .ok (.iload_n 3, 1) := by decide +kernel
theorem dX9_nodeFor_24 : decode cX9_nodeFor 24 = .ok (.aload_n 0, 1) := by decide +kernel
theorem dX9_nodeFor_25 : decode cX9_nodeFor 25 = .ok (.getfield 188, 3) := by decide +kernel
theorem dX9_nodeFor_28 : decode cX9_nodeFor 28 = .ok (.if_icmp .ge 22, 3) := by decide +kernel
theorem dX9_nodeFor_31 : decode cX9_nodeFor 31 = .ok (.aload_n 0, 1) := by decide +kernel
theorem dX9_nodeFor_32 : decode cX9_nodeFor 32 = .ok (.getfield 59, 3) := by decide +kernel
theorem dX9_nodeFor_35 : decode cX9_nodeFor 35 = .ok (.iload_n 3, 1) := by decide +kernel
theorem dX9_nodeFor_36 : decode cX9_nodeFor 36 = .ok (.laload, 1) := by decide +kernel
theorem dX9_nodeFor_37 : decode cX9_nodeFor 37 = .ok (.lload_n 1, 1) := by decide +kernel
theorem dX9_nodeFor_38 : decode cX9_nodeFor 38 = .ok (.lcmp, 1) := by decide +kernel
theorem dX9_nodeFor_39 : decode cX9_nodeFor 39 = .ok (.ifCond .ne 5, 3) := by decide +kernel
theorem dX9_nodeFor_42 : decode cX9_nodeFor 42 = .ok (.iload_n 3, 1) := by decide +kernel
theorem dX9_nodeFor_43 : decode cX9_nodeFor 43 = .ok (.ireturn, 1) := by decide +kernel
theorem dX9_nodeFor_44 : decode cX9_nodeFor 44 = .ok (.iinc 3 1, 3) := by decide +kernel
theorem dX9_nodeFor_47 : decode cX9_nodeFor 47 = .ok (.goto (-24), 3) := by decide +kernel
theorem dX9_nodeFor_50 : decode cX9_nodeFor 50 = .ok (.aload_n 0, 1) := by decide +kernel
theorem dX9_nodeFor_51 : decode cX9_nodeFor 51 = .ok (.dup, 1) := by decide +kernel
theorem dX9_nodeFor_52 : decode cX9_nodeFor 52 = .ok (.getfield 188, 3) := by decide +kernel
theorem dX9_nodeFor_55 : decode cX9_nodeFor 55 = .ok (.dup_x1, 1) := by decide +kernel
theorem dX9_nodeFor_56 : decode cX9_nodeFor 56 = .ok (.iconst 1, 1) := by decide +kernel
theorem dX9_nodeFor_57 : decode cX9_nodeFor 57 = .ok (.iadd, 1) := by decide +kernel
theorem dX9_nodeFor_58 : decode cX9_nodeFor 58 = .ok (.putfield 188, 3) := by decide +kernel
theorem dX9_nodeFor_61 : decode cX9_nodeFor 61 = .ok (.istore_n 3, 1) := by decide +kernel
theorem dX9_nodeFor_62 : decode cX9_nodeFor 62 = .ok (.aload_n 0, 1) := by decide +kernel
theorem dX9_nodeFor_63 : decode cX9_nodeFor 63 = .ok (.getfield 59, 3) := by decide +kernel
theorem dX9_nodeFor_66 : decode cX9_nodeFor 66 = .ok (.iload_n 3, 1) := by decide +kernel
theorem dX9_nodeFor_67 : decode cX9_nodeFor 67 = .ok (.lload_n 1, 1) := by decide +kernel
theorem dX9_nodeFor_68 : decode cX9_nodeFor 68 = .ok (.lastore, 1) := by decide +kernel
theorem dX9_nodeFor_69 : decode cX9_nodeFor 69 = .ok (.iconst 0, 1) := by decide +kernel
theorem dX9_nodeFor_70 : decode cX9_nodeFor 70 = .ok (.istore 4, 2) := by decide +kernel
theorem dX9_nodeFor_72 : decode cX9_nodeFor 72 = .ok (.aload_n 0, 1) := by decide +kernel
theorem dX9_nodeFor_73 : decode cX9_nodeFor 73 = .ok (.lload_n 1, 1) := by decide +kernel
theorem dX9_nodeFor_74 : decode cX9_nodeFor 74 = .ok (.aload_n 0, 1) := by decide +kernel
theorem dX9_nodeFor_75 : decode cX9_nodeFor 75 = .ok (.getfield 15, 3) := by decide +kernel
theorem dX9_nodeFor_78 : decode cX9_nodeFor 78 = .ok (.iload 4, 2) := by decide +kernel
theorem dX9_nodeFor_80 : decode cX9_nodeFor 80 = .ok (.iaload, 1) := by decide +kernel
theorem dX9_nodeFor_81 : decode cX9_nodeFor 81 = .ok (.iconst 1, 1) := by decide +kernel
theorem dX9_nodeFor_82 : decode cX9_nodeFor 82 = .ok (.invokevirtual 191, 3) := by decide +kernel
theorem dX9_nodeFor_85 : decode cX9_nodeFor 85 = .ok (.aload_n 0, 1) := by decide +kernel
theorem dX9_nodeFor_86 : decode cX9_nodeFor 86 = .ok (.lload_n 1, 1) := by decide +kernel
theorem dX9_nodeFor_87 : decode cX9_nodeFor 87 = .ok (.aload_n 0, 1) := by decide +kernel
theorem dX9_nodeFor_88 : decode cX9_nodeFor 88 = .ok (.getfield 15, 3) := by decide +kernel
theorem dX9_nodeFor_91 : decode cX9_nodeFor 91 = .ok (.iload 4, 2) := by decide +kernel
theorem dX9_nodeFor_93 : decode cX9_nodeFor 93 = .ok (.iaload, 1) := by decide +kernel
theorem dX9_nodeFor_94 : decode cX9_nodeFor 94 = .ok (.iconst 0, 1) := by decide +kernel
theorem dX9_nodeFor_95 : decode cX9_nodeFor 95 = .ok (.invokevirtual 191, 3) := by decide +kernel
theorem dX9_nodeFor_98 : decode cX9_nodeFor 98 = .ok (.lcmp, 1) := by decide +kernel
theorem dX9_nodeFor_99 : decode cX9_nodeFor 99 = .ok (.ifCond .ne 9, 3) := by decide +kernel
theorem dX9_nodeFor_102 : decode cX9_nodeFor 102 = .ok (.iinc 4 1, 3) := by decide +kernel
theorem dX9_nodeFor_105 : decode cX9_nodeFor 105 = .ok (.goto (-33), 3) := by decide +kernel
theorem dX9_nodeFor_108 : decode cX9_nodeFor 108 = .ok (.aload_n 0, 1) := by decide +kernel
theorem dX9_nodeFor_109 : decode cX9_nodeFor 109 = .ok (.getfield 63, 3) := by decide +kernel
theorem dX9_nodeFor_112 : decode cX9_nodeFor 112 = .ok (.iload_n 3, 1) := by decide +kernel
theorem dX9_nodeFor_113 : decode cX9_nodeFor 113 = .ok (.aload_n 0, 1) := by decide +kernel
theorem dX9_nodeFor_114 : decode cX9_nodeFor 114 = .ok (.getfield 15, 3) := by decide +kernel
theorem dX9_nodeFor_117 : decode cX9_nodeFor 117 = .ok (.iload 4, 2) := by decide +kernel
theorem dX9_nodeFor_119 : decode cX9_nodeFor 119 = .ok (.iaload, 1) := by decide +kernel
theorem dX9_nodeFor_120 : decode cX9_nodeFor 120 = .ok (.iastore, 1) := by decide +kernel
theorem dX9_nodeFor_121 : decode cX9_nodeFor 121 = .ok (.aload_n 0, 1) := by decide +kernel
theorem dX9_nodeFor_122 : decode cX9_nodeFor 122 = .ok (.getfield 66, 3) := by decide +kernel
theorem dX9_nodeFor_125 : decode cX9_nodeFor 125 = .ok (.iload_n 3, 1) := by decide +kernel
theorem dX9_nodeFor_126 : decode cX9_nodeFor 126 = .ok (.aload_n 0, 1) := by decide +kernel
theorem dX9_nodeFor_127 : decode cX9_nodeFor 127 = .ok (.aload_n 0, 1) := by decide +kernel
theorem dX9_nodeFor_128 : decode cX9_nodeFor 128 = .ok (.lload_n 1, 1) := by decide +kernel
theorem dX9_nodeFor_129 : decode cX9_nodeFor 129 = .ok (.aload_n 0, 1) := by decide +kernel
theorem dX9_nodeFor_130 : decode cX9_nodeFor 130 = .ok (.getfield 63, 3) := by decide +kernel
theorem dX9_nodeFor_133 : decode cX9_nodeFor 133 = .ok (.iload_n 3, 1) := by decide +kernel
theorem dX9_nodeFor_134 : decode cX9_nodeFor 134 = .ok (.iaload, 1) := by decide +kernel
theorem dX9_nodeFor_135 : decode cX9_nodeFor 135 = .ok (.iconst 0, 1) := by decide +kernel
theorem dX9_nodeFor_136 : decode cX9_nodeFor 136 = .ok (.invokevirtual 191, 3) := by decide +kernel
theorem dX9_nodeFor_139 : decode cX9_nodeFor 139 = .ok (.invokevirtual 195, 3) := by decide +kernel
theorem dX9_nodeFor_142 : decode cX9_nodeFor 142 = .ok (.iastore, 1) := by decide +kernel
theorem dX9_nodeFor_143 : decode cX9_nodeFor 143 = .ok (.aload_n 0, 1) := by decide +kernel
theorem dX9_nodeFor_144 : decode cX9_nodeFor 144 = .ok (.getfield 69, 3) := by decide +kernel
theorem dX9_nodeFor_147 : decode cX9_nodeFor 147 = .ok (.iload_n 3, 1) := by decide +kernel
theorem dX9_nodeFor_148 : decode cX9_nodeFor 148 = .ok (.aload_n 0, 1) := by decide +kernel
theorem dX9_nodeFor_149 : decode cX9_nodeFor 149 = .ok (.aload_n 0, 1) := by decide +kernel
theorem dX9_nodeFor_150 : decode cX9_nodeFor 150 = .ok (.lload_n 1, 1) := by decide +kernel
theorem dX9_nodeFor_151 : decode cX9_nodeFor 151 = .ok (.aload_n 0, 1) := by decide +kernel
theorem dX9_nodeFor_152 : decode cX9_nodeFor 152 = .ok (.getfield 63, 3) := by decide +kernel
theorem dX9_nodeFor_155 : decode cX9_nodeFor 155 = .ok (.iload_n 3, 1) := by decide +kernel
theorem dX9_nodeFor_156 : decode cX9_nodeFor 156 = .ok (.iaload, 1) := by decide +kernel
theorem dX9_nodeFor_157 : decode cX9_nodeFor 157 = .ok (.iconst 1, 1) := by decide +kernel
theorem dX9_nodeFor_158 : decode cX9_nodeFor 158 = .ok (.invokevirtual 191, 3) := by decide +kernel
theorem dX9_nodeFor_161 : decode cX9_nodeFor 161 = .ok (.invokevirtual 195, 3) := by decide +kernel
theorem dX9_nodeFor_164 : decode cX9_nodeFor 164 = .ok (.iastore, 1) := by decide +kernel
theorem dX9_nodeFor_165 : decode cX9_nodeFor 165 = .ok (.iload_n 3, 1) := by decide +kernel
theorem dX9_nodeFor_166 : decode cX9_nodeFor 166 = .ok (.ireturn, 1) := by decide +kernel
theorem dX9_draws_0 : decode cX9_draws 0 = .ok (.lconst 0, 1) := by decide +kernel
theorem dX9_draws_1 : decode cX9_draws 1 = .ok (.lstore_n 1, 1) := by decide +kernel
theorem dX9_draws_2 : decode cX9_draws 2 = .ok (.iconst 0, 1) := by decide +kernel
theorem dX9_draws_3 : decode cX9_draws 3 = .ok (.istore_n 3, 1) := by decide +kernel
theorem dX9_draws_4 : decode cX9_draws 4 = .ok (.iload_n 3, 1) := by decide +kernel
theorem dX9_draws_5 : decode cX9_draws 5 = .ok (.iconst 1, 1) := by decide +kernel
theorem dX9_draws_6 : decode cX9_draws 6 = .ok (.aload_n 0, 1) := by decide +kernel
theorem dX9_draws_7 : decode cX9_draws 7 = .ok (.getfield 90, 3) := by decide +kernel
theorem dX9_draws_10 : decode cX9_draws 10 = .ok (.ishl, 1) := by decide +kernel
theorem dX9_draws_11 : decode cX9_draws 11 = .ok (.if_icmp .ge 23, 3) := by decide +kernel
theorem dX9_draws_14 : decode cX9_draws 14 = .ok (.aload_n 0, 1) := by decide +kernel
theorem dX9_draws_15 : decode cX9_draws 15 = .ok (.iload_n 3, 1) := by decide +kernel
theorem dX9_draws_16 : decode cX9_draws 16 = .ok (.invokevirtual 199, 3) := by decide +kernel
theorem dX9_draws_19 : decode cX9_draws 19 = .ok (.ifCond .eq 9, 3) := by decide +kernel
theorem dX9_draws_22 : decode cX9_draws 22 = .ok (.lload_n 1, 1) := by decide +kernel
theorem dX9_draws_23 : decode cX9_draws 23 = .ok (.lconst 1, 1) := by decide +kernel
theorem dX9_draws_24 : decode cX9_draws 24 = .ok (.iload_n 3, 1) := by decide +kernel
theorem dX9_draws_25 : decode cX9_draws 25 = .ok (.lshl, 1) := by decide +kernel
theorem dX9_draws_26 : decode cX9_draws 26 = .ok (.lor, 1) := by decide +kernel
theorem dX9_draws_27 : decode cX9_draws 27 = .ok (.lstore_n 1, 1) := by decide +kernel
theorem dX9_draws_28 : decode cX9_draws 28 = .ok (.iinc 3 1, 3) := by decide +kernel
theorem dX9_draws_31 : decode cX9_draws 31 = .ok (.goto (-27), 3) := by decide +kernel
theorem dX9_draws_34 : decode cX9_draws 34 = .ok (.aload_n 0, 1) := by decide +kernel
theorem dX9_draws_35 : decode cX9_draws 35 = .ok (.iconst 0, 1) := by decide +kernel
theorem dX9_draws_36 : decode cX9_draws 36 = .ok (.putfield 188, 3) := by decide +kernel
theorem dX9_draws_39 : decode cX9_draws 39 = .ok (.aload_n 0, 1) := by decide +kernel
theorem dX9_draws_40 : decode cX9_draws 40 = .ok (.lload_n 1, 1) := by decide +kernel
theorem dX9_draws_41 : decode cX9_draws 41 = .ok (.invokevirtual 195, 3) := by decide +kernel
theorem dX9_draws_44 : decode cX9_draws 44 = .ok (.ireturn, 1) := by decide +kernel
theorem dX9_sift_0 : decode cX9_sift 0 = .ok (.aload_n 0, 1) := by decide +kernel
theorem dX9_sift_1 : decode cX9_sift 1 = .ok (.iload_n 1, 1) := by decide +kernel
theorem dX9_sift_2 : decode cX9_sift 2 = .ok (.invokevirtual 111, 3) := by decide +kernel
theorem dX9_sift_5 : decode cX9_sift 5 = .ok (.ifCond .ne 5, 3) := by decide +kernel
theorem dX9_sift_8 : decode cX9_sift 8 = .ok (.iconst (-1), 1) := by decide +kernel
theorem dX9_sift_9 : decode cX9_sift 9 = .ok (.ireturn, 1) := by decide +kernel
theorem dX9_sift_10 : decode cX9_sift 10 = .ok (.aload_n 0, 1) := by decide +kernel
theorem dX9_sift_11 : decode cX9_sift 11 = .ok (.getfield 97, 3) := by decide +kernel
theorem dX9_sift_14 : decode cX9_sift 14 = .ok (.ifCond .ne 6, 3) := by decide +kernel
theorem dX9_sift_17 : decode cX9_sift 17 = .ok (.bipush (-3), 2) := by decide +kernel
theorem dX9_sift_19 : decode cX9_sift 19 = .ok (.ireturn, 1) := by decide +kernel
theorem dX9_sift_20 : decode cX9_sift 20 = .ok (.iconst 0, 1) := by decide +kernel
theorem dX9_sift_21 : decode cX9_sift 21 = .ok (.istore_n 2, 1) := by decide +kernel
theorem dX9_sift_22 : decode cX9_sift 22 = .ok (.bipush 64, 2) := by decide +kernel
theorem dX9_sift_24 : decode cX9_sift 24 = .ok (.istore_n 3, 1) := by decide +kernel
theorem dX9_sift_25 : decode cX9_sift 25 = .ok (.iconst 0, 1) := by decide +kernel
theorem dX9_sift_26 : decode cX9_sift 26 = .ok (.istore 4, 2) := by decide +kernel
theorem dX9_sift_28 : decode cX9_sift 28 = .ok (.iload 4, 2) := by decide +kernel
theorem dX9_sift_30 : decode cX9_sift 30 = .ok (.aload_n 0, 1) := by decide +kernel
theorem dX9_sift_31 : decode cX9_sift 31 = .ok (.getfield 90, 3) := by decide +kernel
theorem dX9_sift_34 : decode cX9_sift 34 = .ok (.if_icmp .ge 44, 3) := by decide +kernel
theorem dX9_sift_37 : decode cX9_sift 37 = .ok (.aload_n 0, 1) := by decide +kernel
theorem dX9_sift_38 : decode cX9_sift 38 = .ok (.aload_n 0, 1) := by decide +kernel
theorem dX9_sift_39 : decode cX9_sift 39 = .ok (.iload_n 1, 1) := by decide +kernel
theorem dX9_sift_40 : decode cX9_sift 40 = .ok (.invokevirtual 124, 3) := by decide +kernel
theorem dX9_sift_43 : decode cX9_sift 43 = .ok (.iload 4, 2) := by decide +kernel
theorem dX9_sift_45 : decode cX9_sift 45 = .ok (.invokevirtual 178, 3) := by decide +kernel
theorem dX9_sift_48 : decode cX9_sift 48 = .ok (.aload_n 0, 1) := by decide +kernel
theorem dX9_sift_49 : decode cX9_sift 49 = .ok (.invokevirtual 202, 3) := by decide +kernel
theorem dX9_sift_52 : decode cX9_sift 52 = .ok (.pop, 1) := by decide +kernel
theorem dX9_sift_53 : decode cX9_sift 53 = .ok (.aload_n 0, 1) := by decide +kernel
theorem dX9_sift_54 : decode cX9_sift 54 = .ok (.getfield 188, 3) := by decide +kernel
theorem dX9_sift_57 : decode cX9_sift 57 = .ok (.iload_n 3, 1) := by decide +kernel
theorem dX9_sift_58 : decode cX9_sift 58 = .ok (.if_icmp .lt 6, 3) := by decide +kernel
theorem dX9_sift_61 : decode cX9_sift 61 = .ok (.goto 11, 3) := by decide +kernel
theorem dX9_sift_64 : decode cX9_sift 64 = .ok (.aload_n 0, 1) := by decide +kernel
theorem dX9_sift_65 : decode cX9_sift 65 = .ok (.getfield 188, 3) := by decide +kernel
theorem dX9_sift_68 : decode cX9_sift 68 = .ok (.istore_n 3, 1) := by decide +kernel
theorem dX9_sift_69 : decode cX9_sift 69 = .ok (.iload 4, 2) := by decide +kernel
theorem dX9_sift_71 : decode cX9_sift 71 = .ok (.istore_n 2, 1) := by decide +kernel
theorem dX9_sift_72 : decode cX9_sift 72 = .ok (.iinc 4 1, 3) := by decide +kernel
theorem dX9_sift_75 : decode cX9_sift 75 = .ok (.goto (-47), 3) := by decide +kernel
theorem dX9_sift_78 : decode cX9_sift 78 = .ok (.aload_n 0, 1) := by decide +kernel
theorem dX9_sift_79 : decode cX9_sift 79 = .ok (.aload_n 0, 1) := by decide +kernel
theorem dX9_sift_80 : decode cX9_sift 80 = .ok (.iload_n 1, 1) := by decide +kernel
theorem dX9_sift_81 : decode cX9_sift 81 = .ok (.invokevirtual 124, 3) := by decide +kernel
theorem dX9_sift_84 : decode cX9_sift 84 = .ok (.iload_n 2, 1) := by decide +kernel
theorem dX9_sift_85 : decode cX9_sift 85 = .ok (.invokevirtual 178, 3) := by decide +kernel
theorem dX9_sift_88 : decode cX9_sift 88 = .ok (.iload_n 2, 1) := by decide +kernel
theorem dX9_sift_89 : decode cX9_sift 89 = .ok (.ireturn, 1) := by decide +kernel
theorem dX9_node_0 : decode cX9_node 0 = .ok (.aload_n 0, 1) := by decide +kernel
theorem dX9_node_1 : decode cX9_node 1 = .ok (.getfield 97, 3) := by decide +kernel
theorem dX9_node_4 : decode cX9_node 4 = .ok (.ifCond .ne 6, 3) := by decide +kernel
theorem dX9_node_7 : decode cX9_node 7 = .ok (.bipush (-3), 2) := by decide +kernel
theorem dX9_node_9 : decode cX9_node 9 = .ok (.ireturn, 1) := by decide +kernel
theorem dX9_node_10 : decode cX9_node 10 = .ok (.aload_n 0, 1) := by decide +kernel
theorem dX9_node_11 : decode cX9_node 11 = .ok (.invokevirtual 202, 3) := by decide +kernel
theorem dX9_node_14 : decode cX9_node 14 = .ok (.pop, 1) := by decide +kernel
theorem dX9_node_15 : decode cX9_node 15 = .ok (.iload_n 1, 1) := by decide +kernel
theorem dX9_node_16 : decode cX9_node 16 = .ok (.iconst 0, 1) := by decide +kernel
theorem dX9_node_17 : decode cX9_node 17 = .ok (.aload_n 0, 1) := by decide +kernel
theorem dX9_node_18 : decode cX9_node 18 = .ok (.getfield 188, 3) := by decide +kernel
theorem dX9_node_21 : decode cX9_node 21 = .ok (.iconst 1, 1) := by decide +kernel
theorem dX9_node_22 : decode cX9_node 22 = .ok (.isub, 1) := by decide +kernel
theorem dX9_node_23 : decode cX9_node 23 = .ok (.invokestatic 93, 3) := by decide +kernel
theorem dX9_node_26 : decode cX9_node 26 = .ok (.ifCond .ne 5, 3) := by decide +kernel
theorem dX9_node_29 : decode cX9_node 29 = .ok (.iconst (-1), 1) := by decide +kernel
theorem dX9_node_30 : decode cX9_node 30 = .ok (.ireturn, 1) := by decide +kernel
theorem dX9_node_31 : decode cX9_node 31 = .ok (.iload_n 2, 1) := by decide +kernel
theorem dX9_node_32 : decode cX9_node 32 = .ok (.tableswitch 49 0 2 #[28, 35, 42], 28) := by decide +kernel
theorem dX9_node_60 : decode cX9_node 60 = .ok (.aload_n 0, 1) := by decide +kernel
theorem dX9_node_61 : decode cX9_node 61 = .ok (.getfield 63, 3) := by decide +kernel
theorem dX9_node_64 : decode cX9_node 64 = .ok (.iload_n 1, 1) := by decide +kernel
theorem dX9_node_65 : decode cX9_node 65 = .ok (.iaload, 1) := by decide +kernel
theorem dX9_node_66 : decode cX9_node 66 = .ok (.ireturn, 1) := by decide +kernel
theorem dX9_node_67 : decode cX9_node 67 = .ok (.aload_n 0, 1) := by decide +kernel
theorem dX9_node_68 : decode cX9_node 68 = .ok (.getfield 66, 3) := by decide +kernel
theorem dX9_node_71 : decode cX9_node 71 = .ok (.iload_n 1, 1) := by decide +kernel
theorem dX9_node_72 : decode cX9_node 72 = .ok (.iaload, 1) := by decide +kernel
theorem dX9_node_73 : decode cX9_node 73 = .ok (.ireturn, 1) := by decide +kernel
theorem dX9_node_74 : decode cX9_node 74 = .ok (.aload_n 0, 1) := by decide +kernel
theorem dX9_node_75 : decode cX9_node 75 = .ok (.getfield 69, 3) := by decide +kernel
theorem dX9_node_78 : decode cX9_node 78 = .ok (.iload_n 1, 1) := by decide +kernel
theorem dX9_node_79 : decode cX9_node 79 = .ok (.iaload, 1) := by decide +kernel
theorem dX9_node_80 : decode cX9_node 80 = .ok (.ireturn, 1) := by decide +kernel
theorem dX9_node_81 : decode cX9_node 81 = .ok (.iconst (-1), 1) := by decide +kernel
theorem dX9_node_82 : decode cX9_node 82 = .ok (.ireturn, 1) := by decide +kernel
theorem dX9_many_0 : decode cX9_many 0 = .ok (.iconst 0, 1) := by decide +kernel
theorem dX9_many_1 : decode cX9_many 1 = .ok (.istore_n 1, 1) := by decide +kernel
theorem dX9_many_2 : decode cX9_many 2 = .ok (.iload_n 0, 1) := by decide +kernel
theorem dX9_many_3 : decode cX9_many 3 = .ok (.istore_n 2, 1) := by decide +kernel
theorem dX9_many_4 : decode cX9_many 4 = .ok (.iload_n 2, 1) := by decide +kernel
theorem dX9_many_5 : decode cX9_many 5 = .ok (.ifCond .le 16, 3) := by decide +kernel
theorem dX9_many_8 : decode cX9_many 8 = .ok (.iload_n 1, 1) := by decide +kernel
theorem dX9_many_9 : decode cX9_many 9 = .ok (.iload_n 2, 1) := by decide +kernel
theorem dX9_many_10 : decode cX9_many 10 = .ok (.iconst 2, 1) := by decide +kernel
theorem dX9_many_11 : decode cX9_many 11 = .ok (.irem, 1) := by decide +kernel
theorem dX9_many_12 : decode cX9_many 12 = .ok (.iadd, 1) := by decide +kernel
theorem dX9_many_13 : decode cX9_many 13 = .ok (.istore_n 1, 1) := by decide +kernel
theorem dX9_many_14 : decode cX9_many 14 = .ok (.iload_n 2, 1) := by decide +kernel
theorem dX9_many_15 : decode cX9_many 15 = .ok (.iconst 2, 1) := by decide +kernel
theorem dX9_many_16 : decode cX9_many 16 = .ok (.idiv, 1) := by decide +kernel
theorem dX9_many_17 : decode cX9_many 17 = .ok (.istore_n 2, 1) := by decide +kernel
theorem dX9_many_18 : decode cX9_many 18 = .ok (.goto (-14), 3) := by decide +kernel
theorem dX9_many_21 : decode cX9_many 21 = .ok (.iload_n 1, 1) := by decide +kernel
theorem dX9_many_22 : decode cX9_many 22 = .ok (.ireturn, 1) := by decide +kernel
theorem dX9_isOne_0 : decode cX9_isOne 0 = .ok (.iload_n 2, 1) := by decide +kernel
theorem dX9_isOne_1 : decode cX9_isOne 1 = .ok (.ifCond .eq 11, 3) := by decide +kernel
theorem dX9_isOne_4 : decode cX9_isOne 4 = .ok (.aload_n 0, 1) := by decide +kernel
theorem dX9_isOne_5 : decode cX9_isOne 5 = .ok (.iload_n 1, 1) := by decide +kernel
theorem dX9_isOne_6 : decode cX9_isOne 6 = .ok (.invokevirtual 199, 3) := by decide +kernel
theorem dX9_isOne_9 : decode cX9_isOne 9 = .ok (.goto 27, 3) := by decide +kernel
theorem dX9_isOne_12 : decode cX9_isOne 12 = .ok (.aload_n 0, 1) := by decide +kernel
theorem dX9_isOne_13 : decode cX9_isOne 13 = .ok (.iconst 1, 1) := by decide +kernel
theorem dX9_isOne_14 : decode cX9_isOne 14 = .ok (.aload_n 0, 1) := by decide +kernel
theorem dX9_isOne_15 : decode cX9_isOne 15 = .ok (.getfield 90, 3) := by decide +kernel
theorem dX9_isOne_18 : decode cX9_isOne 18 = .ok (.ishl, 1) := by decide +kernel
theorem dX9_isOne_19 : decode cX9_isOne 19 = .ok (.iconst 1, 1) := by decide +kernel
theorem dX9_isOne_20 : decode cX9_isOne 20 = .ok (.isub, 1) := by decide +kernel
theorem dX9_isOne_21 : decode cX9_isOne 21 = .ok (.iload_n 1, 1) := by decide +kernel
theorem dX9_isOne_22 : decode cX9_isOne 22 = .ok (.iconst (-1), 1) := by decide +kernel
theorem dX9_isOne_23 : decode cX9_isOne 23 = .ok (.ixor, 1) := by decide +kernel
theorem dX9_isOne_24 : decode cX9_isOne 24 = .ok (.iand, 1) := by decide +kernel
theorem dX9_isOne_25 : decode cX9_isOne 25 = .ok (.invokevirtual 199, 3) := by decide +kernel
theorem dX9_isOne_28 : decode cX9_isOne 28 = .ok (.ifCond .ne 7, 3) := by decide +kernel
theorem dX9_isOne_31 : decode cX9_isOne 31 = .ok (.iconst 1, 1) := by decide +kernel
theorem dX9_isOne_32 : decode cX9_isOne 32 = .ok (.goto 4, 3) := by decide +kernel
theorem dX9_isOne_35 : decode cX9_isOne 35 = .ok (.iconst 0, 1) := by decide +kernel
theorem dX9_isOne_36 : decode cX9_isOne 36 = .ok (.ireturn, 1) := by decide +kernel
theorem dX9_isLeast_0 : decode cX9_isLeast 0 = .ok (.aload_n 0, 1) := by decide +kernel
theorem dX9_isLeast_1 : decode cX9_isLeast 1 = .ok (.iload_n 1, 1) := by decide +kernel
theorem dX9_isLeast_2 : decode cX9_isLeast 2 = .ok (.iload_n 2, 1) := by decide +kernel
theorem dX9_isLeast_3 : decode cX9_isLeast 3 = .ok (.invokevirtual 205, 3) := by decide +kernel
theorem dX9_isLeast_6 : decode cX9_isLeast 6 = .ok (.ifCond .ne 5, 3) := by decide +kernel
theorem dX9_isLeast_9 : decode cX9_isLeast 9 = .ok (.iconst 0, 1) := by decide +kernel
theorem dX9_isLeast_10 : decode cX9_isLeast 10 = .ok (.ireturn, 1) := by decide +kernel
theorem dX9_isLeast_11 : decode cX9_isLeast 11 = .ok (.iconst 0, 1) := by decide +kernel
theorem dX9_isLeast_12 : decode cX9_isLeast 12 = .ok (.istore_n 3, 1) := by decide +kernel
theorem dX9_isLeast_13 : decode cX9_isLeast 13 = .ok (.iload_n 3, 1) := by decide +kernel
theorem dX9_isLeast_14 : decode cX9_isLeast 14 = .ok (.aload_n 0, 1) := by decide +kernel
theorem dX9_isLeast_15 : decode cX9_isLeast 15 = .ok (.getfield 90, 3) := by decide +kernel
theorem dX9_isLeast_18 : decode cX9_isLeast 18 = .ok (.if_icmp .ge 35, 3) := by decide +kernel
theorem dX9_isLeast_21 : decode cX9_isLeast 21 = .ok (.iload_n 1, 1) := by decide +kernel
theorem dX9_isLeast_22 : decode cX9_isLeast 22 = .ok (.iload_n 3, 1) := by decide +kernel
theorem dX9_isLeast_23 : decode cX9_isLeast 23 = .ok (.ishr, 1) := by decide +kernel
theorem dX9_isLeast_24 : decode cX9_isLeast 24 = .ok (.iconst 1, 1) := by decide +kernel
theorem dX9_isLeast_25 : decode cX9_isLeast 25 = .ok (.iand, 1) := by decide +kernel
theorem dX9_isLeast_26 : decode cX9_isLeast 26 = .ok (.iconst 1, 1) := by decide +kernel
theorem dX9_isLeast_27 : decode cX9_isLeast 27 = .ok (.if_icmp .ne 20, 3) := by decide +kernel
theorem dX9_isLeast_30 : decode cX9_isLeast 30 = .ok (.aload_n 0, 1) := by decide +kernel
theorem dX9_isLeast_31 : decode cX9_isLeast 31 = .ok (.iload_n 1, 1) := by decide +kernel
theorem dX9_isLeast_32 : decode cX9_isLeast 32 = .ok (.iconst 1, 1) := by decide +kernel
theorem dX9_isLeast_33 : decode cX9_isLeast 33 = .ok (.iload_n 3, 1) := by decide +kernel
theorem dX9_isLeast_34 : decode cX9_isLeast 34 = .ok (.ishl, 1) := by decide +kernel
theorem dX9_isLeast_35 : decode cX9_isLeast 35 = .ok (.iconst (-1), 1) := by decide +kernel
theorem dX9_isLeast_36 : decode cX9_isLeast 36 = .ok (.ixor, 1) := by decide +kernel
theorem dX9_isLeast_37 : decode cX9_isLeast 37 = .ok (.iand, 1) := by decide +kernel
theorem dX9_isLeast_38 : decode cX9_isLeast 38 = .ok (.iload_n 2, 1) := by decide +kernel
theorem dX9_isLeast_39 : decode cX9_isLeast 39 = .ok (.invokevirtual 205, 3) := by decide +kernel
theorem dX9_isLeast_42 : decode cX9_isLeast 42 = .ok (.ifCond .eq 5, 3) := by decide +kernel
theorem dX9_isLeast_45 : decode cX9_isLeast 45 = .ok (.iconst 0, 1) := by decide +kernel
theorem dX9_isLeast_46 : decode cX9_isLeast 46 = .ok (.ireturn, 1) := by decide +kernel
theorem dX9_isLeast_47 : decode cX9_isLeast 47 = .ok (.iinc 3 1, 3) := by decide +kernel
theorem dX9_isLeast_50 : decode cX9_isLeast 50 = .ok (.goto (-37), 3) := by decide +kernel
theorem dX9_isLeast_53 : decode cX9_isLeast 53 = .ok (.iconst 1, 1) := by decide +kernel
theorem dX9_isLeast_54 : decode cX9_isLeast 54 = .ok (.ireturn, 1) := by decide +kernel
theorem dX9_sets_0 : decode cX9_sets 0 = .ok (.aload_n 0, 1) := by decide +kernel
theorem dX9_sets_1 : decode cX9_sets 1 = .ok (.iconst 0, 1) := by decide +kernel
theorem dX9_sets_2 : decode cX9_sets 2 = .ok (.putfield 209, 3) := by decide +kernel
theorem dX9_sets_5 : decode cX9_sets 5 = .ok (.iconst 0, 1) := by decide +kernel
theorem dX9_sets_6 : decode cX9_sets 6 = .ok (.istore_n 2, 1) := by decide +kernel
theorem dX9_sets_7 : decode cX9_sets 7 = .ok (.iload_n 2, 1) := by decide +kernel
theorem dX9_sets_8 : decode cX9_sets 8 = .ok (.aload_n 0, 1) := by decide +kernel
theorem dX9_sets_9 : decode cX9_sets 9 = .ok (.getfield 90, 3) := by decide +kernel
theorem dX9_sets_12 : decode cX9_sets 12 = .ok (.if_icmp .gt 61, 3) := by decide +kernel
theorem dX9_sets_15 : decode cX9_sets 15 = .ok (.iconst 0, 1) := by decide +kernel
theorem dX9_sets_16 : decode cX9_sets 16 = .ok (.istore_n 3, 1) := by decide +kernel
theorem dX9_sets_17 : decode cX9_sets 17 = .ok (.iload_n 3, 1) := by decide +kernel
theorem dX9_sets_18 : decode cX9_sets 18 = .ok (.iconst 1, 1) := by decide +kernel
theorem dX9_sets_19 : decode cX9_sets 19 = .ok (.aload_n 0, 1) := by decide +kernel
theorem dX9_sets_20 : decode cX9_sets 20 = .ok (.getfield 90, 3) := by decide +kernel
theorem dX9_sets_23 : decode cX9_sets 23 = .ok (.ishl, 1) := by decide +kernel
theorem dX9_sets_24 : decode cX9_sets 24 = .ok (.if_icmp .ge 43, 3) := by decide +kernel
theorem dX9_sets_27 : decode cX9_sets 27 = .ok (.iload_n 3, 1) := by decide +kernel
theorem dX9_sets_28 : decode cX9_sets 28 = .ok (.invokestatic 212, 3) := by decide +kernel
theorem dX9_sets_31 : decode cX9_sets 31 = .ok (.iload_n 2, 1) := by decide +kernel
theorem dX9_sets_32 : decode cX9_sets 32 = .ok (.if_icmp .ne 29, 3) := by decide +kernel
theorem dX9_sets_35 : decode cX9_sets 35 = .ok (.aload_n 0, 1) := by decide +kernel
theorem dX9_sets_36 : decode cX9_sets 36 = .ok (.iload_n 3, 1) := by decide +kernel
theorem dX9_sets_37 : decode cX9_sets 37 = .ok (.iload_n 1, 1) := by decide +kernel
theorem dX9_sets_38 : decode cX9_sets 38 = .ok (.invokevirtual 215, 3) := by decide +kernel
theorem dX9_sets_41 : decode cX9_sets 41 = .ok (.ifCond .eq 20, 3) := by decide +kernel
theorem dX9_sets_44 : decode cX9_sets 44 = .ok (.aload_n 0, 1) := by decide +kernel
theorem dX9_sets_45 : decode cX9_sets 45 = .ok (.getfield 72, 3) := by decide +kernel
theorem dX9_sets_48 : decode cX9_sets 48 = .ok (.aload_n 0, 1) := by decide +kernel
theorem dX9_sets_49 : decode cX9_sets 49 = .ok (.dup, 1) := by decide +kernel
theorem dX9_sets_50 : decode cX9_sets 50 = .ok (.getfield 209, 3) := by decide +kernel
theorem dX9_sets_53 : decode cX9_sets 53 = .ok (.dup_x1, 1) := by decide +kernel
theorem dX9_sets_54 : decode cX9_sets 54 = .ok (.iconst 1, 1) := by decide +kernel
theorem dX9_sets_55 : decode cX9_sets 55 = .ok (.iadd, 1) := by decide +kernel
theorem dX9_sets_56 : decode cX9_sets 56 = .ok (.putfield 209, 3) := by decide +kernel
theorem dX9_sets_59 : decode cX9_sets 59 = .ok (.iload_n 3, 1) := by decide +kernel
theorem dX9_sets_60 : decode cX9_sets 60 = .ok (.iastore, 1) := by decide +kernel
theorem dX9_sets_61 : decode cX9_sets 61 = .ok (.iinc 3 1, 3) := by decide +kernel
theorem dX9_sets_64 : decode cX9_sets 64 = .ok (.goto (-47), 3) := by decide +kernel
theorem dX9_sets_67 : decode cX9_sets 67 = .ok (.iinc 2 1, 3) := by decide +kernel
theorem dX9_sets_70 : decode cX9_sets 70 = .ok (.goto (-63), 3) := by decide +kernel
theorem dX9_sets_73 : decode cX9_sets 73 = .ok (.return_, 1) := by decide +kernel
theorem dX9_setAt_0 : decode cX9_setAt 0 = .ok (.aload_n 0, 1) := by decide +kernel
theorem dX9_setAt_1 : decode cX9_setAt 1 = .ok (.getfield 97, 3) := by decide +kernel
theorem dX9_setAt_4 : decode cX9_setAt 4 = .ok (.ifCond .ne 6, 3) := by decide +kernel
theorem dX9_setAt_7 : decode cX9_setAt 7 = .ok (.bipush (-3), 2) := by decide +kernel
theorem dX9_setAt_9 : decode cX9_setAt 9 = .ok (.ireturn, 1) := by decide +kernel
theorem dX9_setAt_10 : decode cX9_setAt 10 = .ok (.aload_n 0, 1) := by decide +kernel
theorem dX9_setAt_11 : decode cX9_setAt 11 = .ok (.iload_n 2, 1) := by decide +kernel
theorem dX9_setAt_12 : decode cX9_setAt 12 = .ok (.invokevirtual 218, 3) := by decide +kernel
theorem dX9_setAt_15 : decode cX9_setAt 15 = .ok (.iload_n 1, 1) := by decide +kernel
theorem dX9_setAt_16 : decode cX9_setAt 16 = .ok (.iconst 0, 1) := by decide +kernel
theorem dX9_setAt_17 : decode cX9_setAt 17 = .ok (.aload_n 0, 1) := by decide +kernel
theorem dX9_setAt_18 : decode cX9_setAt 18 = .ok (.getfield 209, 3) := by decide +kernel
theorem dX9_setAt_21 : decode cX9_setAt 21 = .ok (.iconst 1, 1) := by decide +kernel
theorem dX9_setAt_22 : decode cX9_setAt 22 = .ok (.isub, 1) := by decide +kernel
theorem dX9_setAt_23 : decode cX9_setAt 23 = .ok (.invokestatic 93, 3) := by decide +kernel
theorem dX9_setAt_26 : decode cX9_setAt 26 = .ok (.ifCond .eq 12, 3) := by decide +kernel
theorem dX9_setAt_29 : decode cX9_setAt 29 = .ok (.aload_n 0, 1) := by decide +kernel
theorem dX9_setAt_30 : decode cX9_setAt 30 = .ok (.getfield 72, 3) := by decide +kernel
theorem dX9_setAt_33 : decode cX9_setAt 33 = .ok (.iload_n 1, 1) := by decide +kernel
theorem dX9_setAt_34 : decode cX9_setAt 34 = .ok (.iaload, 1) := by decide +kernel
theorem dX9_setAt_35 : decode cX9_setAt 35 = .ok (.goto 4, 3) := by decide +kernel
theorem dX9_setAt_38 : decode cX9_setAt 38 = .ok (.iconst (-1), 1) := by decide +kernel
theorem dX9_setAt_39 : decode cX9_setAt 39 = .ok (.ireturn, 1) := by decide +kernel
theorem dX9_cut_0 : decode cX9_cut 0 = .ok (.aload_n 0, 1) := by decide +kernel
theorem dX9_cut_1 : decode cX9_cut 1 = .ok (.iload_n 1, 1) := by decide +kernel
theorem dX9_cut_2 : decode cX9_cut 2 = .ok (.iconst 1, 1) := by decide +kernel
theorem dX9_cut_3 : decode cX9_cut 3 = .ok (.invokevirtual 221, 3) := by decide +kernel
theorem dX9_cut_6 : decode cX9_cut 6 = .ok (.ireturn, 1) := by decide +kernel
theorem dX9_path_0 : decode cX9_path 0 = .ok (.aload_n 0, 1) := by decide +kernel
theorem dX9_path_1 : decode cX9_path 1 = .ok (.iload_n 1, 1) := by decide +kernel
theorem dX9_path_2 : decode cX9_path 2 = .ok (.iconst 0, 1) := by decide +kernel
theorem dX9_path_3 : decode cX9_path 3 = .ok (.invokevirtual 221, 3) := by decide +kernel
theorem dX9_path_6 : decode cX9_path 6 = .ok (.ireturn, 1) := by decide +kernel
theorem dX9_alone_0 : decode cX9_alone 0 = .ok (.lconst 1, 1) := by decide +kernel
theorem dX9_alone_1 : decode cX9_alone 1 = .ok (.lstore_n 2, 1) := by decide +kernel
theorem dX9_alone_2 : decode cX9_alone 2 = .ok (.iconst 0, 1) := by decide +kernel
theorem dX9_alone_3 : decode cX9_alone 3 = .ok (.istore 4, 2) := by decide +kernel
theorem dX9_alone_5 : decode cX9_alone 5 = .ok (.iload 4, 2) := by decide +kernel
theorem dX9_alone_7 : decode cX9_alone 7 = .ok (.aload_n 0, 1) := by decide +kernel
theorem dX9_alone_8 : decode cX9_alone 8 = .ok (.getfield 90, 3) := by decide +kernel
theorem dX9_alone_11 : decode cX9_alone 11 = .ok (.if_icmp .ge 44, 3) := by decide +kernel
theorem dX9_alone_14 : decode cX9_alone 14 = .ok (.lload_n 2, 1) := by decide +kernel
theorem dX9_alone_15 : decode cX9_alone 15 = .ok (.iload_n 1, 1) := by decide +kernel
theorem dX9_alone_16 : decode cX9_alone 16 = .ok (.iload 4, 2) := by decide +kernel
theorem dX9_alone_18 : decode cX9_alone 18 = .ok (.ishr, 1) := by decide +kernel
theorem dX9_alone_19 : decode cX9_alone 19 = .ok (.iconst 1, 1) := by decide +kernel
theorem dX9_alone_20 : decode cX9_alone 20 = .ok (.iand, 1) := by decide +kernel
theorem dX9_alone_21 : decode cX9_alone 21 = .ok (.iconst 1, 1) := by decide +kernel
theorem dX9_alone_22 : decode cX9_alone 22 = .ok (.if_icmp .ne 14, 3) := by decide +kernel
theorem dX9_alone_25 : decode cX9_alone 25 = .ok (.aload_n 0, 1) := by decide +kernel
theorem dX9_alone_26 : decode cX9_alone 26 = .ok (.getfield 9, 3) := by decide +kernel
theorem dX9_alone_29 : decode cX9_alone 29 = .ok (.iload 4, 2) := by decide +kernel
theorem dX9_alone_31 : decode cX9_alone 31 = .ok (.iaload, 1) := by decide +kernel
theorem dX9_alone_32 : decode cX9_alone 32 = .ok (.i2l, 1) := by decide +kernel
theorem dX9_alone_33 : decode cX9_alone 33 = .ok (.goto 14, 3) := by decide +kernel
theorem dX9_alone_36 : decode cX9_alone 36 = .ok (.bipush 100, 2) := by decide +kernel
theorem dX9_alone_38 : decode cX9_alone 38 = .ok (.aload_n 0, 1) := by decide +kernel
theorem dX9_alone_39 : decode cX9_alone 39 = .ok (.getfield 9, 3) := by decide +kernel
theorem dX9_alone_42 : decode cX9_alone 42 = .ok (.iload 4, 2) := by decide +kernel
theorem dX9_alone_44 : decode cX9_alone 44 = .ok (.iaload, 1) := by decide +kernel
theorem dX9_alone_45 : decode cX9_alone 45 = .ok (.isub, 1) := by decide +kernel
theorem dX9_alone_46 : decode cX9_alone 46 = .ok (.i2l, 1) := by decide +kernel
theorem dX9_alone_47 : decode cX9_alone 47 = .ok (.lmul, 1) := by decide +kernel
theorem dX9_alone_48 : decode cX9_alone 48 = .ok (.lstore_n 2, 1) := by decide +kernel
theorem dX9_alone_49 : decode cX9_alone 49 = .ok (.iinc 4 1, 3) := by decide +kernel
theorem dX9_alone_52 : decode cX9_alone 52 = .ok (.goto (-47), 3) := by decide +kernel
theorem dX9_alone_55 : decode cX9_alone 55 = .ok (.lload_n 2, 1) := by decide +kernel
theorem dX9_alone_56 : decode cX9_alone 56 = .ok (.lreturn, 1) := by decide +kernel
theorem dX9_together_0 : decode cX9_together 0 = .ok (.lconst 1, 1) := by decide +kernel
theorem dX9_together_1 : decode cX9_together 1 = .ok (.lstore_n 2, 1) := by decide +kernel
theorem dX9_together_2 : decode cX9_together 2 = .ok (.iconst 0, 1) := by decide +kernel
theorem dX9_together_3 : decode cX9_together 3 = .ok (.istore 4, 2) := by decide +kernel
theorem dX9_together_5 : decode cX9_together 5 = .ok (.iload 4, 2) := by decide +kernel
theorem dX9_together_7 : decode cX9_together 7 = .ok (.aload_n 0, 1) := by decide +kernel
theorem dX9_together_8 : decode cX9_together 8 = .ok (.getfield 121, 3) := by decide +kernel
theorem dX9_together_11 : decode cX9_together 11 = .ok (.if_icmp .ge 44, 3) := by decide +kernel
theorem dX9_together_14 : decode cX9_together 14 = .ok (.lload_n 2, 1) := by decide +kernel
theorem dX9_together_15 : decode cX9_together 15 = .ok (.iload_n 1, 1) := by decide +kernel
theorem dX9_together_16 : decode cX9_together 16 = .ok (.iload 4, 2) := by decide +kernel
theorem dX9_together_18 : decode cX9_together 18 = .ok (.ishr, 1) := by decide +kernel
theorem dX9_together_19 : decode cX9_together 19 = .ok (.iconst 1, 1) := by decide +kernel
theorem dX9_together_20 : decode cX9_together 20 = .ok (.iand, 1) := by decide +kernel
theorem dX9_together_21 : decode cX9_together 21 = .ok (.iconst 1, 1) := by decide +kernel
theorem dX9_together_22 : decode cX9_together 22 = .ok (.if_icmp .ne 14, 3) := by decide +kernel
theorem dX9_together_25 : decode cX9_together 25 = .ok (.aload_n 0, 1) := by decide +kernel
theorem dX9_together_26 : decode cX9_together 26 = .ok (.getfield 34, 3) := by decide +kernel
theorem dX9_together_29 : decode cX9_together 29 = .ok (.iload 4, 2) := by decide +kernel
theorem dX9_together_31 : decode cX9_together 31 = .ok (.iaload, 1) := by decide +kernel
theorem dX9_together_32 : decode cX9_together 32 = .ok (.i2l, 1) := by decide +kernel
theorem dX9_together_33 : decode cX9_together 33 = .ok (.goto 14, 3) := by decide +kernel
theorem dX9_together_36 : decode cX9_together 36 = .ok (.bipush 100, 2) := by decide +kernel
theorem dX9_together_38 : decode cX9_together 38 = .ok (.aload_n 0, 1) := by decide +kernel
theorem dX9_together_39 : decode cX9_together 39 = .ok (.getfield 34, 3) := by decide +kernel
theorem dX9_together_42 : decode cX9_together 42 = .ok (.iload 4, 2) := by decide +kernel
theorem dX9_together_44 : decode cX9_together 44 = .ok (.iaload, 1) := by decide +kernel
theorem dX9_together_45 : decode cX9_together 45 = .ok (.isub, 1) := by decide +kernel
theorem dX9_together_46 : decode cX9_together 46 = .ok (.i2l, 1) := by decide +kernel
theorem dX9_together_47 : decode cX9_together 47 = .ok (.lmul, 1) := by decide +kernel
theorem dX9_together_48 : decode cX9_together 48 = .ok (.lstore_n 2, 1) := by decide +kernel
theorem dX9_together_49 : decode cX9_together 49 = .ok (.iinc 4 1, 3) := by decide +kernel
theorem dX9_together_52 : decode cX9_together 52 = .ok (.goto (-47), 3) := by decide +kernel
theorem dX9_together_55 : decode cX9_together 55 = .ok (.lload_n 2, 1) := by decide +kernel
theorem dX9_together_56 : decode cX9_together 56 = .ok (.lreturn, 1) := by decide +kernel
theorem dX9_broken_0 : decode cX9_broken 0 = .ok (.iconst 0, 1) := by decide +kernel
theorem dX9_broken_1 : decode cX9_broken 1 = .ok (.istore_n 2, 1) := by decide +kernel
theorem dX9_broken_2 : decode cX9_broken 2 = .ok (.iconst 0, 1) := by decide +kernel
theorem dX9_broken_3 : decode cX9_broken 3 = .ok (.istore_n 3, 1) := by decide +kernel
theorem dX9_broken_4 : decode cX9_broken 4 = .ok (.iload_n 3, 1) := by decide +kernel
theorem dX9_broken_5 : decode cX9_broken 5 = .ok (.aload_n 0, 1) := by decide +kernel
theorem dX9_broken_6 : decode cX9_broken 6 = .ok (.getfield 121, 3) := by decide +kernel
theorem dX9_broken_9 : decode cX9_broken 9 = .ok (.if_icmp .ge 27, 3) := by decide +kernel
theorem dX9_broken_12 : decode cX9_broken 12 = .ok (.iload_n 1, 1) := by decide +kernel
theorem dX9_broken_13 : decode cX9_broken 13 = .ok (.iload_n 3, 1) := by decide +kernel
theorem dX9_broken_14 : decode cX9_broken 14 = .ok (.ishr, 1) := by decide +kernel
theorem dX9_broken_15 : decode cX9_broken 15 = .ok (.iconst 1, 1) := by decide +kernel
theorem dX9_broken_16 : decode cX9_broken 16 = .ok (.iand, 1) := by decide +kernel
theorem dX9_broken_17 : decode cX9_broken 17 = .ok (.iconst 1, 1) := by decide +kernel
theorem dX9_broken_18 : decode cX9_broken 18 = .ok (.if_icmp .ne 12, 3) := by decide +kernel
theorem dX9_broken_21 : decode cX9_broken 21 = .ok (.iload_n 2, 1) := by decide +kernel
theorem dX9_broken_22 : decode cX9_broken 22 = .ok (.aload_n 0, 1) := by decide +kernel
theorem dX9_broken_23 : decode cX9_broken 23 = .ok (.getfield 37, 3) := by decide +kernel
theorem dX9_broken_26 : decode cX9_broken 26 = .ok (.iload_n 3, 1) := by decide +kernel
theorem dX9_broken_27 : decode cX9_broken 27 = .ok (.iaload, 1) := by decide +kernel
theorem dX9_broken_28 : decode cX9_broken 28 = .ok (.ior, 1) := by decide +kernel
theorem dX9_broken_29 : decode cX9_broken 29 = .ok (.istore_n 2, 1) := by decide +kernel
theorem dX9_broken_30 : decode cX9_broken 30 = .ok (.iinc 3 1, 3) := by decide +kernel
theorem dX9_broken_33 : decode cX9_broken 33 = .ok (.goto (-29), 3) := by decide +kernel
theorem dX9_broken_36 : decode cX9_broken 36 = .ok (.iload_n 2, 1) := by decide +kernel
theorem dX9_broken_37 : decode cX9_broken 37 = .ok (.ireturn, 1) := by decide +kernel
theorem dX9_chance_0 : decode cX9_chance 0 = .ok (.lconst 0, 1) := by decide +kernel
theorem dX9_chance_1 : decode cX9_chance 1 = .ok (.lstore_n 1, 1) := by decide +kernel
theorem dX9_chance_2 : decode cX9_chance 2 = .ok (.iconst 0, 1) := by decide +kernel
theorem dX9_chance_3 : decode cX9_chance 3 = .ok (.istore_n 3, 1) := by decide +kernel
theorem dX9_chance_4 : decode cX9_chance 4 = .ok (.iload_n 3, 1) := by decide +kernel
theorem dX9_chance_5 : decode cX9_chance 5 = .ok (.iconst 1, 1) := by decide +kernel
theorem dX9_chance_6 : decode cX9_chance 6 = .ok (.aload_n 0, 1) := by decide +kernel
theorem dX9_chance_7 : decode cX9_chance 7 = .ok (.getfield 121, 3) := by decide +kernel
theorem dX9_chance_10 : decode cX9_chance 10 = .ok (.ishl, 1) := by decide +kernel
theorem dX9_chance_11 : decode cX9_chance 11 = .ok (.if_icmp .ge 70, 3) := by decide +kernel
theorem dX9_chance_14 : decode cX9_chance 14 = .ok (.aload_n 0, 1) := by decide +kernel
theorem dX9_chance_15 : decode cX9_chance 15 = .ok (.iload_n 3, 1) := by decide +kernel
theorem dX9_chance_16 : decode cX9_chance 16 = .ok (.invokevirtual 225, 3) := by decide +kernel
theorem dX9_chance_19 : decode cX9_chance 19 = .ok (.lstore 4, 2) := by decide +kernel
theorem dX9_chance_21 : decode cX9_chance 21 = .ok (.iconst 0, 1) := by decide +kernel
theorem dX9_chance_22 : decode cX9_chance 22 = .ok (.istore 6, 2) := by decide +kernel
theorem dX9_chance_24 : decode cX9_chance 24 = .ok (.iload 6, 2) := by decide +kernel
theorem dX9_chance_26 : decode cX9_chance 26 = .ok (.iconst 1, 1) := by decide +kernel
theorem dX9_chance_27 : decode cX9_chance 27 = .ok (.aload_n 0, 1) := by decide +kernel
theorem dX9_chance_28 : decode cX9_chance 28 = .ok (.getfield 90, 3) := by decide +kernel
theorem dX9_chance_31 : decode cX9_chance 31 = .ok (.ishl, 1) := by decide +kernel
theorem dX9_chance_32 : decode cX9_chance 32 = .ok (.if_icmp .ge 43, 3) := by decide +kernel
theorem dX9_chance_35 : decode cX9_chance 35 = .ok (.lload 4, 2) := by decide +kernel
theorem dX9_chance_37 : decode cX9_chance 37 = .ok (.lconst 0, 1) := by decide +kernel
theorem dX9_chance_38 : decode cX9_chance 38 = .ok (.lcmp, 1) := by decide +kernel
theorem dX9_chance_39 : decode cX9_chance 39 = .ok (.ifCond .le 36, 3) := by decide +kernel
theorem dX9_chance_42 : decode cX9_chance 42 = .ok (.aload_n 0, 1) := by decide +kernel
theorem dX9_chance_43 : decode cX9_chance 43 = .ok (.iload 6, 2) := by decide +kernel
theorem dX9_chance_45 : decode cX9_chance 45 = .ok (.aload_n 0, 1) := by decide +kernel
theorem dX9_chance_46 : decode cX9_chance 46 = .ok (.iload_n 3, 1) := by decide +kernel
theorem dX9_chance_47 : decode cX9_chance 47 = .ok (.invokevirtual 229, 3) := by decide +kernel
theorem dX9_chance_50 : decode cX9_chance 50 = .ok (.ior, 1) := by decide +kernel
theorem dX9_chance_51 : decode cX9_chance 51 = .ok (.invokevirtual 199, 3) := by decide +kernel
theorem dX9_chance_54 : decode cX9_chance 54 = .ok (.ifCond .eq 15, 3) := by decide +kernel
theorem dX9_chance_57 : decode cX9_chance 57 = .ok (.lload_n 1, 1) := by decide +kernel
theorem dX9_chance_58 : decode cX9_chance 58 = .ok (.lload 4, 2) := by decide +kernel
theorem dX9_chance_60 : decode cX9_chance 60 = .ok (.aload_n 0, 1) := by decide +kernel
theorem dX9_chance_61 : decode cX9_chance 61 = .ok (.iload 6, 2) := by decide +kernel
theorem dX9_chance_63 : decode cX9_chance 63 = .ok (.invokevirtual 232, 3) := by decide +kernel
theorem dX9_chance_66 : decode cX9_chance 66 = .ok (.lmul, 1) := by decide +kernel
theorem dX9_chance_67 : decode cX9_chance 67 = .ok (.ladd, 1) := by decide +kernel
theorem dX9_chance_68 : decode cX9_chance 68 = .ok (.lstore_n 1, 1) := by decide +kernel
theorem dX9_chance_69 : decode cX9_chance 69 = .ok (.iinc 6 1, 3) := by decide +kernel
theorem dX9_chance_72 : decode cX9_chance 72 = .ok (.goto (-48), 3) := by decide +kernel
theorem dX9_chance_75 : decode cX9_chance 75 = .ok (.iinc 3 1, 3) := by decide +kernel
theorem dX9_chance_78 : decode cX9_chance 78 = .ok (.goto (-74), 3) := by decide +kernel
theorem dX9_chance_81 : decode cX9_chance 81 = .ok (.lload_n 1, 1) := by decide +kernel
theorem dX9_chance_82 : decode cX9_chance 82 = .ok (.lreturn, 1) := by decide +kernel
theorem dX9_whole_0 : decode cX9_whole 0 = .ok (.lconst 1, 1) := by decide +kernel
theorem dX9_whole_1 : decode cX9_whole 1 = .ok (.lstore_n 1, 1) := by decide +kernel
theorem dX9_whole_2 : decode cX9_whole 2 = .ok (.iconst 0, 1) := by decide +kernel
theorem dX9_whole_3 : decode cX9_whole 3 = .ok (.istore_n 3, 1) := by decide +kernel
theorem dX9_whole_4 : decode cX9_whole 4 = .ok (.iload_n 3, 1) := by decide +kernel
theorem dX9_whole_5 : decode cX9_whole 5 = .ok (.aload_n 0, 1) := by decide +kernel
theorem dX9_whole_6 : decode cX9_whole 6 = .ok (.getfield 90, 3) := by decide +kernel
theorem dX9_whole_9 : decode cX9_whole 9 = .ok (.aload_n 0, 1) := by decide +kernel
theorem dX9_whole_10 : decode cX9_whole 10 = .ok (.getfield 121, 3) := by decide +kernel
theorem dX9_whole_13 : decode cX9_whole 13 = .ok (.iadd, 1) := by decide +kernel
theorem dX9_whole_14 : decode cX9_whole 14 = .ok (.if_icmp .ge 15, 3) := by decide +kernel
theorem dX9_whole_17 : decode cX9_whole 17 = .ok (.lload_n 1, 1) := by decide +kernel
theorem dX9_whole_18 : decode cX9_whole 18 = .ok (.ldc2_w 235, 3) := by decide +kernel
theorem dX9_whole_21 : decode cX9_whole 21 = .ok (.lmul, 1) := by decide +kernel
theorem dX9_whole_22 : decode cX9_whole 22 = .ok (.lstore_n 1, 1) := by decide +kernel
theorem dX9_whole_23 : decode cX9_whole 23 = .ok (.iinc 3 1, 3) := by decide +kernel
theorem dX9_whole_26 : decode cX9_whole 26 = .ok (.goto (-22), 3) := by decide +kernel
theorem dX9_whole_29 : decode cX9_whole 29 = .ok (.lload_n 1, 1) := by decide +kernel
theorem dX9_whole_30 : decode cX9_whole 30 = .ok (.lreturn, 1) := by decide +kernel
theorem dX9_common_0 : decode cX9_common 0 = .ok (.lload_n 2, 1) := by decide +kernel
theorem dX9_common_1 : decode cX9_common 1 = .ok (.lconst 0, 1) := by decide +kernel
theorem dX9_common_2 : decode cX9_common 2 = .ok (.lcmp, 1) := by decide +kernel
theorem dX9_common_3 : decode cX9_common 3 = .ok (.ifCond .ne 7, 3) := by decide +kernel
theorem dX9_common_6 : decode cX9_common 6 = .ok (.lload_n 0, 1) := by decide +kernel
theorem dX9_common_7 : decode cX9_common 7 = .ok (.goto 10, 3) := by decide +kernel
theorem dX9_common_10 : decode cX9_common 10 = .ok (.lload_n 2, 1) := by decide +kernel
theorem dX9_common_11 : decode cX9_common 11 = .ok (.lload_n 0, 1) := by decide +kernel
theorem dX9_common_12 : decode cX9_common 12 = .ok (.lload_n 2, 1) := by decide +kernel
theorem dX9_common_13 : decode cX9_common 13 = .ok (.lrem, 1) := by decide +kernel
theorem dX9_common_14 : decode cX9_common 14 = .ok (.invokestatic 237, 3) := by decide +kernel
theorem dX9_common_17 : decode cX9_common 17 = .ok (.lreturn, 1) := by decide +kernel
theorem dX9_line_0 : decode cX9_line 0 = .ok (.lload_n 0, 1) := by decide +kernel
theorem dX9_line_1 : decode cX9_line 1 = .ok (.lload_n 2, 1) := by decide +kernel
theorem dX9_line_2 : decode cX9_line 2 = .ok (.invokestatic 237, 3) := by decide +kernel
theorem dX9_line_5 : decode cX9_line 5 = .ok (.lstore 5, 2) := by decide +kernel
theorem dX9_line_7 : decode cX9_line 7 = .ok (.iload 4, 2) := by decide +kernel
theorem dX9_line_9 : decode cX9_line 9 = .ok (.ifCond .ne 10, 3) := by decide +kernel
theorem dX9_line_12 : decode cX9_line 12 = .ok (.lload_n 0, 1) := by decide +kernel
theorem dX9_line_13 : decode cX9_line 13 = .ok (.lload 5, 2) := by decide +kernel
theorem dX9_line_15 : decode cX9_line 15 = .ok (.ldiv, 1) := by decide +kernel
theorem dX9_line_16 : decode cX9_line 16 = .ok (.goto 7, 3) := by decide +kernel
theorem dX9_line_19 : decode cX9_line 19 = .ok (.lload_n 2, 1) := by decide +kernel
theorem dX9_line_20 : decode cX9_line 20 = .ok (.lload 5, 2) := by decide +kernel
theorem dX9_line_22 : decode cX9_line 22 = .ok (.ldiv, 1) := by decide +kernel
theorem dX9_line_23 : decode cX9_line 23 = .ok (.lreturn, 1) := by decide +kernel
theorem dX9_chance__0 : decode cX9_chance_ 0 = .ok (.aload_n 0, 1) := by decide +kernel
theorem dX9_chance__1 : decode cX9_chance_ 1 = .ok (.getfield 97, 3) := by decide +kernel
theorem dX9_chance__4 : decode cX9_chance_ 4 = .ok (.ifCond .eq 12, 3) := by decide +kernel
theorem dX9_chance__7 : decode cX9_chance_ 7 = .ok (.iload_n 1, 1) := by decide +kernel
theorem dX9_chance__8 : decode cX9_chance_ 8 = .ok (.iconst 0, 1) := by decide +kernel
theorem dX9_chance__9 : decode cX9_chance_ 9 = .ok (.iconst 1, 1) := by decide +kernel
theorem dX9_chance__10 : decode cX9_chance_ 10 = .ok (.invokestatic 93, 3) := by decide +kernel
theorem dX9_chance__13 : decode cX9_chance_ 13 = .ok (.ifCond .ne 9, 3) := by decide +kernel
theorem dX9_chance__16 : decode cX9_chance_ 16 = .ok (.ldc2_w 241, 3) := by decide +kernel
theorem dX9_chance__19 : decode cX9_chance_ 19 = .ok (.goto 15, 3) := by decide +kernel
theorem dX9_chance__22 : decode cX9_chance_ 22 = .ok (.aload_n 0, 1) := by decide +kernel
theorem dX9_chance__23 : decode cX9_chance_ 23 = .ok (.invokevirtual 243, 3) := by decide +kernel
theorem dX9_chance__26 : decode cX9_chance_ 26 = .ok (.aload_n 0, 1) := by decide +kernel
theorem dX9_chance__27 : decode cX9_chance_ 27 = .ok (.invokevirtual 246, 3) := by decide +kernel
theorem dX9_chance__30 : decode cX9_chance_ 30 = .ok (.iload_n 1, 1) := by decide +kernel
theorem dX9_chance__31 : decode cX9_chance_ 31 = .ok (.invokestatic 249, 3) := by decide +kernel
theorem dX9_chance__34 : decode cX9_chance_ 34 = .ok (.lreturn, 1) := by decide +kernel
theorem dX9_given_0 : decode cX9_given 0 = .ok (.aload_n 0, 1) := by decide +kernel
theorem dX9_given_1 : decode cX9_given 1 = .ok (.getfield 97, 3) := by decide +kernel
theorem dX9_given_4 : decode cX9_given 4 = .ok (.ifCond .eq 26, 3) := by decide +kernel
theorem dX9_given_7 : decode cX9_given 7 = .ok (.iload_n 1, 1) := by decide +kernel
theorem dX9_given_8 : decode cX9_given 8 = .ok (.iconst 0, 1) := by decide +kernel
theorem dX9_given_9 : decode cX9_given 9 = .ok (.aload_n 0, 1) := by decide +kernel
theorem dX9_given_10 : decode cX9_given 10 = .ok (.getfield 121, 3) := by decide +kernel
theorem dX9_given_13 : decode cX9_given 13 = .ok (.iconst 1, 1) := by decide +kernel
theorem dX9_given_14 : decode cX9_given 14 = .ok (.isub, 1) := by decide +kernel
theorem dX9_given_15 : decode cX9_given 15 = .ok (.invokestatic 93, 3) := by decide +kernel
theorem dX9_given_18 : decode cX9_given 18 = .ok (.ifCond .eq 12, 3) := by decide +kernel
theorem dX9_given_21 : decode cX9_given 21 = .ok (.iload_n 3, 1) := by decide +kernel
theorem dX9_given_22 : decode cX9_given 22 = .ok (.iconst 0, 1) := by decide +kernel
theorem dX9_given_23 : decode cX9_given 23 = .ok (.iconst 1, 1) := by decide +kernel
theorem dX9_given_24 : decode cX9_given 24 = .ok (.invokestatic 93, 3) := by decide +kernel
theorem dX9_given_27 : decode cX9_given 27 = .ok (.ifCond .ne 7, 3) := by decide +kernel
theorem dX9_given_30 : decode cX9_given 30 = .ok (.ldc2_w 241, 3) := by decide +kernel
theorem dX9_given_33 : decode cX9_given 33 = .ok (.lreturn, 1) := by decide +kernel
theorem dX9_given_34 : decode cX9_given 34 = .ok (.aload_n 0, 1) := by decide +kernel
theorem dX9_given_35 : decode cX9_given 35 = .ok (.getfield 34, 3) := by decide +kernel
theorem dX9_given_38 : decode cX9_given 38 = .ok (.iload_n 1, 1) := by decide +kernel
theorem dX9_given_39 : decode cX9_given 39 = .ok (.iaload, 1) := by decide +kernel
theorem dX9_given_40 : decode cX9_given 40 = .ok (.istore 4, 2) := by decide +kernel
theorem dX9_given_42 : decode cX9_given 42 = .ok (.aload_n 0, 1) := by decide +kernel
theorem dX9_given_43 : decode cX9_given 43 = .ok (.getfield 34, 3) := by decide +kernel
theorem dX9_given_46 : decode cX9_given 46 = .ok (.iload_n 1, 1) := by decide +kernel
theorem dX9_given_47 : decode cX9_given 47 = .ok (.iload_n 2, 1) := by decide +kernel
theorem dX9_given_48 : decode cX9_given 48 = .ok (.ifCond .eq 8, 3) := by decide +kernel
theorem dX9_given_51 : decode cX9_given 51 = .ok (.bipush 100, 2) := by decide +kernel
theorem dX9_given_53 : decode cX9_given 53 = .ok (.goto 4, 3) := by decide +kernel
theorem dX9_given_56 : decode cX9_given 56 = .ok (.iconst 0, 1) := by decide +kernel
theorem dX9_given_57 : decode cX9_given 57 = .ok (.iastore, 1) := by decide +kernel
theorem dX9_given_58 : decode cX9_given 58 = .ok (.aload_n 0, 1) := by decide +kernel
theorem dX9_given_59 : decode cX9_given 59 = .ok (.invokevirtual 243, 3) := by decide +kernel
theorem dX9_given_62 : decode cX9_given 62 = .ok (.aload_n 0, 1) := by decide +kernel
theorem dX9_given_63 : decode cX9_given 63 = .ok (.invokevirtual 246, 3) := by decide +kernel
theorem dX9_given_66 : decode cX9_given 66 = .ok (.iload_n 3, 1) := by decide +kernel
theorem dX9_given_67 : decode cX9_given 67 = .ok (.invokestatic 249, 3) := by decide +kernel
theorem dX9_given_70 : decode cX9_given 70 = .ok (.lstore 5, 2) := by decide +kernel
theorem dX9_given_72 : decode cX9_given 72 = .ok (.aload_n 0, 1) := by decide +kernel
theorem dX9_given_73 : decode cX9_given 73 = .ok (.getfield 34, 3) := by decide +kernel
theorem dX9_given_76 : decode cX9_given 76 = .ok (.iload_n 1, 1) := by decide +kernel
theorem dX9_given_77 : decode cX9_given 77 = .ok (.iload 4, 2) := by decide +kernel
theorem dX9_given_79 : decode cX9_given 79 = .ok (.iastore, 1) := by decide +kernel
theorem dX9_given_80 : decode cX9_given 80 = .ok (.lload 5, 2) := by decide +kernel
theorem dX9_given_82 : decode cX9_given 82 = .ok (.lreturn, 1) := by decide +kernel
theorem dX9_weight_0 : decode cX9_weight 0 = .ok (.aload_n 0, 1) := by decide +kernel
theorem dX9_weight_1 : decode cX9_weight 1 = .ok (.getfield 9, 3) := by decide +kernel
theorem dX9_weight_4 : decode cX9_weight 4 = .ok (.iload_n 1, 1) := by decide +kernel
theorem dX9_weight_5 : decode cX9_weight 5 = .ok (.iaload, 1) := by decide +kernel
theorem dX9_weight_6 : decode cX9_weight 6 = .ok (.istore_n 2, 1) := by decide +kernel
theorem dX9_weight_7 : decode cX9_weight 7 = .ok (.aload_n 0, 1) := by decide +kernel
theorem dX9_weight_8 : decode cX9_weight 8 = .ok (.getfield 9, 3) := by decide +kernel
theorem dX9_weight_11 : decode cX9_weight 11 = .ok (.iload_n 1, 1) := by decide +kernel
theorem dX9_weight_12 : decode cX9_weight 12 = .ok (.bipush 100, 2) := by decide +kernel
theorem dX9_weight_14 : decode cX9_weight 14 = .ok (.iastore, 1) := by decide +kernel
theorem dX9_weight_15 : decode cX9_weight 15 = .ok (.aload_n 0, 1) := by decide +kernel
theorem dX9_weight_16 : decode cX9_weight 16 = .ok (.invokevirtual 243, 3) := by decide +kernel
theorem dX9_weight_19 : decode cX9_weight 19 = .ok (.lstore_n 3, 1) := by decide +kernel
theorem dX9_weight_20 : decode cX9_weight 20 = .ok (.aload_n 0, 1) := by decide +kernel
theorem dX9_weight_21 : decode cX9_weight 21 = .ok (.getfield 9, 3) := by decide +kernel
theorem dX9_weight_24 : decode cX9_weight 24 = .ok (.iload_n 1, 1) := by decide +kernel
theorem dX9_weight_25 : decode cX9_weight 25 = .ok (.iconst 0, 1) := by decide +kernel
theorem dX9_weight_26 : decode cX9_weight 26 = .ok (.iastore, 1) := by decide +kernel
theorem dX9_weight_27 : decode cX9_weight 27 = .ok (.lload_n 3, 1) := by decide +kernel
theorem dX9_weight_28 : decode cX9_weight 28 = .ok (.aload_n 0, 1) := by decide +kernel
theorem dX9_weight_29 : decode cX9_weight 29 = .ok (.invokevirtual 243, 3) := by decide +kernel
theorem dX9_weight_32 : decode cX9_weight 32 = .ok (.lsub, 1) := by decide +kernel
theorem dX9_weight_33 : decode cX9_weight 33 = .ok (.lstore_n 3, 1) := by decide +kernel
theorem dX9_weight_34 : decode cX9_weight 34 = .ok (.aload_n 0, 1) := by decide +kernel
theorem dX9_weight_35 : decode cX9_weight 35 = .ok (.getfield 9, 3) := by decide +kernel
theorem dX9_weight_38 : decode cX9_weight 38 = .ok (.iload_n 1, 1) := by decide +kernel
theorem dX9_weight_39 : decode cX9_weight 39 = .ok (.iload_n 2, 1) := by decide +kernel
theorem dX9_weight_40 : decode cX9_weight 40 = .ok (.iastore, 1) := by decide +kernel
theorem dX9_weight_41 : decode cX9_weight 41 = .ok (.lload_n 3, 1) := by decide +kernel
theorem dX9_weight_42 : decode cX9_weight 42 = .ok (.lreturn, 1) := by decide +kernel
theorem dX9_weight__0 : decode cX9_weight_ 0 = .ok (.aload_n 0, 1) := by decide +kernel
theorem dX9_weight__1 : decode cX9_weight_ 1 = .ok (.getfield 97, 3) := by decide +kernel
theorem dX9_weight__4 : decode cX9_weight_ 4 = .ok (.ifCond .eq 20, 3) := by decide +kernel
theorem dX9_weight__7 : decode cX9_weight_ 7 = .ok (.aload_n 0, 1) := by decide +kernel
theorem dX9_weight__8 : decode cX9_weight_ 8 = .ok (.iload_n 1, 1) := by decide +kernel
theorem dX9_weight__9 : decode cX9_weight_ 9 = .ok (.invokevirtual 111, 3) := by decide +kernel
theorem dX9_weight__12 : decode cX9_weight_ 12 = .ok (.ifCond .eq 12, 3) := by decide +kernel
theorem dX9_weight__15 : decode cX9_weight_ 15 = .ok (.iload_n 2, 1) := by decide +kernel
theorem dX9_weight__16 : decode cX9_weight_ 16 = .ok (.iconst 0, 1) := by decide +kernel
theorem dX9_weight__17 : decode cX9_weight_ 17 = .ok (.iconst 1, 1) := by decide +kernel
theorem dX9_weight__18 : decode cX9_weight_ 18 = .ok (.invokestatic 93, 3) := by decide +kernel
theorem dX9_weight__21 : decode cX9_weight_ 21 = .ok (.ifCond .ne 9, 3) := by decide +kernel
theorem dX9_weight__24 : decode cX9_weight_ 24 = .ok (.ldc2_w 241, 3) := by decide +kernel
theorem dX9_weight__27 : decode cX9_weight_ 27 = .ok (.goto 16, 3) := by decide +kernel
theorem dX9_weight__30 : decode cX9_weight_ 30 = .ok (.aload_n 0, 1) := by decide +kernel
theorem dX9_weight__31 : decode cX9_weight_ 31 = .ok (.iload_n 1, 1) := by decide +kernel
theorem dX9_weight__32 : decode cX9_weight_ 32 = .ok (.invokevirtual 253, 3) := by decide +kernel
theorem dX9_weight__35 : decode cX9_weight_ 35 = .ok (.aload_n 0, 1) := by decide +kernel
theorem dX9_weight__36 : decode cX9_weight_ 36 = .ok (.invokevirtual 246, 3) := by decide +kernel
theorem dX9_weight__39 : decode cX9_weight_ 39 = .ok (.iload_n 2, 1) := by decide +kernel
theorem dX9_weight__40 : decode cX9_weight_ 40 = .ok (.invokestatic 249, 3) := by decide +kernel
theorem dX9_weight__43 : decode cX9_weight_ 43 = .ok (.lreturn, 1) := by decide +kernel
theorem dX9_most_0 : decode cX9_most 0 = .ok (.bipush (-5), 2) := by decide +kernel
theorem dX9_most_2 : decode cX9_most 2 = .ok (.istore_n 1, 1) := by decide +kernel
theorem dX9_most_3 : decode cX9_most 3 = .ok (.ldc2_w 182, 3) := by decide +kernel
theorem dX9_most_6 : decode cX9_most 6 = .ok (.lstore_n 2, 1) := by decide +kernel
theorem dX9_most_7 : decode cX9_most 7 = .ok (.iconst 0, 1) := by decide +kernel
theorem dX9_most_8 : decode cX9_most 8 = .ok (.istore 4, 2) := by decide +kernel
theorem dX9_most_10 : decode cX9_most 10 = .ok (.iload 4, 2) := by decide +kernel
theorem dX9_most_12 : decode cX9_most 12 = .ok (.aload_n 0, 1) := by decide +kernel
theorem dX9_most_13 : decode cX9_most 13 = .ok (.getfield 90, 3) := by decide +kernel
theorem dX9_most_16 : decode cX9_most 16 = .ok (.if_icmp .ge 33, 3) := by decide +kernel
theorem dX9_most_19 : decode cX9_most 19 = .ok (.aload_n 0, 1) := by decide +kernel
theorem dX9_most_20 : decode cX9_most 20 = .ok (.iload 4, 2) := by decide +kernel
theorem dX9_most_22 : decode cX9_most 22 = .ok (.invokevirtual 253, 3) := by decide +kernel
theorem dX9_most_25 : decode cX9_most 25 = .ok (.lstore 5, 2) := by decide +kernel
theorem dX9_most_27 : decode cX9_most 27 = .ok (.lload 5, 2) := by decide +kernel
theorem dX9_most_29 : decode cX9_most 29 = .ok (.lload_n 2, 1) := by decide +kernel
theorem dX9_most_30 : decode cX9_most 30 = .ok (.lcmp, 1) := by decide +kernel
theorem dX9_most_31 : decode cX9_most 31 = .ok (.ifCond .gt 6, 3) := by decide +kernel
theorem dX9_most_34 : decode cX9_most 34 = .ok (.goto 9, 3) := by decide +kernel
theorem dX9_most_37 : decode cX9_most 37 = .ok (.lload 5, 2) := by decide +kernel
theorem dX9_most_39 : decode cX9_most 39 = .ok (.lstore_n 2, 1) := by decide +kernel
theorem dX9_most_40 : decode cX9_most 40 = .ok (.iload 4, 2) := by decide +kernel
theorem dX9_most_42 : decode cX9_most 42 = .ok (.istore_n 1, 1) := by decide +kernel
theorem dX9_most_43 : decode cX9_most 43 = .ok (.iinc 4 1, 3) := by decide +kernel
theorem dX9_most_46 : decode cX9_most 46 = .ok (.goto (-36), 3) := by decide +kernel
theorem dX9_most_49 : decode cX9_most 49 = .ok (.iload_n 1, 1) := by decide +kernel
theorem dX9_most_50 : decode cX9_most 50 = .ok (.ireturn, 1) := by decide +kernel
theorem dX9_many__0 : decode cX9_many_ 0 = .ok (.aload_n 0, 1) := by decide +kernel
theorem dX9_many__1 : decode cX9_many_ 1 = .ok (.iload_n 1, 1) := by decide +kernel
theorem dX9_many__2 : decode cX9_many_ 2 = .ok (.invokevirtual 218, 3) := by decide +kernel
theorem dX9_many__5 : decode cX9_many_ 5 = .ok (.aload_n 0, 1) := by decide +kernel
theorem dX9_many__6 : decode cX9_many_ 6 = .ok (.getfield 209, 3) := by decide +kernel
theorem dX9_many__9 : decode cX9_many_ 9 = .ok (.ireturn, 1) := by decide +kernel
theorem dX9_drawn_0 : decode cX9_drawn 0 = .ok (.aload_n 0, 1) := by decide +kernel
theorem dX9_drawn_1 : decode cX9_drawn 1 = .ok (.invokevirtual 202, 3) := by decide +kernel
theorem dX9_drawn_4 : decode cX9_drawn 4 = .ok (.pop, 1) := by decide +kernel
theorem dX9_drawn_5 : decode cX9_drawn 5 = .ok (.aload_n 0, 1) := by decide +kernel
theorem dX9_drawn_6 : decode cX9_drawn 6 = .ok (.getfield 188, 3) := by decide +kernel
theorem dX9_drawn_9 : decode cX9_drawn 9 = .ok (.ireturn, 1) := by decide +kernel
theorem dX9_ever_0 : decode cX9_ever 0 = .ok (.aload_n 0, 1) := by decide +kernel
theorem dX9_ever_1 : decode cX9_ever 1 = .ok (.invokevirtual 202, 3) := by decide +kernel
theorem dX9_ever_4 : decode cX9_ever 4 = .ok (.istore_n 1, 1) := by decide +kernel
theorem dX9_ever_5 : decode cX9_ever 5 = .ok (.iload_n 1, 1) := by decide +kernel
theorem dX9_ever_6 : decode cX9_ever 6 = .ok (.bipush (-7), 2) := by decide +kernel
theorem dX9_ever_8 : decode cX9_ever 8 = .ok (.if_icmp .ne 7, 3) := by decide +kernel
theorem dX9_ever_11 : decode cX9_ever 11 = .ok (.iconst 1, 1) := by decide +kernel
theorem dX9_ever_12 : decode cX9_ever 12 = .ok (.goto 14, 3) := by decide +kernel
theorem dX9_ever_15 : decode cX9_ever 15 = .ok (.iload_n 1, 1) := by decide +kernel
theorem dX9_ever_16 : decode cX9_ever 16 = .ok (.bipush (-6), 2) := by decide +kernel
theorem dX9_ever_18 : decode cX9_ever 18 = .ok (.if_icmp .ne 7, 3) := by decide +kernel
theorem dX9_ever_21 : decode cX9_ever 21 = .ok (.iconst (-1), 1) := by decide +kernel
theorem dX9_ever_22 : decode cX9_ever 22 = .ok (.goto 4, 3) := by decide +kernel
theorem dX9_ever_25 : decode cX9_ever 25 = .ok (.iconst 0, 1) := by decide +kernel
theorem dX9_ever_26 : decode cX9_ever 26 = .ok (.ireturn, 1) := by decide +kernel
theorem dX9_told_0 : decode cX9_told 0 = .ok (.iload_n 1, 1) := by decide +kernel
theorem dX9_told_1 : decode cX9_told 1 = .ok (.iconst 0, 1) := by decide +kernel
theorem dX9_told_2 : decode cX9_told 2 = .ok (.bipush 8, 2) := by decide +kernel
theorem dX9_told_4 : decode cX9_told 4 = .ok (.invokestatic 93, 3) := by decide +kernel
theorem dX9_told_7 : decode cX9_told 7 = .ok (.ifCond .ne 5, 3) := by decide +kernel
theorem dX9_told_10 : decode cX9_told 10 = .ok (.iconst (-1), 1) := by decide +kernel
theorem dX9_told_11 : decode cX9_told 11 = .ok (.ireturn, 1) := by decide +kernel
theorem dX9_told_12 : decode cX9_told 12 = .ok (.iload_n 1, 1) := by decide +kernel
theorem dX9_told_13 : decode cX9_told 13 = .ok (.iconst 3, 1) := by decide +kernel
theorem dX9_told_14 : decode cX9_told 14 = .ok (.if_icmp .le 13, 3) := by decide +kernel
theorem dX9_told_17 : decode cX9_told 17 = .ok (.aload_n 0, 1) := by decide +kernel
theorem dX9_told_18 : decode cX9_told 18 = .ok (.getfield 97, 3) := by decide +kernel
theorem dX9_told_21 : decode cX9_told 21 = .ok (.ifCond .ne 6, 3) := by decide +kernel
theorem dX9_told_24 : decode cX9_told 24 = .ok (.bipush (-3), 2) := by decide +kernel
theorem dX9_told_26 : decode cX9_told 26 = .ok (.ireturn, 1) := by decide +kernel
theorem dX9_told_27 : decode cX9_told 27 = .ok (.iload_n 1, 1) := by decide +kernel
theorem dX9_told_28 : decode cX9_told 28 = .ok (.tableswitch 90 0 7 #[48, 53, 58, 63, 68, 73, 79, 85], 48) := by decide +kernel
theorem dX9_told_76 : decode cX9_told 76 = .ok (.aload_n 0, 1) := by decide +kernel
theorem dX9_told_77 : decode cX9_told 77 = .ok (.getfield 90, 3) := by decide +kernel
theorem dX9_told_80 : decode cX9_told 80 = .ok (.ireturn, 1) := by decide +kernel
theorem dX9_told_81 : decode cX9_told 81 = .ok (.aload_n 0, 1) := by decide +kernel
theorem dX9_told_82 : decode cX9_told 82 = .ok (.getfield 97, 3) := by decide +kernel
theorem dX9_told_85 : decode cX9_told 85 = .ok (.ireturn, 1) := by decide +kernel
theorem dX9_told_86 : decode cX9_told 86 = .ok (.aload_n 0, 1) := by decide +kernel
theorem dX9_told_87 : decode cX9_told 87 = .ok (.getfield 121, 3) := by decide +kernel
theorem dX9_told_90 : decode cX9_told 90 = .ok (.ireturn, 1) := by decide +kernel
theorem dX9_told_91 : decode cX9_told 91 = .ok (.aload_n 0, 1) := by decide +kernel
theorem dX9_told_92 : decode cX9_told 92 = .ok (.invokevirtual 114, 3) := by decide +kernel
theorem dX9_told_95 : decode cX9_told 95 = .ok (.ireturn, 1) := by decide +kernel
theorem dX9_told_96 : decode cX9_told 96 = .ok (.aload_n 0, 1) := by decide +kernel
theorem dX9_told_97 : decode cX9_told 97 = .ok (.invokevirtual 256, 3) := by decide +kernel
theorem dX9_told_100 : decode cX9_told 100 = .ok (.ireturn, 1) := by decide +kernel
theorem dX9_told_101 : decode cX9_told 101 = .ok (.aload_n 0, 1) := by decide +kernel
theorem dX9_told_102 : decode cX9_told 102 = .ok (.iconst 1, 1) := by decide +kernel
theorem dX9_told_103 : decode cX9_told 103 = .ok (.invokevirtual 259, 3) := by decide +kernel
theorem dX9_told_106 : decode cX9_told 106 = .ok (.ireturn, 1) := by decide +kernel
theorem dX9_told_107 : decode cX9_told 107 = .ok (.aload_n 0, 1) := by decide +kernel
theorem dX9_told_108 : decode cX9_told 108 = .ok (.iconst 0, 1) := by decide +kernel
theorem dX9_told_109 : decode cX9_told 109 = .ok (.invokevirtual 259, 3) := by decide +kernel
theorem dX9_told_112 : decode cX9_told 112 = .ok (.ireturn, 1) := by decide +kernel
theorem dX9_told_113 : decode cX9_told 113 = .ok (.aload_n 0, 1) := by decide +kernel
theorem dX9_told_114 : decode cX9_told 114 = .ok (.invokevirtual 262, 3) := by decide +kernel
theorem dX9_told_117 : decode cX9_told 117 = .ok (.ireturn, 1) := by decide +kernel
theorem dX9_told_118 : decode cX9_told 118 = .ok (.aload_n 0, 1) := by decide +kernel
theorem dX9_told_119 : decode cX9_told 119 = .ok (.invokevirtual 265, 3) := by decide +kernel
theorem dX9_told_122 : decode cX9_told 122 = .ok (.ireturn, 1) := by decide +kernel
theorem dX9_see_0 : decode cX9_see 0 = .ok (.iload_n 1, 1) := by decide +kernel
theorem dX9_see_1 : decode cX9_see 1 = .ok (.iconst (-1), 1) := by decide +kernel
theorem dX9_see_2 : decode cX9_see 2 = .ok (.if_icmp .ne 10, 3) := by decide +kernel
theorem dX9_see_5 : decode cX9_see 5 = .ok (.aload_n 0, 1) := by decide +kernel
theorem dX9_see_6 : decode cX9_see 6 = .ok (.iconst 0, 1) := by decide +kernel
theorem dX9_see_7 : decode cX9_see 7 = .ok (.putfield 268, 3) := by decide +kernel
theorem dX9_see_10 : decode cX9_see 10 = .ok (.iconst 0, 1) := by decide +kernel
theorem dX9_see_11 : decode cX9_see 11 = .ok (.ireturn, 1) := by decide +kernel
theorem dX9_see_12 : decode cX9_see 12 = .ok (.aload_n 0, 1) := by decide +kernel
theorem dX9_see_13 : decode cX9_see 13 = .ok (.iload_n 1, 1) := by decide +kernel
theorem dX9_see_14 : decode cX9_see 14 = .ok (.invokevirtual 118, 3) := by decide +kernel
theorem dX9_see_17 : decode cX9_see 17 = .ok (.ifCond .ne 6, 3) := by decide +kernel
theorem dX9_see_20 : decode cX9_see 20 = .ok (.bipush (-2), 2) := by decide +kernel
theorem dX9_see_22 : decode cX9_see 22 = .ok (.ireturn, 1) := by decide +kernel
theorem dX9_see_23 : decode cX9_see 23 = .ok (.aload_n 0, 1) := by decide +kernel
theorem dX9_see_24 : decode cX9_see 24 = .ok (.getfield 268, 3) := by decide +kernel
theorem dX9_see_27 : decode cX9_see 27 = .ok (.bipush 6, 2) := by decide +kernel
theorem dX9_see_29 : decode cX9_see 29 = .ok (.if_icmp .ne 6, 3) := by decide +kernel
theorem dX9_see_32 : decode cX9_see 32 = .ok (.bipush (-4), 2) := by decide +kernel
theorem dX9_see_34 : decode cX9_see 34 = .ok (.ireturn, 1) := by decide +kernel
theorem dX9_see_35 : decode cX9_see 35 = .ok (.aload_n 0, 1) := by decide +kernel
theorem dX9_see_36 : decode cX9_see 36 = .ok (.getfield 40, 3) := by decide +kernel
theorem dX9_see_39 : decode cX9_see 39 = .ok (.aload_n 0, 1) := by decide +kernel
theorem dX9_see_40 : decode cX9_see 40 = .ok (.getfield 268, 3) := by decide +kernel
theorem dX9_see_43 : decode cX9_see 43 = .ok (.iload_n 1, 1) := by decide +kernel
theorem dX9_see_44 : decode cX9_see 44 = .ok (.iastore, 1) := by decide +kernel
theorem dX9_see_45 : decode cX9_see 45 = .ok (.aload_n 0, 1) := by decide +kernel
theorem dX9_see_46 : decode cX9_see 46 = .ok (.getfield 43, 3) := by decide +kernel
theorem dX9_see_49 : decode cX9_see 49 = .ok (.aload_n 0, 1) := by decide +kernel
theorem dX9_see_50 : decode cX9_see 50 = .ok (.getfield 268, 3) := by decide +kernel
theorem dX9_see_53 : decode cX9_see 53 = .ok (.iload_n 2, 1) := by decide +kernel
theorem dX9_see_54 : decode cX9_see 54 = .ok (.ifCond .eq 7, 3) := by decide +kernel
theorem dX9_see_57 : decode cX9_see 57 = .ok (.iconst 1, 1) := by decide +kernel
theorem dX9_see_58 : decode cX9_see 58 = .ok (.goto 4, 3) := by decide +kernel
theorem dX9_see_61 : decode cX9_see 61 = .ok (.iconst 0, 1) := by decide +kernel
theorem dX9_see_62 : decode cX9_see 62 = .ok (.iastore, 1) := by decide +kernel
theorem dX9_see_63 : decode cX9_see 63 = .ok (.aload_n 0, 1) := by decide +kernel
theorem dX9_see_64 : decode cX9_see 64 = .ok (.dup, 1) := by decide +kernel
theorem dX9_see_65 : decode cX9_see 65 = .ok (.getfield 268, 3) := by decide +kernel
theorem dX9_see_68 : decode cX9_see 68 = .ok (.iconst 1, 1) := by decide +kernel
theorem dX9_see_69 : decode cX9_see 69 = .ok (.iadd, 1) := by decide +kernel
theorem dX9_see_70 : decode cX9_see 70 = .ok (.putfield 268, 3) := by decide +kernel
theorem dX9_see_73 : decode cX9_see 73 = .ok (.aload_n 0, 1) := by decide +kernel
theorem dX9_see_74 : decode cX9_see 74 = .ok (.getfield 268, 3) := by decide +kernel
theorem dX9_see_77 : decode cX9_see 77 = .ok (.ireturn, 1) := by decide +kernel
theorem dX9_isAllSo_0 : decode cX9_isAllSo 0 = .ok (.iconst 0, 1) := by decide +kernel
theorem dX9_isAllSo_1 : decode cX9_isAllSo 1 = .ok (.istore_n 1, 1) := by decide +kernel
theorem dX9_isAllSo_2 : decode cX9_isAllSo 2 = .ok (.iload_n 1, 1) := by decide +kernel
theorem dX9_isAllSo_3 : decode cX9_isAllSo 3 = .ok (.aload_n 0, 1) := by decide +kernel
theorem dX9_isAllSo_4 : decode cX9_isAllSo 4 = .ok (.getfield 268, 3) := by decide +kernel
theorem dX9_isAllSo_7 : decode cX9_isAllSo 7 = .ok (.if_icmp .ge 39, 3) := by decide +kernel
theorem dX9_isAllSo_10 : decode cX9_isAllSo 10 = .ok (.aload_n 0, 1) := by decide +kernel
theorem dX9_isAllSo_11 : decode cX9_isAllSo 11 = .ok (.aload_n 0, 1) := by decide +kernel
theorem dX9_isAllSo_12 : decode cX9_isAllSo 12 = .ok (.getfield 40, 3) := by decide +kernel
theorem dX9_isAllSo_15 : decode cX9_isAllSo 15 = .ok (.iload_n 1, 1) := by decide +kernel
theorem dX9_isAllSo_16 : decode cX9_isAllSo 16 = .ok (.iaload, 1) := by decide +kernel
theorem dX9_isAllSo_17 : decode cX9_isAllSo 17 = .ok (.invokevirtual 199, 3) := by decide +kernel
theorem dX9_isAllSo_20 : decode cX9_isAllSo 20 = .ok (.aload_n 0, 1) := by decide +kernel
theorem dX9_isAllSo_21 : decode cX9_isAllSo 21 = .ok (.getfield 43, 3) := by decide +kernel
theorem dX9_isAllSo_24 : decode cX9_isAllSo 24 = .ok (.iload_n 1, 1) := by decide +kernel
theorem dX9_isAllSo_25 : decode cX9_isAllSo 25 = .ok (.iaload, 1) := by decide +kernel
theorem dX9_isAllSo_26 : decode cX9_isAllSo 26 = .ok (.iconst 1, 1) := by decide +kernel
theorem dX9_isAllSo_27 : decode cX9_isAllSo 27 = .ok (.if_icmp .ne 7, 3) := by decide +kernel
theorem dX9_isAllSo_30 : decode cX9_isAllSo 30 = .ok (.iconst 1, 1) := by decide +kernel
theorem dX9_isAllSo_31 : decode cX9_isAllSo 31 = .ok (.goto 4, 3) := by decide +kernel
theorem dX9_isAllSo_34 : decode cX9_isAllSo 34 = .ok (.iconst 0, 1) := by decide +kernel
theorem dX9_isAllSo_35 : decode cX9_isAllSo 35 = .ok (.if_icmp .eq 5, 3) := by decide +kernel
theorem dX9_isAllSo_38 : decode cX9_isAllSo 38 = .ok (.iconst 0, 1) := by decide +kernel
theorem dX9_isAllSo_39 : decode cX9_isAllSo 39 = .ok (.ireturn, 1) := by decide +kernel
theorem dX9_isAllSo_40 : decode cX9_isAllSo 40 = .ok (.iinc 1 1, 3) := by decide +kernel
theorem dX9_isAllSo_43 : decode cX9_isAllSo 43 = .ok (.goto (-41), 3) := by decide +kernel
theorem dX9_isAllSo_46 : decode cX9_isAllSo 46 = .ok (.iconst 1, 1) := by decide +kernel
theorem dX9_isAllSo_47 : decode cX9_isAllSo 47 = .ok (.ireturn, 1) := by decide +kernel
theorem dX9_fits_0 : decode cX9_fits 0 = .ok (.aload_n 0, 1) := by decide +kernel
theorem dX9_fits_1 : decode cX9_fits 1 = .ok (.iload_n 1, 1) := by decide +kernel
theorem dX9_fits_2 : decode cX9_fits 2 = .ok (.invokevirtual 108, 3) := by decide +kernel
theorem dX9_fits_5 : decode cX9_fits 5 = .ok (.ifCond .eq 12, 3) := by decide +kernel
theorem dX9_fits_8 : decode cX9_fits 8 = .ok (.iload_n 2, 1) := by decide +kernel
theorem dX9_fits_9 : decode cX9_fits 9 = .ok (.iconst 0, 1) := by decide +kernel
theorem dX9_fits_10 : decode cX9_fits 10 = .ok (.iconst 1, 1) := by decide +kernel
theorem dX9_fits_11 : decode cX9_fits 11 = .ok (.invokestatic 93, 3) := by decide +kernel
theorem dX9_fits_14 : decode cX9_fits 14 = .ok (.ifCond .ne 5, 3) := by decide +kernel
theorem dX9_fits_17 : decode cX9_fits 17 = .ok (.iconst (-1), 1) := by decide +kernel
theorem dX9_fits_18 : decode cX9_fits 18 = .ok (.ireturn, 1) := by decide +kernel
theorem dX9_fits_19 : decode cX9_fits 19 = .ok (.aload_n 0, 1) := by decide +kernel
theorem dX9_fits_20 : decode cX9_fits 20 = .ok (.getfield 18, 3) := by decide +kernel
theorem dX9_fits_23 : decode cX9_fits 23 = .ok (.iload_n 1, 1) := by decide +kernel
theorem dX9_fits_24 : decode cX9_fits 24 = .ok (.iaload, 1) := by decide +kernel
theorem dX9_fits_25 : decode cX9_fits 25 = .ok (.istore_n 3, 1) := by decide +kernel
theorem dX9_fits_26 : decode cX9_fits 26 = .ok (.aload_n 0, 1) := by decide +kernel
theorem dX9_fits_27 : decode cX9_fits 27 = .ok (.getfield 21, 3) := by decide +kernel
theorem dX9_fits_30 : decode cX9_fits 30 = .ok (.iload_n 1, 1) := by decide +kernel
theorem dX9_fits_31 : decode cX9_fits 31 = .ok (.iaload, 1) := by decide +kernel
theorem dX9_fits_32 : decode cX9_fits 32 = .ok (.istore 4, 2) := by decide +kernel
theorem dX9_fits_34 : decode cX9_fits 34 = .ok (.aload_n 0, 1) := by decide +kernel
theorem dX9_fits_35 : decode cX9_fits 35 = .ok (.getfield 18, 3) := by decide +kernel
theorem dX9_fits_38 : decode cX9_fits 38 = .ok (.iload_n 1, 1) := by decide +kernel
theorem dX9_fits_39 : decode cX9_fits 39 = .ok (.iconst 2, 1) := by decide +kernel
theorem dX9_fits_40 : decode cX9_fits 40 = .ok (.iastore, 1) := by decide +kernel
theorem dX9_fits_41 : decode cX9_fits 41 = .ok (.iconst 0, 1) := by decide +kernel
theorem dX9_fits_42 : decode cX9_fits 42 = .ok (.istore 5, 2) := by decide +kernel
theorem dX9_fits_44 : decode cX9_fits 44 = .ok (.bipush (-5), 2) := by decide +kernel
theorem dX9_fits_46 : decode cX9_fits 46 = .ok (.istore 6, 2) := by decide +kernel
theorem dX9_fits_48 : decode cX9_fits 48 = .ok (.iconst 5, 1) := by decide +kernel
theorem dX9_fits_49 : decode cX9_fits 49 = .ok (.istore 7, 2) := by decide +kernel
theorem dX9_fits_51 : decode cX9_fits 51 = .ok (.iload 7, 2) := by decide +kernel
theorem dX9_fits_53 : decode cX9_fits 53 = .ok (.ifCond .lt 34, 3) := by decide +kernel
theorem dX9_fits_56 : decode cX9_fits 56 = .ok (.aload_n 0, 1) := by decide +kernel
theorem dX9_fits_57 : decode cX9_fits 57 = .ok (.getfield 21, 3) := by decide +kernel
theorem dX9_fits_60 : decode cX9_fits 60 = .ok (.iload_n 1, 1) := by decide +kernel
theorem dX9_fits_61 : decode cX9_fits 61 = .ok (.iload 7, 2) := by decide +kernel
theorem dX9_fits_63 : decode cX9_fits 63 = .ok (.iastore, 1) := by decide +kernel
theorem dX9_fits_64 : decode cX9_fits 64 = .ok (.aload_n 0, 1) := by decide +kernel
theorem dX9_fits_65 : decode cX9_fits 65 = .ok (.invokevirtual 271, 3) := by decide +kernel
theorem dX9_fits_68 : decode cX9_fits 68 = .ok (.ifCond .ne 6, 3) := by decide +kernel
theorem dX9_fits_71 : decode cX9_fits 71 = .ok (.goto 10, 3) := by decide +kernel
theorem dX9_fits_74 : decode cX9_fits 74 = .ok (.iinc 5 1, 3) := by decide +kernel
theorem dX9_fits_77 : decode cX9_fits 77 = .ok (.iload 7, 2) := by decide +kernel
theorem dX9_fits_79 : decode cX9_fits 79 = .ok (.istore 6, 2) := by decide +kernel
theorem dX9_fits_81 : decode cX9_fits 81 = .ok (.iinc 7 (-1), 3) := by decide +kernel
theorem dX9_fits_84 : decode cX9_fits 84 = .ok (.goto (-33), 3) := by decide +kernel
theorem dX9_fits_87 : decode cX9_fits 87 = .ok (.aload_n 0, 1) := by decide +kernel
theorem dX9_fits_88 : decode cX9_fits 88 = .ok (.getfield 18, 3) := by decide +kernel
theorem dX9_fits_91 : decode cX9_fits 91 = .ok (.iload_n 1, 1) := by decide +kernel
theorem dX9_fits_92 : decode cX9_fits 92 = .ok (.iload_n 3, 1) := by decide +kernel
theorem dX9_fits_93 : decode cX9_fits 93 = .ok (.iastore, 1) := by decide +kernel
theorem dX9_fits_94 : decode cX9_fits 94 = .ok (.aload_n 0, 1) := by decide +kernel
theorem dX9_fits_95 : decode cX9_fits 95 = .ok (.getfield 21, 3) := by decide +kernel
theorem dX9_fits_98 : decode cX9_fits 98 = .ok (.iload_n 1, 1) := by decide +kernel
theorem dX9_fits_99 : decode cX9_fits 99 = .ok (.iload 4, 2) := by decide +kernel
theorem dX9_fits_101 : decode cX9_fits 101 = .ok (.iastore, 1) := by decide +kernel
theorem dX9_fits_102 : decode cX9_fits 102 = .ok (.iload_n 2, 1) := by decide +kernel
theorem dX9_fits_103 : decode cX9_fits 103 = .ok (.ifCond .ne 8, 3) := by decide +kernel
theorem dX9_fits_106 : decode cX9_fits 106 = .ok (.iload 5, 2) := by decide +kernel
theorem dX9_fits_108 : decode cX9_fits 108 = .ok (.goto 5, 3) := by decide +kernel
theorem dX9_fits_111 : decode cX9_fits 111 = .ok (.iload 6, 2) := by decide +kernel
theorem dX9_fits_113 : decode cX9_fits 113 = .ok (.ireturn, 1) := by decide +kernel
theorem dX9_mean_0 : decode cX9_mean 0 = .ok (.aload_n 0, 1) := by decide +kernel
theorem dX9_mean_1 : decode cX9_mean 1 = .ok (.getfield 97, 3) := by decide +kernel
theorem dX9_mean_4 : decode cX9_mean 4 = .ok (.ifCond .eq 20, 3) := by decide +kernel
theorem dX9_mean_7 : decode cX9_mean 7 = .ok (.iload_n 1, 1) := by decide +kernel
theorem dX9_mean_8 : decode cX9_mean 8 = .ok (.iconst 0, 1) := by decide +kernel
theorem dX9_mean_9 : decode cX9_mean 9 = .ok (.iconst 1, 1) := by decide +kernel
theorem dX9_mean_10 : decode cX9_mean 10 = .ok (.invokestatic 93, 3) := by decide +kernel
theorem dX9_mean_13 : decode cX9_mean 13 = .ok (.ifCond .eq 11, 3) := by decide +kernel
theorem dX9_mean_16 : decode cX9_mean 16 = .ok (.aload_n 0, 1) := by decide +kernel
theorem dX9_mean_17 : decode cX9_mean 17 = .ok (.iconst 1, 1) := by decide +kernel
theorem dX9_mean_18 : decode cX9_mean 18 = .ok (.invokevirtual 259, 3) := by decide +kernel
theorem dX9_mean_21 : decode cX9_mean 21 = .ok (.ifCond .ne 7, 3) := by decide +kernel
theorem dX9_mean_24 : decode cX9_mean 24 = .ok (.ldc2_w 241, 3) := by decide +kernel
theorem dX9_mean_27 : decode cX9_mean 27 = .ok (.lreturn, 1) := by decide +kernel
theorem dX9_mean_28 : decode cX9_mean 28 = .ok (.lconst 0, 1) := by decide +kernel
theorem dX9_mean_29 : decode cX9_mean 29 = .ok (.lstore_n 2, 1) := by decide +kernel
theorem dX9_mean_30 : decode cX9_mean 30 = .ok (.iconst 0, 1) := by decide +kernel
theorem dX9_mean_31 : decode cX9_mean 31 = .ok (.istore 4, 2) := by decide +kernel
theorem dX9_mean_33 : decode cX9_mean 33 = .ok (.iload 4, 2) := by decide +kernel
theorem dX9_mean_35 : decode cX9_mean 35 = .ok (.aload_n 0, 1) := by decide +kernel
theorem dX9_mean_36 : decode cX9_mean 36 = .ok (.getfield 209, 3) := by decide +kernel
theorem dX9_mean_39 : decode cX9_mean 39 = .ok (.if_icmp .ge 23, 3) := by decide +kernel
theorem dX9_mean_42 : decode cX9_mean 42 = .ok (.lload_n 2, 1) := by decide +kernel
theorem dX9_mean_43 : decode cX9_mean 43 = .ok (.aload_n 0, 1) := by decide +kernel
theorem dX9_mean_44 : decode cX9_mean 44 = .ok (.getfield 72, 3) := by decide +kernel
theorem dX9_mean_47 : decode cX9_mean 47 = .ok (.iload 4, 2) := by decide +kernel
theorem dX9_mean_49 : decode cX9_mean 49 = .ok (.iaload, 1) := by decide +kernel
theorem dX9_mean_50 : decode cX9_mean 50 = .ok (.invokestatic 212, 3) := by decide +kernel
theorem dX9_mean_53 : decode cX9_mean 53 = .ok (.i2l, 1) := by decide +kernel
theorem dX9_mean_54 : decode cX9_mean 54 = .ok (.ladd, 1) := by decide +kernel
theorem dX9_mean_55 : decode cX9_mean 55 = .ok (.lstore_n 2, 1) := by decide +kernel
theorem dX9_mean_56 : decode cX9_mean 56 = .ok (.iinc 4 1, 3) := by decide +kernel
theorem dX9_mean_59 : decode cX9_mean 59 = .ok (.goto (-26), 3) := by decide +kernel
theorem dX9_mean_62 : decode cX9_mean 62 = .ok (.lload_n 2, 1) := by decide +kernel
theorem dX9_mean_63 : decode cX9_mean 63 = .ok (.aload_n 0, 1) := by decide +kernel
theorem dX9_mean_64 : decode cX9_mean 64 = .ok (.getfield 209, 3) := by decide +kernel
theorem dX9_mean_67 : decode cX9_mean 67 = .ok (.i2l, 1) := by decide +kernel
theorem dX9_mean_68 : decode cX9_mean 68 = .ok (.iload_n 1, 1) := by decide +kernel
theorem dX9_mean_69 : decode cX9_mean 69 = .ok (.invokestatic 249, 3) := by decide +kernel
theorem dX9_mean_72 : decode cX9_mean 72 = .ok (.lreturn, 1) := by decide +kernel
theorem dX9_event_0 : decode cX9_event 0 = .ok (.iload_n 1, 1) := by decide +kernel
theorem dX9_event_1 : decode cX9_event 1 = .ok (.iconst (-1), 1) := by decide +kernel
theorem dX9_event_2 : decode cX9_event 2 = .ok (.if_icmp .ne 10, 3) := by decide +kernel
theorem dX9_event_5 : decode cX9_event 5 = .ok (.aload_n 0, 1) := by decide +kernel
theorem dX9_event_6 : decode cX9_event 6 = .ok (.iconst 0, 1) := by decide +kernel
theorem dX9_event_7 : decode cX9_event 7 = .ok (.putfield 275, 3) := by decide +kernel
theorem dX9_event_10 : decode cX9_event 10 = .ok (.iconst 0, 1) := by decide +kernel
theorem dX9_event_11 : decode cX9_event 11 = .ok (.ireturn, 1) := by decide +kernel
theorem dX9_event_12 : decode cX9_event 12 = .ok (.iload_n 1, 1) := by decide +kernel
theorem dX9_event_13 : decode cX9_event 13 = .ok (.iconst 0, 1) := by decide +kernel
theorem dX9_event_14 : decode cX9_event 14 = .ok (.iconst 3, 1) := by decide +kernel
theorem dX9_event_15 : decode cX9_event 15 = .ok (.invokestatic 93, 3) := by decide +kernel
theorem dX9_event_18 : decode cX9_event 18 = .ok (.ifCond .eq 27, 3) := by decide +kernel
theorem dX9_event_21 : decode cX9_event 21 = .ok (.iload_n 1, 1) := by decide +kernel
theorem dX9_event_22 : decode cX9_event 22 = .ok (.iconst 2, 1) := by decide +kernel
theorem dX9_event_23 : decode cX9_event 23 = .ok (.if_icmp .ge 14, 3) := by decide +kernel
theorem dX9_event_26 : decode cX9_event 26 = .ok (.aload_n 0, 1) := by decide +kernel
theorem dX9_event_27 : decode cX9_event 27 = .ok (.iload_n 2, 1) := by decide +kernel
theorem dX9_event_28 : decode cX9_event 28 = .ok (.invokevirtual 111, 3) := by decide +kernel
theorem dX9_event_31 : decode cX9_event 31 = .ok (.ifCond .ne 16, 3) := by decide +kernel
theorem dX9_event_34 : decode cX9_event 34 = .ok (.goto 11, 3) := by decide +kernel
theorem dX9_event_37 : decode cX9_event 37 = .ok (.aload_n 0, 1) := by decide +kernel
theorem dX9_event_38 : decode cX9_event 38 = .ok (.iload_n 2, 1) := by decide +kernel
theorem dX9_event_39 : decode cX9_event 39 = .ok (.invokevirtual 108, 3) := by decide +kernel
theorem dX9_event_42 : decode cX9_event 42 = .ok (.ifCond .ne 5, 3) := by decide +kernel
theorem dX9_event_45 : decode cX9_event 45 = .ok (.iconst (-1), 1) := by decide +kernel
theorem dX9_event_46 : decode cX9_event 46 = .ok (.ireturn, 1) := by decide +kernel
theorem dX9_event_47 : decode cX9_event 47 = .ok (.aload_n 0, 1) := by decide +kernel
theorem dX9_event_48 : decode cX9_event 48 = .ok (.getfield 275, 3) := by decide +kernel
theorem dX9_event_51 : decode cX9_event 51 = .ok (.bipush 8, 2) := by decide +kernel
theorem dX9_event_53 : decode cX9_event 53 = .ok (.if_icmp .ne 6, 3) := by decide +kernel
theorem dX9_event_56 : decode cX9_event 56 = .ok (.bipush (-4), 2) := by decide +kernel
theorem dX9_event_58 : decode cX9_event 58 = .ok (.ireturn, 1) := by decide +kernel
theorem dX9_event_59 : decode cX9_event 59 = .ok (.aload_n 0, 1) := by decide +kernel
theorem dX9_event_60 : decode cX9_event 60 = .ok (.getfield 46, 3) := by decide +kernel
theorem dX9_event_63 : decode cX9_event 63 = .ok (.iconst 2, 1) := by decide +kernel
theorem dX9_event_64 : decode cX9_event 64 = .ok (.aload_n 0, 1) := by decide +kernel
theorem dX9_event_65 : decode cX9_event 65 = .ok (.getfield 275, 3) := by decide +kernel
theorem dX9_event_68 : decode cX9_event 68 = .ok (.imul, 1) := by decide +kernel
theorem dX9_event_69 : decode cX9_event 69 = .ok (.iload_n 1, 1) := by decide +kernel
theorem dX9_event_70 : decode cX9_event 70 = .ok (.iastore, 1) := by decide +kernel
theorem dX9_event_71 : decode cX9_event 71 = .ok (.aload_n 0, 1) := by decide +kernel
theorem dX9_event_72 : decode cX9_event 72 = .ok (.getfield 46, 3) := by decide +kernel
theorem dX9_event_75 : decode cX9_event 75 = .ok (.iconst 2, 1) := by decide +kernel
theorem dX9_event_76 : decode cX9_event 76 = .ok (.aload_n 0, 1) := by decide +kernel
theorem dX9_event_77 : decode cX9_event 77 = .ok (.getfield 275, 3) := by decide +kernel
theorem dX9_event_80 : decode cX9_event 80 = .ok (.imul, 1) := by decide +kernel
theorem dX9_event_81 : decode cX9_event 81 = .ok (.iconst 1, 1) := by decide +kernel
theorem dX9_event_82 : decode cX9_event 82 = .ok (.iadd, 1) := by decide +kernel
theorem dX9_event_83 : decode cX9_event 83 = .ok (.iload_n 2, 1) := by decide +kernel
theorem dX9_event_84 : decode cX9_event 84 = .ok (.iastore, 1) := by decide +kernel
theorem dX9_event_85 : decode cX9_event 85 = .ok (.aload_n 0, 1) := by decide +kernel
theorem dX9_event_86 : decode cX9_event 86 = .ok (.dup, 1) := by decide +kernel
theorem dX9_event_87 : decode cX9_event 87 = .ok (.getfield 275, 3) := by decide +kernel
theorem dX9_event_90 : decode cX9_event 90 = .ok (.iconst 1, 1) := by decide +kernel
theorem dX9_event_91 : decode cX9_event 91 = .ok (.iadd, 1) := by decide +kernel
theorem dX9_event_92 : decode cX9_event 92 = .ok (.putfield 275, 3) := by decide +kernel
theorem dX9_event_95 : decode cX9_event 95 = .ok (.aload_n 0, 1) := by decide +kernel
theorem dX9_event_96 : decode cX9_event 96 = .ok (.getfield 275, 3) := by decide +kernel
theorem dX9_event_99 : decode cX9_event 99 = .ok (.ireturn, 1) := by decide +kernel
theorem dX9_after_0 : decode cX9_after 0 = .ok (.iload_n 1, 1) := by decide +kernel
theorem dX9_after_1 : decode cX9_after 1 = .ok (.iconst 0, 1) := by decide +kernel
theorem dX9_after_2 : decode cX9_after 2 = .ok (.iconst 3, 1) := by decide +kernel
theorem dX9_after_3 : decode cX9_after 3 = .ok (.invokestatic 93, 3) := by decide +kernel
theorem dX9_after_6 : decode cX9_after 6 = .ok (.ifCond .ne 5, 3) := by decide +kernel
theorem dX9_after_9 : decode cX9_after 9 = .ok (.iconst (-1), 1) := by decide +kernel
theorem dX9_after_10 : decode cX9_after 10 = .ok (.ireturn, 1) := by decide +kernel
theorem dX9_after_11 : decode cX9_after 11 = .ok (.aload_n 0, 1) := by decide +kernel
theorem dX9_after_12 : decode cX9_after 12 = .ok (.getfield 97, 3) := by decide +kernel
theorem dX9_after_15 : decode cX9_after 15 = .ok (.ifCond .ne 6, 3) := by decide +kernel
theorem dX9_after_18 : decode cX9_after 18 = .ok (.bipush (-3), 2) := by decide +kernel
theorem dX9_after_20 : decode cX9_after 20 = .ok (.ireturn, 1) := by decide +kernel
theorem dX9_after_21 : decode cX9_after 21 = .ok (.iconst 0, 1) := by decide +kernel
theorem dX9_after_22 : decode cX9_after 22 = .ok (.istore_n 2, 1) := by decide +kernel
theorem dX9_after_23 : decode cX9_after 23 = .ok (.iload_n 2, 1) := by decide +kernel
theorem dX9_after_24 : decode cX9_after 24 = .ok (.bipush 6, 2) := by decide +kernel
theorem dX9_after_26 : decode cX9_after 26 = .ok (.if_icmp .ge 21, 3) := by decide +kernel
theorem dX9_after_29 : decode cX9_after 29 = .ok (.aload_n 0, 1) := by decide +kernel
theorem dX9_after_30 : decode cX9_after 30 = .ok (.getfield 75, 3) := by decide +kernel
theorem dX9_after_33 : decode cX9_after 33 = .ok (.iload_n 2, 1) := by decide +kernel
theorem dX9_after_34 : decode cX9_after 34 = .ok (.aload_n 0, 1) := by decide +kernel
theorem dX9_after_35 : decode cX9_after 35 = .ok (.getfield 9, 3) := by decide +kernel
theorem dX9_after_38 : decode cX9_after 38 = .ok (.iload_n 2, 1) := by decide +kernel
theorem dX9_after_39 : decode cX9_after 39 = .ok (.iaload, 1) := by decide +kernel
theorem dX9_after_40 : decode cX9_after 40 = .ok (.iastore, 1) := by decide +kernel
theorem dX9_after_41 : decode cX9_after 41 = .ok (.iinc 2 1, 3) := by decide +kernel
theorem dX9_after_44 : decode cX9_after 44 = .ok (.goto (-21), 3) := by decide +kernel
theorem dX9_after_47 : decode cX9_after 47 = .ok (.iconst 0, 1) := by decide +kernel
theorem dX9_after_48 : decode cX9_after 48 = .ok (.istore_n 2, 1) := by decide +kernel
theorem dX9_after_49 : decode cX9_after 49 = .ok (.iload_n 2, 1) := by decide +kernel
theorem dX9_after_50 : decode cX9_after 50 = .ok (.bipush 8, 2) := by decide +kernel
theorem dX9_after_52 : decode cX9_after 52 = .ok (.if_icmp .ge 24, 3) := by decide +kernel
theorem dX9_after_55 : decode cX9_after 55 = .ok (.aload_n 0, 1) := by decide +kernel
theorem dX9_after_56 : decode cX9_after 56 = .ok (.getfield 75, 3) := by decide +kernel
theorem dX9_after_59 : decode cX9_after 59 = .ok (.bipush 6, 2) := by decide +kernel
theorem dX9_after_61 : decode cX9_after 61 = .ok (.iload_n 2, 1) := by decide +kernel
theorem dX9_after_62 : decode cX9_after 62 = .ok (.iadd, 1) := by decide +kernel
theorem dX9_after_63 : decode cX9_after 63 = .ok (.aload_n 0, 1) := by decide +kernel
theorem dX9_after_64 : decode cX9_after 64 = .ok (.getfield 18, 3) := by decide +kernel
theorem dX9_after_67 : decode cX9_after 67 = .ok (.iload_n 2, 1) := by decide +kernel
theorem dX9_after_68 : decode cX9_after 68 = .ok (.iaload, 1) := by decide +kernel
theorem dX9_after_69 : decode cX9_after 69 = .ok (.iastore, 1) := by decide +kernel
theorem dX9_after_70 : decode cX9_after 70 = .ok (.iinc 2 1, 3) := by decide +kernel
theorem dX9_after_73 : decode cX9_after 73 = .ok (.goto (-24), 3) := by decide +kernel
theorem dX9_after_76 : decode cX9_after 76 = .ok (.iconst 0, 1) := by decide +kernel
theorem dX9_after_77 : decode cX9_after 77 = .ok (.istore_n 2, 1) := by decide +kernel
theorem dX9_after_78 : decode cX9_after 78 = .ok (.iload_n 2, 1) := by decide +kernel
theorem dX9_after_79 : decode cX9_after 79 = .ok (.aload_n 0, 1) := by decide +kernel
theorem dX9_after_80 : decode cX9_after 80 = .ok (.getfield 275, 3) := by decide +kernel
theorem dX9_after_83 : decode cX9_after 83 = .ok (.if_icmp .ge 68, 3) := by decide +kernel
theorem dX9_after_86 : decode cX9_after 86 = .ok (.aload_n 0, 1) := by decide +kernel
theorem dX9_after_87 : decode cX9_after 87 = .ok (.getfield 46, 3) := by decide +kernel
theorem dX9_after_90 : decode cX9_after 90 = .ok (.iconst 2, 1) := by decide +kernel
theorem dX9_after_91 : decode cX9_after 91 = .ok (.iload_n 2, 1) := by decide +kernel
theorem dX9_after_92 : decode cX9_after 92 = .ok (.imul, 1) := by decide +kernel
theorem dX9_after_93 : decode cX9_after 93 = .ok (.iconst 1, 1) := by decide +kernel
theorem dX9_after_94 : decode cX9_after 94 = .ok (.iadd, 1) := by decide +kernel
theorem dX9_after_95 : decode cX9_after 95 = .ok (.iaload, 1) := by decide +kernel
theorem dX9_after_96 : decode cX9_after 96 = .ok (.istore_n 3, 1) := by decide +kernel
theorem dX9_after_97 : decode cX9_after 97 = .ok (.aload_n 0, 1) := by decide +kernel
theorem dX9_after_98 : decode cX9_after 98 = .ok (.getfield 46, 3) := by decide +kernel
theorem dX9_after_101 : decode cX9_after 101 = .ok (.iconst 2, 1) := by decide +kernel
theorem dX9_after_102 : decode cX9_after 102 = .ok (.iload_n 2, 1) := by decide +kernel
theorem dX9_after_103 : decode cX9_after 103 = .ok (.imul, 1) := by decide +kernel
theorem dX9_after_104 : decode cX9_after 104 = .ok (.iaload, 1) := by decide +kernel
theorem dX9_after_105 : decode cX9_after 105 = .ok (.iconst 2, 1) := by decide +kernel
theorem dX9_after_106 : decode cX9_after 106 = .ok (.if_icmp .ge 23, 3) := by decide +kernel
theorem dX9_after_109 : decode cX9_after 109 = .ok (.aload_n 0, 1) := by decide +kernel
theorem dX9_after_110 : decode cX9_after 110 = .ok (.getfield 9, 3) := by decide +kernel
theorem dX9_after_113 : decode cX9_after 113 = .ok (.iload_n 3, 1) := by decide +kernel
theorem dX9_after_114 : decode cX9_after 114 = .ok (.bipush 100, 2) := by decide +kernel
theorem dX9_after_116 : decode cX9_after 116 = .ok (.aload_n 0, 1) := by decide +kernel
