theorem dX0_init_0 : decode cX0_init 0 = .ok (.aload_n 0, 1) := by decide +kernel
theorem dX0_init_1 : decode cX0_init 1 = .ok (.invokespecial 3, 3) := by decide +kernel
theorem dX0_init_4 : decode cX0_init 4 = .ok (.aload_n 0, 1) := by decide +kernel
theorem dX0_init_5 : decode cX0_init 5 = .ok (.bipush 64, 2) := by decide +kernel
theorem dX0_init_7 : decode cX0_init 7 = .ok (.newarray .long, 2) := by decide +kernel
theorem dX0_init_9 : decode cX0_init 9 = .ok (.putfield 9, 3) := by decide +kernel
theorem dX0_init_12 : decode cX0_init 12 = .ok (.return_, 1) := by decide +kernel
theorem dX0_below_0 : decode cX0_below 0 = .ok (.lconst 1, 1) := by decide +kernel
theorem dX0_below_1 : decode cX0_below 1 = .ok (.lstore_n 2, 1) := by decide +kernel
theorem dX0_below_2 : decode cX0_below 2 = .ok (.iconst 0, 1) := by decide +kernel
theorem dX0_below_3 : decode cX0_below 3 = .ok (.istore 4, 2) := by decide +kernel
theorem dX0_below_5 : decode cX0_below 5 = .ok (.iload 4, 2) := by decide +kernel
theorem dX0_below_7 : decode cX0_below 7 = .ok (.aload_n 1, 1) := by decide +kernel
theorem dX0_below_8 : decode cX0_below 8 = .ok (.getfield 15, 3) := by decide +kernel
theorem dX0_below_11 : decode cX0_below 11 = .ok (.aload_n 1, 1) := by decide +kernel
theorem dX0_below_12 : decode cX0_below 12 = .ok (.getfield 21, 3) := by decide +kernel
theorem dX0_below_15 : decode cX0_below 15 = .ok (.iadd, 1) := by decide +kernel
theorem dX0_below_16 : decode cX0_below 16 = .ok (.if_icmp .ge 15, 3) := by decide +kernel
theorem dX0_below_19 : decode cX0_below 19 = .ok (.lload_n 2, 1) := by decide +kernel
theorem dX0_below_20 : decode cX0_below 20 = .ok (.ldc2_w 24, 3) := by decide +kernel
theorem dX0_below_23 : decode cX0_below 23 = .ok (.lmul, 1) := by decide +kernel
theorem dX0_below_24 : decode cX0_below 24 = .ok (.lstore_n 2, 1) := by decide +kernel
theorem dX0_below_25 : decode cX0_below 25 = .ok (.iinc 4 1, 3) := by decide +kernel
theorem dX0_below_28 : decode cX0_below 28 = .ok (.goto (-23), 3) := by decide +kernel
theorem dX0_below_31 : decode cX0_below 31 = .ok (.lload_n 2, 1) := by decide +kernel
theorem dX0_below_32 : decode cX0_below 32 = .ok (.lreturn, 1) := by decide +kernel
theorem dX0_above_0 : decode cX0_above 0 = .ok (.iconst 1, 1) := by decide +kernel
theorem dX0_above_1 : decode cX0_above 1 = .ok (.aload_n 1, 1) := by decide +kernel
theorem dX0_above_2 : decode cX0_above 2 = .ok (.getfield 15, 3) := by decide +kernel
theorem dX0_above_5 : decode cX0_above 5 = .ok (.ishl, 1) := by decide +kernel
theorem dX0_above_6 : decode cX0_above 6 = .ok (.istore 6, 2) := by decide +kernel
theorem dX0_above_8 : decode cX0_above 8 = .ok (.iconst 0, 1) := by decide +kernel
theorem dX0_above_9 : decode cX0_above 9 = .ok (.istore 7, 2) := by decide +kernel
theorem dX0_above_11 : decode cX0_above 11 = .ok (.iload 7, 2) := by decide +kernel
theorem dX0_above_13 : decode cX0_above 13 = .ok (.iload 6, 2) := by decide +kernel
theorem dX0_above_15 : decode cX0_above 15 = .ok (.if_icmp .ge 17, 3) := by decide +kernel
theorem dX0_above_18 : decode cX0_above 18 = .ok (.aload_n 0, 1) := by decide +kernel
theorem dX0_above_19 : decode cX0_above 19 = .ok (.getfield 9, 3) := by decide +kernel
theorem dX0_above_22 : decode cX0_above 22 = .ok (.iload 7, 2) := by decide +kernel
theorem dX0_above_24 : decode cX0_above 24 = .ok (.lconst 0, 1) := by decide +kernel
theorem dX0_above_25 : decode cX0_above 25 = .ok (.lastore, 1) := by decide +kernel
theorem dX0_above_26 : decode cX0_above 26 = .ok (.iinc 7 1, 3) := by decide +kernel
theorem dX0_above_29 : decode cX0_above 29 = .ok (.goto (-18), 3) := by decide +kernel
theorem dX0_above_32 : decode cX0_above 32 = .ok (.aload_n 0, 1) := by decide +kernel
theorem dX0_above_33 : decode cX0_above 33 = .ok (.getfield 9, 3) := by decide +kernel
theorem dX0_above_36 : decode cX0_above 36 = .ok (.iconst 0, 1) := by decide +kernel
theorem dX0_above_37 : decode cX0_above 37 = .ok (.lconst 1, 1) := by decide +kernel
theorem dX0_above_38 : decode cX0_above 38 = .ok (.lastore, 1) := by decide +kernel
theorem dX0_above_39 : decode cX0_above 39 = .ok (.iconst 0, 1) := by decide +kernel
theorem dX0_above_40 : decode cX0_above 40 = .ok (.istore 7, 2) := by decide +kernel
theorem dX0_above_42 : decode cX0_above 42 = .ok (.iload 7, 2) := by decide +kernel
theorem dX0_above_44 : decode cX0_above 44 = .ok (.aload_n 1, 1) := by decide +kernel
theorem dX0_above_45 : decode cX0_above 45 = .ok (.getfield 15, 3) := by decide +kernel
theorem dX0_above_48 : decode cX0_above 48 = .ok (.if_icmp .ge 38, 3) := by decide +kernel
theorem dX0_above_51 : decode cX0_above 51 = .ok (.aload_n 0, 1) := by decide +kernel
theorem dX0_above_52 : decode cX0_above 52 = .ok (.iconst 1, 1) := by decide +kernel
theorem dX0_above_53 : decode cX0_above 53 = .ok (.iload 7, 2) := by decide +kernel
theorem dX0_above_55 : decode cX0_above 55 = .ok (.ishl, 1) := by decide +kernel
theorem dX0_above_56 : decode cX0_above 56 = .ok (.iload 7, 2) := by decide +kernel
theorem dX0_above_58 : decode cX0_above 58 = .ok (.iload 4, 2) := by decide +kernel
theorem dX0_above_60 : decode cX0_above 60 = .ok (.if_icmp .ne 8, 3) := by decide +kernel
theorem dX0_above_63 : decode cX0_above 63 = .ok (.iload 5, 2) := by decide +kernel
theorem dX0_above_65 : decode cX0_above 65 = .ok (.goto 10, 3) := by decide +kernel
theorem dX0_above_68 : decode cX0_above 68 = .ok (.aload_n 1, 1) := by decide +kernel
theorem dX0_above_69 : decode cX0_above 69 = .ok (.getfield 26, 3) := by decide +kernel
theorem dX0_above_72 : decode cX0_above 72 = .ok (.iload 7, 2) := by decide +kernel
theorem dX0_above_74 : decode cX0_above 74 = .ok (.iaload, 1) := by decide +kernel
theorem dX0_above_75 : decode cX0_above 75 = .ok (.iload 6, 2) := by decide +kernel
theorem dX0_above_77 : decode cX0_above 77 = .ok (.invokevirtual 30, 3) := by decide +kernel
theorem dX0_above_80 : decode cX0_above 80 = .ok (.iinc 7 1, 3) := by decide +kernel
theorem dX0_above_83 : decode cX0_above 83 = .ok (.goto (-41), 3) := by decide +kernel
theorem dX0_above_86 : decode cX0_above 86 = .ok (.iconst 0, 1) := by decide +kernel
theorem dX0_above_87 : decode cX0_above 87 = .ok (.istore 7, 2) := by decide +kernel
theorem dX0_above_89 : decode cX0_above 89 = .ok (.iload 7, 2) := by decide +kernel
theorem dX0_above_91 : decode cX0_above 91 = .ok (.aload_n 1, 1) := by decide +kernel
theorem dX0_above_92 : decode cX0_above 92 = .ok (.getfield 21, 3) := by decide +kernel
theorem dX0_above_95 : decode cX0_above 95 = .ok (.if_icmp .ge 56, 3) := by decide +kernel
theorem dX0_above_98 : decode cX0_above 98 = .ok (.bipush 6, 2) := by decide +kernel
theorem dX0_above_100 : decode cX0_above 100 = .ok (.iload 7, 2) := by decide +kernel
theorem dX0_above_102 : decode cX0_above 102 = .ok (.iadd, 1) := by decide +kernel
theorem dX0_above_103 : decode cX0_above 103 = .ok (.iload 4, 2) := by decide +kernel
theorem dX0_above_105 : decode cX0_above 105 = .ok (.if_icmp .ne 7, 3) := by decide +kernel
theorem dX0_above_108 : decode cX0_above 108 = .ok (.iconst 1, 1) := by decide +kernel
theorem dX0_above_109 : decode cX0_above 109 = .ok (.goto 4, 3) := by decide +kernel
theorem dX0_above_112 : decode cX0_above 112 = .ok (.iconst 0, 1) := by decide +kernel
theorem dX0_above_113 : decode cX0_above 113 = .ok (.istore 8, 2) := by decide +kernel
theorem dX0_above_115 : decode cX0_above 115 = .ok (.aload_n 0, 1) := by decide +kernel
theorem dX0_above_116 : decode cX0_above 116 = .ok (.aload_n 1, 1) := by decide +kernel
theorem dX0_above_117 : decode cX0_above 117 = .ok (.getfield 34, 3) := by decide +kernel
theorem dX0_above_120 : decode cX0_above 120 = .ok (.iload 7, 2) := by decide +kernel
theorem dX0_above_122 : decode cX0_above 122 = .ok (.iaload, 1) := by decide +kernel
theorem dX0_above_123 : decode cX0_above 123 = .ok (.iload 8, 2) := by decide +kernel
theorem dX0_above_125 : decode cX0_above 125 = .ok (.ifCond .eq 8, 3) := by decide +kernel
theorem dX0_above_128 : decode cX0_above 128 = .ok (.iload 5, 2) := by decide +kernel
theorem dX0_above_130 : decode cX0_above 130 = .ok (.goto 10, 3) := by decide +kernel
theorem dX0_above_133 : decode cX0_above 133 = .ok (.aload_n 1, 1) := by decide +kernel
theorem dX0_above_134 : decode cX0_above 134 = .ok (.getfield 37, 3) := by decide +kernel
theorem dX0_above_137 : decode cX0_above 137 = .ok (.iload 7, 2) := by decide +kernel
theorem dX0_above_139 : decode cX0_above 139 = .ok (.iaload, 1) := by decide +kernel
theorem dX0_above_140 : decode cX0_above 140 = .ok (.iload 6, 2) := by decide +kernel
theorem dX0_above_142 : decode cX0_above 142 = .ok (.invokevirtual 30, 3) := by decide +kernel
theorem dX0_above_145 : decode cX0_above 145 = .ok (.iinc 7 1, 3) := by decide +kernel
theorem dX0_above_148 : decode cX0_above 148 = .ok (.goto (-59), 3) := by decide +kernel
theorem dX0_above_151 : decode cX0_above 151 = .ok (.aload_n 0, 1) := by decide +kernel
theorem dX0_above_152 : decode cX0_above 152 = .ok (.lload_n 2, 1) := by decide +kernel
theorem dX0_above_153 : decode cX0_above 153 = .ok (.iload 6, 2) := by decide +kernel
theorem dX0_above_155 : decode cX0_above 155 = .ok (.invokevirtual 40, 3) := by decide +kernel
theorem dX0_above_158 : decode cX0_above 158 = .ok (.lreturn, 1) := by decide +kernel
theorem dX0_spread_0 : decode cX0_spread 0 = .ok (.iload_n 3, 1) := by decide +kernel
theorem dX0_spread_1 : decode cX0_spread 1 = .ok (.iconst 1, 1) := by decide +kernel
theorem dX0_spread_2 : decode cX0_spread 2 = .ok (.isub, 1) := by decide +kernel
theorem dX0_spread_3 : decode cX0_spread 3 = .ok (.istore 4, 2) := by decide +kernel
theorem dX0_spread_5 : decode cX0_spread 5 = .ok (.iload 4, 2) := by decide +kernel
theorem dX0_spread_7 : decode cX0_spread 7 = .ok (.ifCond .lt 66, 3) := by decide +kernel
theorem dX0_spread_10 : decode cX0_spread 10 = .ok (.aload_n 0, 1) := by decide +kernel
theorem dX0_spread_11 : decode cX0_spread 11 = .ok (.getfield 9, 3) := by decide +kernel
theorem dX0_spread_14 : decode cX0_spread 14 = .ok (.iload 4, 2) := by decide +kernel
theorem dX0_spread_16 : decode cX0_spread 16 = .ok (.laload, 1) := by decide +kernel
theorem dX0_spread_17 : decode cX0_spread 17 = .ok (.iload_n 2, 1) := by decide +kernel
theorem dX0_spread_18 : decode cX0_spread 18 = .ok (.i2l, 1) := by decide +kernel
theorem dX0_spread_19 : decode cX0_spread 19 = .ok (.lmul, 1) := by decide +kernel
theorem dX0_spread_20 : decode cX0_spread 20 = .ok (.lstore 5, 2) := by decide +kernel
theorem dX0_spread_22 : decode cX0_spread 22 = .ok (.aload_n 0, 1) := by decide +kernel
theorem dX0_spread_23 : decode cX0_spread 23 = .ok (.getfield 9, 3) := by decide +kernel
theorem dX0_spread_26 : decode cX0_spread 26 = .ok (.iload 4, 2) := by decide +kernel
theorem dX0_spread_28 : decode cX0_spread 28 = .ok (.aload_n 0, 1) := by decide +kernel
theorem dX0_spread_29 : decode cX0_spread 29 = .ok (.getfield 9, 3) := by decide +kernel
theorem dX0_spread_32 : decode cX0_spread 32 = .ok (.iload 4, 2) := by decide +kernel
theorem dX0_spread_34 : decode cX0_spread 34 = .ok (.laload, 1) := by decide +kernel
theorem dX0_spread_35 : decode cX0_spread 35 = .ok (.ldc2_w 24, 3) := by decide +kernel
theorem dX0_spread_38 : decode cX0_spread 38 = .ok (.lmul, 1) := by decide +kernel
theorem dX0_spread_39 : decode cX0_spread 39 = .ok (.lload 5, 2) := by decide +kernel
theorem dX0_spread_41 : decode cX0_spread 41 = .ok (.lsub, 1) := by decide +kernel
theorem dX0_spread_42 : decode cX0_spread 42 = .ok (.lastore, 1) := by decide +kernel
theorem dX0_spread_43 : decode cX0_spread 43 = .ok (.iload 4, 2) := by decide +kernel
theorem dX0_spread_45 : decode cX0_spread 45 = .ok (.iload_n 1, 1) := by decide +kernel
theorem dX0_spread_46 : decode cX0_spread 46 = .ok (.ior, 1) := by decide +kernel
theorem dX0_spread_47 : decode cX0_spread 47 = .ok (.istore 7, 2) := by decide +kernel
theorem dX0_spread_49 : decode cX0_spread 49 = .ok (.iload 7, 2) := by decide +kernel
theorem dX0_spread_51 : decode cX0_spread 51 = .ok (.iload_n 3, 1) := by decide +kernel
theorem dX0_spread_52 : decode cX0_spread 52 = .ok (.if_icmp .ge 15, 3) := by decide +kernel
theorem dX0_spread_55 : decode cX0_spread 55 = .ok (.aload_n 0, 1) := by decide +kernel
theorem dX0_spread_56 : decode cX0_spread 56 = .ok (.getfield 9, 3) := by decide +kernel
theorem dX0_spread_59 : decode cX0_spread 59 = .ok (.iload 7, 2) := by decide +kernel
theorem dX0_spread_61 : decode cX0_spread 61 = .ok (.dup2, 1) := by decide +kernel
theorem dX0_spread_62 : decode cX0_spread 62 = .ok (.laload, 1) := by decide +kernel
theorem dX0_spread_63 : decode cX0_spread 63 = .ok (.lload 5, 2) := by decide +kernel
theorem dX0_spread_65 : decode cX0_spread 65 = .ok (.ladd, 1) := by decide +kernel
theorem dX0_spread_66 : decode cX0_spread 66 = .ok (.lastore, 1) := by decide +kernel
theorem dX0_spread_67 : decode cX0_spread 67 = .ok (.iinc 4 (-1), 3) := by decide +kernel
theorem dX0_spread_70 : decode cX0_spread 70 = .ok (.goto (-65), 3) := by decide +kernel
theorem dX0_spread_73 : decode cX0_spread 73 = .ok (.return_, 1) := by decide +kernel
theorem dX0_sumOver_0 : decode cX0_sumOver 0 = .ok (.lconst 0, 1) := by decide +kernel
theorem dX0_sumOver_1 : decode cX0_sumOver 1 = .ok (.lstore 4, 2) := by decide +kernel
theorem dX0_sumOver_3 : decode cX0_sumOver 3 = .ok (.iconst 0, 1) := by decide +kernel
theorem dX0_sumOver_4 : decode cX0_sumOver 4 = .ok (.istore 6, 2) := by decide +kernel
theorem dX0_sumOver_6 : decode cX0_sumOver 6 = .ok (.iload 6, 2) := by decide +kernel
theorem dX0_sumOver_8 : decode cX0_sumOver 8 = .ok (.iload_n 3, 1) := by decide +kernel
theorem dX0_sumOver_9 : decode cX0_sumOver 9 = .ok (.if_icmp .ge 30, 3) := by decide +kernel
theorem dX0_sumOver_12 : decode cX0_sumOver 12 = .ok (.lload_n 1, 1) := by decide +kernel
theorem dX0_sumOver_13 : decode cX0_sumOver 13 = .ok (.iload 6, 2) := by decide +kernel
theorem dX0_sumOver_15 : decode cX0_sumOver 15 = .ok (.invokestatic 44, 3) := by decide +kernel
theorem dX0_sumOver_18 : decode cX0_sumOver 18 = .ok (.ifCond .eq 15, 3) := by decide +kernel
theorem dX0_sumOver_21 : decode cX0_sumOver 21 = .ok (.lload 4, 2) := by decide +kernel
theorem dX0_sumOver_23 : decode cX0_sumOver 23 = .ok (.aload_n 0, 1) := by decide +kernel
theorem dX0_sumOver_24 : decode cX0_sumOver 24 = .ok (.getfield 9, 3) := by decide +kernel
theorem dX0_sumOver_27 : decode cX0_sumOver 27 = .ok (.iload 6, 2) := by decide +kernel
theorem dX0_sumOver_29 : decode cX0_sumOver 29 = .ok (.laload, 1) := by decide +kernel
theorem dX0_sumOver_30 : decode cX0_sumOver 30 = .ok (.ladd, 1) := by decide +kernel
theorem dX0_sumOver_31 : decode cX0_sumOver 31 = .ok (.lstore 4, 2) := by decide +kernel
theorem dX0_sumOver_33 : decode cX0_sumOver 33 = .ok (.iinc 6 1, 3) := by decide +kernel
theorem dX0_sumOver_36 : decode cX0_sumOver 36 = .ok (.goto (-30), 3) := by decide +kernel
theorem dX0_sumOver_39 : decode cX0_sumOver 39 = .ok (.lload 4, 2) := by decide +kernel
theorem dX0_sumOver_41 : decode cX0_sumOver 41 = .ok (.lreturn, 1) := by decide +kernel
theorem dX0_weightAbove_0 : decode cX0_weightAbove 0 = .ok (.aload_n 0, 1) := by decide +kernel
theorem dX0_weightAbove_1 : decode cX0_weightAbove 1 = .ok (.aload_n 1, 1) := by decide +kernel
theorem dX0_weightAbove_2 : decode cX0_weightAbove 2 = .ok (.lload_n 2, 1) := by decide +kernel
theorem dX0_weightAbove_3 : decode cX0_weightAbove 3 = .ok (.iload 4, 2) := by decide +kernel
theorem dX0_weightAbove_5 : decode cX0_weightAbove 5 = .ok (.bipush 100, 2) := by decide +kernel
theorem dX0_weightAbove_7 : decode cX0_weightAbove 7 = .ok (.invokevirtual 48, 3) := by decide +kernel
theorem dX0_weightAbove_10 : decode cX0_weightAbove 10 = .ok (.aload_n 0, 1) := by decide +kernel
theorem dX0_weightAbove_11 : decode cX0_weightAbove 11 = .ok (.aload_n 1, 1) := by decide +kernel
theorem dX0_weightAbove_12 : decode cX0_weightAbove 12 = .ok (.lload_n 2, 1) := by decide +kernel
theorem dX0_weightAbove_13 : decode cX0_weightAbove 13 = .ok (.iload 4, 2) := by decide +kernel
theorem dX0_weightAbove_15 : decode cX0_weightAbove 15 = .ok (.iconst 0, 1) := by decide +kernel
theorem dX0_weightAbove_16 : decode cX0_weightAbove 16 = .ok (.invokevirtual 48, 3) := by decide +kernel
theorem dX0_weightAbove_19 : decode cX0_weightAbove 19 = .ok (.lsub, 1) := by decide +kernel
theorem dX0_weightAbove_20 : decode cX0_weightAbove 20 = .ok (.lreturn, 1) := by decide +kernel
theorem dX0_mostOf_0 : decode cX0_mostOf 0 = .ok (.bipush (-5), 2) := by decide +kernel
theorem dX0_mostOf_2 : decode cX0_mostOf 2 = .ok (.istore 4, 2) := by decide +kernel
theorem dX0_mostOf_4 : decode cX0_mostOf 4 = .ok (.ldc2_w 52, 3) := by decide +kernel
theorem dX0_mostOf_7 : decode cX0_mostOf 7 = .ok (.lstore 5, 2) := by decide +kernel
theorem dX0_mostOf_9 : decode cX0_mostOf 9 = .ok (.iconst 0, 1) := by decide +kernel
theorem dX0_mostOf_10 : decode cX0_mostOf 10 = .ok (.istore 7, 2) := by decide +kernel
theorem dX0_mostOf_12 : decode cX0_mostOf 12 = .ok (.iload 7, 2) := by decide +kernel
theorem dX0_mostOf_14 : decode cX0_mostOf 14 = .ok (.aload_n 1, 1) := by decide +kernel
theorem dX0_mostOf_15 : decode cX0_mostOf 15 = .ok (.getfield 15, 3) := by decide +kernel
theorem dX0_mostOf_18 : decode cX0_mostOf 18 = .ok (.if_icmp .ge 35, 3) := by decide +kernel
theorem dX0_mostOf_21 : decode cX0_mostOf 21 = .ok (.aload_n 0, 1) := by decide +kernel
theorem dX0_mostOf_22 : decode cX0_mostOf 22 = .ok (.aload_n 1, 1) := by decide +kernel
theorem dX0_mostOf_23 : decode cX0_mostOf 23 = .ok (.lload_n 2, 1) := by decide +kernel
theorem dX0_mostOf_24 : decode cX0_mostOf 24 = .ok (.iload 7, 2) := by decide +kernel
theorem dX0_mostOf_26 : decode cX0_mostOf 26 = .ok (.invokevirtual 54, 3) := by decide +kernel
theorem dX0_mostOf_29 : decode cX0_mostOf 29 = .ok (.lstore 8, 2) := by decide +kernel
theorem dX0_mostOf_31 : decode cX0_mostOf 31 = .ok (.lload 8, 2) := by decide +kernel
theorem dX0_mostOf_33 : decode cX0_mostOf 33 = .ok (.lload 5, 2) := by decide +kernel
theorem dX0_mostOf_35 : decode cX0_mostOf 35 = .ok (.lcmp, 1) := by decide +kernel
theorem dX0_mostOf_36 : decode cX0_mostOf 36 = .ok (.ifCond .le 11, 3) := by decide +kernel
theorem dX0_mostOf_39 : decode cX0_mostOf 39 = .ok (.lload 8, 2) := by decide +kernel
theorem dX0_mostOf_41 : decode cX0_mostOf 41 = .ok (.lstore 5, 2) := by decide +kernel
theorem dX0_mostOf_43 : decode cX0_mostOf 43 = .ok (.iload 7, 2) := by decide +kernel
theorem dX0_mostOf_45 : decode cX0_mostOf 45 = .ok (.istore 4, 2) := by decide +kernel
theorem dX0_mostOf_47 : decode cX0_mostOf 47 = .ok (.iinc 7 1, 3) := by decide +kernel
theorem dX0_mostOf_50 : decode cX0_mostOf 50 = .ok (.goto (-38), 3) := by decide +kernel
theorem dX0_mostOf_53 : decode cX0_mostOf 53 = .ok (.iload 4, 2) := by decide +kernel
theorem dX0_mostOf_55 : decode cX0_mostOf 55 = .ok (.ireturn, 1) := by decide +kernel
theorem dX1_init_0 : decode cX1_init 0 = .ok (.aload_n 0, 1) := by decide +kernel
theorem dX1_init_1 : decode cX1_init 1 = .ok (.invokespecial 3, 3) := by decide +kernel
theorem dX1_init_4 : decode cX1_init 4 = .ok (.aload_n 0, 1) := by decide +kernel
theorem dX1_init_5 : decode cX1_init 5 = .ok (.bipush 64, 2) := by decide +kernel
theorem dX1_init_7 : decode cX1_init 7 = .ok (.newarray .long, 2) := by decide +kernel
theorem dX1_init_9 : decode cX1_init 9 = .ok (.putfield 11, 3) := by decide +kernel
theorem dX1_init_12 : decode cX1_init 12 = .ok (.aload_n 0, 1) := by decide +kernel
theorem dX1_init_13 : decode cX1_init 13 = .ok (.bipush 64, 2) := by decide +kernel
theorem dX1_init_15 : decode cX1_init 15 = .ok (.newarray .int, 2) := by decide +kernel
theorem dX1_init_17 : decode cX1_init 17 = .ok (.putfield 15, 3) := by decide +kernel
theorem dX1_init_20 : decode cX1_init 20 = .ok (.aload_n 0, 1) := by decide +kernel
theorem dX1_init_21 : decode cX1_init 21 = .ok (.bipush 64, 2) := by decide +kernel
theorem dX1_init_23 : decode cX1_init 23 = .ok (.newarray .int, 2) := by decide +kernel
theorem dX1_init_25 : decode cX1_init 25 = .ok (.putfield 19, 3) := by decide +kernel
theorem dX1_init_28 : decode cX1_init 28 = .ok (.aload_n 0, 1) := by decide +kernel
theorem dX1_init_29 : decode cX1_init 29 = .ok (.bipush 64, 2) := by decide +kernel
theorem dX1_init_31 : decode cX1_init 31 = .ok (.newarray .int, 2) := by decide +kernel
theorem dX1_init_33 : decode cX1_init 33 = .ok (.putfield 22, 3) := by decide +kernel
theorem dX1_init_36 : decode cX1_init 36 = .ok (.return_, 1) := by decide +kernel
theorem dX1_draw_0 : decode cX1_draw 0 = .ok (.aload_n 0, 1) := by decide +kernel
theorem dX1_draw_1 : decode cX1_draw 1 = .ok (.iconst 0, 1) := by decide +kernel
theorem dX1_draw_2 : decode cX1_draw 2 = .ok (.putfield 25, 3) := by decide +kernel
theorem dX1_draw_5 : decode cX1_draw 5 = .ok (.aload_n 0, 1) := by decide +kernel
theorem dX1_draw_6 : decode cX1_draw 6 = .ok (.aload_n 1, 1) := by decide +kernel
theorem dX1_draw_7 : decode cX1_draw 7 = .ok (.lload_n 2, 1) := by decide +kernel
theorem dX1_draw_8 : decode cX1_draw 8 = .ok (.iconst 0, 1) := by decide +kernel
theorem dX1_draw_9 : decode cX1_draw 9 = .ok (.invokevirtual 29, 3) := by decide +kernel
theorem dX1_draw_12 : decode cX1_draw 12 = .ok (.pop, 1) := by decide +kernel
theorem dX1_draw_13 : decode cX1_draw 13 = .ok (.aload_n 0, 1) := by decide +kernel
theorem dX1_draw_14 : decode cX1_draw 14 = .ok (.getfield 25, 3) := by decide +kernel
theorem dX1_draw_17 : decode cX1_draw 17 = .ok (.ireturn, 1) := by decide +kernel
theorem dX1_meet_0 : decode cX1_meet 0 = .ok (.lload_n 2, 1) := by decide +kernel
theorem dX1_meet_1 : decode cX1_meet 1 = .ok (.lconst 0, 1) := by decide +kernel
theorem dX1_meet_2 : decode cX1_meet 2 = .ok (.lcmp, 1) := by decide +kernel
theorem dX1_meet_3 : decode cX1_meet 3 = .ok (.ifCond .ne 6, 3) := by decide +kernel
theorem dX1_meet_6 : decode cX1_meet 6 = .ok (.bipush (-6), 2) := by decide +kernel
theorem dX1_meet_8 : decode cX1_meet 8 = .ok (.ireturn, 1) := by decide +kernel
theorem dX1_meet_9 : decode cX1_meet 9 = .ok (.lload_n 2, 1) := by decide +kernel
theorem dX1_meet_10 : decode cX1_meet 10 = .ok (.ldc2_w 35, 3) := by decide +kernel
theorem dX1_meet_13 : decode cX1_meet 13 = .ok (.lcmp, 1) := by decide +kernel
theorem dX1_meet_14 : decode cX1_meet 14 = .ok (.ifCond .ne 6, 3) := by decide +kernel
theorem dX1_meet_17 : decode cX1_meet 17 = .ok (.bipush (-7), 2) := by decide +kernel
theorem dX1_meet_19 : decode cX1_meet 19 = .ok (.ireturn, 1) := by decide +kernel
theorem dX1_meet_20 : decode cX1_meet 20 = .ok (.aload_n 0, 1) := by decide +kernel
theorem dX1_meet_21 : decode cX1_meet 21 = .ok (.lload_n 2, 1) := by decide +kernel
theorem dX1_meet_22 : decode cX1_meet 22 = .ok (.invokevirtual 37, 3) := by decide +kernel
theorem dX1_meet_25 : decode cX1_meet 25 = .ok (.istore 5, 2) := by decide +kernel
theorem dX1_meet_27 : decode cX1_meet 27 = .ok (.iload 5, 2) := by decide +kernel
theorem dX1_meet_29 : decode cX1_meet 29 = .ok (.ifCond .lt 6, 3) := by decide +kernel
theorem dX1_meet_32 : decode cX1_meet 32 = .ok (.iload 5, 2) := by decide +kernel
theorem dX1_meet_34 : decode cX1_meet 34 = .ok (.ireturn, 1) := by decide +kernel
theorem dX1_meet_35 : decode cX1_meet 35 = .ok (.aload_n 1, 1) := by decide +kernel
theorem dX1_meet_36 : decode cX1_meet 36 = .ok (.lload_n 2, 1) := by decide +kernel
theorem dX1_meet_37 : decode cX1_meet 37 = .ok (.iload 4, 2) := by decide +kernel
theorem dX1_meet_39 : decode cX1_meet 39 = .ok (.invokestatic 41, 3) := by decide +kernel
theorem dX1_meet_42 : decode cX1_meet 42 = .ok (.istore 6, 2) := by decide +kernel
theorem dX1_meet_44 : decode cX1_meet 44 = .ok (.iload 6, 2) := by decide +kernel
theorem dX1_meet_46 : decode cX1_meet 46 = .ok (.aload_n 1, 1) := by decide +kernel
theorem dX1_meet_47 : decode cX1_meet 47 = .ok (.getfield 44, 3) := by decide +kernel
theorem dX1_meet_50 : decode cX1_meet 50 = .ok (.if_icmp .ge 12, 3) := by decide +kernel
theorem dX1_meet_53 : decode cX1_meet 53 = .ok (.aload_n 0, 1) := by decide +kernel
theorem dX1_meet_54 : decode cX1_meet 54 = .ok (.getfield 25, 3) := by decide +kernel
theorem dX1_meet_57 : decode cX1_meet 57 = .ok (.bipush 64, 2) := by decide +kernel
theorem dX1_meet_59 : decode cX1_meet 59 = .ok (.if_icmp .lt 6, 3) := by decide +kernel
theorem dX1_meet_62 : decode cX1_meet 62 = .ok (.bipush (-6), 2) := by decide +kernel
theorem dX1_meet_64 : decode cX1_meet 64 = .ok (.ireturn, 1) := by decide +kernel
theorem dX1_meet_65 : decode cX1_meet 65 = .ok (.aload_n 1, 1) := by decide +kernel
theorem dX1_meet_66 : decode cX1_meet 66 = .ok (.getfield 47, 3) := by decide +kernel
theorem dX1_meet_69 : decode cX1_meet 69 = .ok (.iload 6, 2) := by decide +kernel
theorem dX1_meet_71 : decode cX1_meet 71 = .ok (.iaload, 1) := by decide +kernel
theorem dX1_meet_72 : decode cX1_meet 72 = .ok (.istore 7, 2) := by decide +kernel
theorem dX1_meet_74 : decode cX1_meet 74 = .ok (.aload_n 0, 1) := by decide +kernel
theorem dX1_meet_75 : decode cX1_meet 75 = .ok (.getfield 25, 3) := by decide +kernel
theorem dX1_meet_78 : decode cX1_meet 78 = .ok (.istore 8, 2) := by decide +kernel
theorem dX1_meet_80 : decode cX1_meet 80 = .ok (.aload_n 0, 1) := by decide +kernel
theorem dX1_meet_81 : decode cX1_meet 81 = .ok (.dup, 1) := by decide +kernel
theorem dX1_meet_82 : decode cX1_meet 82 = .ok (.getfield 25, 3) := by decide +kernel
theorem dX1_meet_85 : decode cX1_meet 85 = .ok (.iconst 1, 1) := by decide +kernel
theorem dX1_meet_86 : decode cX1_meet 86 = .ok (.iadd, 1) := by decide +kernel
theorem dX1_meet_87 : decode cX1_meet 87 = .ok (.putfield 25, 3) := by decide +kernel
theorem dX1_meet_90 : decode cX1_meet 90 = .ok (.aload_n 0, 1) := by decide +kernel
theorem dX1_meet_91 : decode cX1_meet 91 = .ok (.getfield 11, 3) := by decide +kernel
theorem dX1_meet_94 : decode cX1_meet 94 = .ok (.iload 8, 2) := by decide +kernel
theorem dX1_meet_96 : decode cX1_meet 96 = .ok (.lload_n 2, 1) := by decide +kernel
theorem dX1_meet_97 : decode cX1_meet 97 = .ok (.lastore, 1) := by decide +kernel
theorem dX1_meet_98 : decode cX1_meet 98 = .ok (.aload_n 0, 1) := by decide +kernel
theorem dX1_meet_99 : decode cX1_meet 99 = .ok (.getfield 15, 3) := by decide +kernel
theorem dX1_meet_102 : decode cX1_meet 102 = .ok (.iload 8, 2) := by decide +kernel
theorem dX1_meet_104 : decode cX1_meet 104 = .ok (.iload 7, 2) := by decide +kernel
theorem dX1_meet_106 : decode cX1_meet 106 = .ok (.iastore, 1) := by decide +kernel
theorem dX1_meet_107 : decode cX1_meet 107 = .ok (.aload_n 0, 1) := by decide +kernel
theorem dX1_meet_108 : decode cX1_meet 108 = .ok (.getfield 19, 3) := by decide +kernel
theorem dX1_meet_111 : decode cX1_meet 111 = .ok (.iload 8, 2) := by decide +kernel
theorem dX1_meet_113 : decode cX1_meet 113 = .ok (.aload_n 0, 1) := by decide +kernel
theorem dX1_meet_114 : decode cX1_meet 114 = .ok (.aload_n 1, 1) := by decide +kernel
theorem dX1_meet_115 : decode cX1_meet 115 = .ok (.lload_n 2, 1) := by decide +kernel
theorem dX1_meet_116 : decode cX1_meet 116 = .ok (.iload 7, 2) := by decide +kernel
theorem dX1_meet_118 : decode cX1_meet 118 = .ok (.invokestatic 50, 3) := by decide +kernel
theorem dX1_meet_121 : decode cX1_meet 121 = .ok (.iload 6, 2) := by decide +kernel
theorem dX1_meet_123 : decode cX1_meet 123 = .ok (.iconst 1, 1) := by decide +kernel
theorem dX1_meet_124 : decode cX1_meet 124 = .ok (.iadd, 1) := by decide +kernel
theorem dX1_meet_125 : decode cX1_meet 125 = .ok (.invokevirtual 29, 3) := by decide +kernel
theorem dX1_meet_128 : decode cX1_meet 128 = .ok (.iastore, 1) := by decide +kernel
theorem dX1_meet_129 : decode cX1_meet 129 = .ok (.aload_n 0, 1) := by decide +kernel
theorem dX1_meet_130 : decode cX1_meet 130 = .ok (.getfield 22, 3) := by decide +kernel
theorem dX1_meet_133 : decode cX1_meet 133 = .ok (.iload 8, 2) := by decide +kernel
theorem dX1_meet_135 : decode cX1_meet 135 = .ok (.aload_n 0, 1) := by decide +kernel
theorem dX1_meet_136 : decode cX1_meet 136 = .ok (.aload_n 1, 1) := by decide +kernel
theorem dX1_meet_137 : decode cX1_meet 137 = .ok (.lload_n 2, 1) := by decide +kernel
theorem dX1_meet_138 : decode cX1_meet 138 = .ok (.iload 7, 2) := by decide +kernel
theorem dX1_meet_140 : decode cX1_meet 140 = .ok (.invokestatic 54, 3) := by decide +kernel
theorem dX1_meet_143 : decode cX1_meet 143 = .ok (.iload 6, 2) := by decide +kernel
theorem dX1_meet_145 : decode cX1_meet 145 = .ok (.iconst 1, 1) := by decide +kernel
theorem dX1_meet_146 : decode cX1_meet 146 = .ok (.iadd, 1) := by decide +kernel
theorem dX1_meet_147 : decode cX1_meet 147 = .ok (.invokevirtual 29, 3) := by decide +kernel
theorem dX1_meet_150 : decode cX1_meet 150 = .ok (.iastore, 1) := by decide +kernel
theorem dX1_meet_151 : decode cX1_meet 151 = .ok (.iload 8, 2) := by decide +kernel
theorem dX1_meet_153 : decode cX1_meet 153 = .ok (.ireturn, 1) := by decide +kernel
theorem dX1_met_0 : decode cX1_met 0 = .ok (.iconst 0, 1) := by decide +kernel
theorem dX1_met_1 : decode cX1_met 1 = .ok (.istore_n 3, 1) := by decide +kernel
theorem dX1_met_2 : decode cX1_met 2 = .ok (.iload_n 3, 1) := by decide +kernel
theorem dX1_met_3 : decode cX1_met 3 = .ok (.aload_n 0, 1) := by decide +kernel
theorem dX1_met_4 : decode cX1_met 4 = .ok (.getfield 25, 3) := by decide +kernel
theorem dX1_met_7 : decode cX1_met 7 = .ok (.if_icmp .ge 22, 3) := by decide +kernel
theorem dX1_met_10 : decode cX1_met 10 = .ok (.aload_n 0, 1) := by decide +kernel
theorem dX1_met_11 : decode cX1_met 11 = .ok (.getfield 11, 3) := by decide +kernel
theorem dX1_met_14 : decode cX1_met 14 = .ok (.iload_n 3, 1) := by decide +kernel
theorem dX1_met_15 : decode cX1_met 15 = .ok (.laload, 1) := by decide +kernel
theorem dX1_met_16 : decode cX1_met 16 = .ok (.lload_n 1, 1) := by decide +kernel
theorem dX1_met_17 : decode cX1_met 17 = .ok (.lcmp, 1) := by decide +kernel
theorem dX1_met_18 : decode cX1_met 18 = .ok (.ifCond .ne 5, 3) := by decide +kernel
theorem dX1_met_21 : decode cX1_met 21 = .ok (.iload_n 3, 1) := by decide +kernel
theorem dX1_met_22 : decode cX1_met 22 = .ok (.ireturn, 1) := by decide +kernel
theorem dX1_met_23 : decode cX1_met 23 = .ok (.iinc 3 1, 3) := by decide +kernel
theorem dX1_met_26 : decode cX1_met 26 = .ok (.goto (-24), 3) := by decide +kernel
theorem dX1_met_29 : decode cX1_met 29 = .ok (.iconst (-1), 1) := by decide +kernel
theorem dX1_met_30 : decode cX1_met 30 = .ok (.ireturn, 1) := by decide +kernel
theorem dX1_firstPlace_0 : decode cX1_firstPlace 0 = .ok (.iload_n 3, 1) := by decide +kernel
theorem dX1_firstPlace_1 : decode cX1_firstPlace 1 = .ok (.istore 4, 2) := by decide +kernel
theorem dX1_firstPlace_3 : decode cX1_firstPlace 3 = .ok (.iload 4, 2) := by decide +kernel
theorem dX1_firstPlace_5 : decode cX1_firstPlace 5 = .ok (.aload_n 0, 1) := by decide +kernel
theorem dX1_firstPlace_6 : decode cX1_firstPlace 6 = .ok (.getfield 44, 3) := by decide +kernel
theorem dX1_firstPlace_9 : decode cX1_firstPlace 9 = .ok (.if_icmp .ge 37, 3) := by decide +kernel
theorem dX1_firstPlace_12 : decode cX1_firstPlace 12 = .ok (.aload_n 0, 1) := by decide +kernel
theorem dX1_firstPlace_13 : decode cX1_firstPlace 13 = .ok (.getfield 47, 3) := by decide +kernel
theorem dX1_firstPlace_16 : decode cX1_firstPlace 16 = .ok (.iload 4, 2) := by decide +kernel
theorem dX1_firstPlace_18 : decode cX1_firstPlace 18 = .ok (.iaload, 1) := by decide +kernel
theorem dX1_firstPlace_19 : decode cX1_firstPlace 19 = .ok (.istore 5, 2) := by decide +kernel
theorem dX1_firstPlace_21 : decode cX1_firstPlace 21 = .ok (.lload_n 1, 1) := by decide +kernel
theorem dX1_firstPlace_22 : decode cX1_firstPlace 22 = .ok (.iload 5, 2) := by decide +kernel
theorem dX1_firstPlace_24 : decode cX1_firstPlace 24 = .ok (.invokestatic 50, 3) := by decide +kernel
theorem dX1_firstPlace_27 : decode cX1_firstPlace 27 = .ok (.lload_n 1, 1) := by decide +kernel
theorem dX1_firstPlace_28 : decode cX1_firstPlace 28 = .ok (.iload 5, 2) := by decide +kernel
theorem dX1_firstPlace_30 : decode cX1_firstPlace 30 = .ok (.invokestatic 54, 3) := by decide +kernel
theorem dX1_firstPlace_33 : decode cX1_firstPlace 33 = .ok (.lcmp, 1) := by decide +kernel
theorem dX1_firstPlace_34 : decode cX1_firstPlace 34 = .ok (.ifCond .eq 6, 3) := by decide +kernel
theorem dX1_firstPlace_37 : decode cX1_firstPlace 37 = .ok (.iload 4, 2) := by decide +kernel
theorem dX1_firstPlace_39 : decode cX1_firstPlace 39 = .ok (.ireturn, 1) := by decide +kernel
theorem dX1_firstPlace_40 : decode cX1_firstPlace 40 = .ok (.iinc 4 1, 3) := by decide +kernel
theorem dX1_firstPlace_43 : decode cX1_firstPlace 43 = .ok (.goto (-40), 3) := by decide +kernel
theorem dX1_firstPlace_46 : decode cX1_firstPlace 46 = .ok (.aload_n 0, 1) := by decide +kernel
theorem dX1_firstPlace_47 : decode cX1_firstPlace 47 = .ok (.getfield 44, 3) := by decide +kernel
theorem dX1_firstPlace_50 : decode cX1_firstPlace 50 = .ok (.ireturn, 1) := by decide +kernel
theorem dX1_ofNode_0 : decode cX1_ofNode 0 = .ok (.iload_n 1, 1) := by decide +kernel
theorem dX1_ofNode_1 : decode cX1_ofNode 1 = .ok (.ifCond .lt 11, 3) := by decide +kernel
theorem dX1_ofNode_4 : decode cX1_ofNode 4 = .ok (.iload_n 1, 1) := by decide +kernel
theorem dX1_ofNode_5 : decode cX1_ofNode 5 = .ok (.aload_n 0, 1) := by decide +kernel
theorem dX1_ofNode_6 : decode cX1_ofNode 6 = .ok (.getfield 25, 3) := by decide +kernel
theorem dX1_ofNode_9 : decode cX1_ofNode 9 = .ok (.if_icmp .lt 5, 3) := by decide +kernel
theorem dX1_ofNode_12 : decode cX1_ofNode 12 = .ok (.iconst (-1), 1) := by decide +kernel
theorem dX1_ofNode_13 : decode cX1_ofNode 13 = .ok (.ireturn, 1) := by decide +kernel
theorem dX1_ofNode_14 : decode cX1_ofNode 14 = .ok (.iload_n 2, 1) := by decide +kernel
theorem dX1_ofNode_15 : decode cX1_ofNode 15 = .ok (.tableswitch 46 0 2 #[25, 32, 39], 25) := by decide +kernel
theorem dX1_ofNode_40 : decode cX1_ofNode 40 = .ok (.aload_n 0, 1) := by decide +kernel
theorem dX1_ofNode_41 : decode cX1_ofNode 41 = .ok (.getfield 15, 3) := by decide +kernel
theorem dX1_ofNode_44 : decode cX1_ofNode 44 = .ok (.iload_n 1, 1) := by decide +kernel
theorem dX1_ofNode_45 : decode cX1_ofNode 45 = .ok (.iaload, 1) := by decide +kernel
theorem dX1_ofNode_46 : decode cX1_ofNode 46 = .ok (.ireturn, 1) := by decide +kernel
theorem dX1_ofNode_47 : decode cX1_ofNode 47 = .ok (.aload_n 0, 1) := by decide +kernel
theorem dX1_ofNode_48 : decode cX1_ofNode 48 = .ok (.getfield 19, 3) := by decide +kernel
theorem dX1_ofNode_51 : decode cX1_ofNode 51 = .ok (.iload_n 1, 1) := by decide +kernel
theorem dX1_ofNode_52 : decode cX1_ofNode 52 = .ok (.iaload, 1) := by decide +kernel
theorem dX1_ofNode_53 : decode cX1_ofNode 53 = .ok (.ireturn, 1) := by decide +kernel
theorem dX1_ofNode_54 : decode cX1_ofNode 54 = .ok (.aload_n 0, 1) := by decide +kernel
theorem dX1_ofNode_55 : decode cX1_ofNode 55 = .ok (.getfield 22, 3) := by decide +kernel
theorem dX1_ofNode_58 : decode cX1_ofNode 58 = .ok (.iload_n 1, 1) := by decide +kernel
theorem dX1_ofNode_59 : decode cX1_ofNode 59 = .ok (.iaload, 1) := by decide +kernel
theorem dX1_ofNode_60 : decode cX1_ofNode 60 = .ok (.ireturn, 1) := by decide +kernel
theorem dX1_ofNode_61 : decode cX1_ofNode 61 = .ok (.iconst (-1), 1) := by decide +kernel
theorem dX1_ofNode_62 : decode cX1_ofNode 62 = .ok (.ireturn, 1) := by decide +kernel
theorem dX2_init_0 : decode cX2_init 0 = .ok (.aload_n 0, 1) := by decide +kernel
theorem dX2_init_1 : decode cX2_init 1 = .ok (.invokespecial 3, 3) := by decide +kernel
theorem dX2_init_4 : decode cX2_init 4 = .ok (.aload_n 0, 1) := by decide +kernel
theorem dX2_init_5 : decode cX2_init 5 = .ok (.bipush 64, 2) := by decide +kernel
theorem dX2_init_7 : decode cX2_init 7 = .ok (.newarray .int, 2) := by decide +kernel
theorem dX2_init_9 : decode cX2_init 9 = .ok (.putfield 9, 3) := by decide +kernel
theorem dX2_init_12 : decode cX2_init 12 = .ok (.return_, 1) := by decide +kernel
theorem dX2_listCuts_0 : decode cX2_listCuts 0 = .ok (.aload_n 0, 1) := by decide +kernel
theorem dX2_listCuts_1 : decode cX2_listCuts 1 = .ok (.lload_n 1, 1) := by decide +kernel
theorem dX2_listCuts_2 : decode cX2_listCuts 2 = .ok (.iload_n 3, 1) := by decide +kernel
theorem dX2_listCuts_3 : decode cX2_listCuts 3 = .ok (.invokevirtual 15, 3) := by decide +kernel
theorem dX2_listCuts_6 : decode cX2_listCuts 6 = .ok (.ireturn, 1) := by decide +kernel
theorem dX2_listPaths_0 : decode cX2_listPaths 0 = .ok (.aload_n 0, 1) := by decide +kernel
theorem dX2_listPaths_1 : decode cX2_listPaths 1 = .ok (.lload_n 1, 1) := by decide +kernel
theorem dX2_listPaths_2 : decode cX2_listPaths 2 = .ok (.invokestatic 19, 3) := by decide +kernel
theorem dX2_listPaths_5 : decode cX2_listPaths 5 = .ok (.iload_n 3, 1) := by decide +kernel
theorem dX2_listPaths_6 : decode cX2_listPaths 6 = .ok (.invokevirtual 15, 3) := by decide +kernel
theorem dX2_listPaths_9 : decode cX2_listPaths 9 = .ok (.ireturn, 1) := by decide +kernel
theorem dX2_keepsUp_0 : decode cX2_keepsUp 0 = .ok (.lconst 0, 1) := by decide +kernel
theorem dX2_keepsUp_1 : decode cX2_keepsUp 1 = .ok (.lstore_n 2, 1) := by decide +kernel
theorem dX2_keepsUp_2 : decode cX2_keepsUp 2 = .ok (.iconst 0, 1) := by decide +kernel
theorem dX2_keepsUp_3 : decode cX2_keepsUp 3 = .ok (.istore 4, 2) := by decide +kernel
theorem dX2_keepsUp_5 : decode cX2_keepsUp 5 = .ok (.iload 4, 2) := by decide +kernel
theorem dX2_keepsUp_7 : decode cX2_keepsUp 7 = .ok (.bipush 64, 2) := by decide +kernel
theorem dX2_keepsUp_9 : decode cX2_keepsUp 9 = .ok (.if_icmp .ge 28, 3) := by decide +kernel
theorem dX2_keepsUp_12 : decode cX2_keepsUp 12 = .ok (.lload_n 0, 1) := by decide +kernel
theorem dX2_keepsUp_13 : decode cX2_keepsUp 13 = .ok (.bipush 63, 2) := by decide +kernel
theorem dX2_keepsUp_15 : decode cX2_keepsUp 15 = .ok (.iload 4, 2) := by decide +kernel
theorem dX2_keepsUp_17 : decode cX2_keepsUp 17 = .ok (.isub, 1) := by decide +kernel
theorem dX2_keepsUp_18 : decode cX2_keepsUp 18 = .ok (.invokestatic 23, 3) := by decide +kernel
theorem dX2_keepsUp_21 : decode cX2_keepsUp 21 = .ok (.ifCond .ne 10, 3) := by decide +kernel
theorem dX2_keepsUp_24 : decode cX2_keepsUp 24 = .ok (.lload_n 2, 1) := by decide +kernel
theorem dX2_keepsUp_25 : decode cX2_keepsUp 25 = .ok (.lconst 1, 1) := by decide +kernel
theorem dX2_keepsUp_26 : decode cX2_keepsUp 26 = .ok (.iload 4, 2) := by decide +kernel
theorem dX2_keepsUp_28 : decode cX2_keepsUp 28 = .ok (.lshl, 1) := by decide +kernel
theorem dX2_keepsUp_29 : decode cX2_keepsUp 29 = .ok (.lor, 1) := by decide +kernel
theorem dX2_keepsUp_30 : decode cX2_keepsUp 30 = .ok (.lstore_n 2, 1) := by decide +kernel
theorem dX2_keepsUp_31 : decode cX2_keepsUp 31 = .ok (.iinc 4 1, 3) := by decide +kernel
theorem dX2_keepsUp_34 : decode cX2_keepsUp 34 = .ok (.goto (-29), 3) := by decide +kernel
theorem dX2_keepsUp_37 : decode cX2_keepsUp 37 = .ok (.lload_n 2, 1) := by decide +kernel
theorem dX2_keepsUp_38 : decode cX2_keepsUp 38 = .ok (.lreturn, 1) := by decide +kernel
theorem dX2_list_0 : decode cX2_list 0 = .ok (.aload_n 0, 1) := by decide +kernel
theorem dX2_list_1 : decode cX2_list 1 = .ok (.iconst 0, 1) := by decide +kernel
theorem dX2_list_2 : decode cX2_list 2 = .ok (.putfield 27, 3) := by decide +kernel
theorem dX2_list_5 : decode cX2_list 5 = .ok (.iconst 0, 1) := by decide +kernel
theorem dX2_list_6 : decode cX2_list 6 = .ok (.istore 4, 2) := by decide +kernel
theorem dX2_list_8 : decode cX2_list 8 = .ok (.iload 4, 2) := by decide +kernel
theorem dX2_list_10 : decode cX2_list 10 = .ok (.iload_n 3, 1) := by decide +kernel
theorem dX2_list_11 : decode cX2_list 11 = .ok (.if_icmp .gt 52, 3) := by decide +kernel
theorem dX2_list_14 : decode cX2_list 14 = .ok (.iconst 0, 1) := by decide +kernel
theorem dX2_list_15 : decode cX2_list 15 = .ok (.istore 5, 2) := by decide +kernel
theorem dX2_list_17 : decode cX2_list 17 = .ok (.iload 5, 2) := by decide +kernel
theorem dX2_list_19 : decode cX2_list 19 = .ok (.iconst 1, 1) := by decide +kernel
theorem dX2_list_20 : decode cX2_list 20 = .ok (.iload_n 3, 1) := by decide +kernel
theorem dX2_list_21 : decode cX2_list 21 = .ok (.ishl, 1) := by decide +kernel
theorem dX2_list_22 : decode cX2_list 22 = .ok (.if_icmp .ge 35, 3) := by decide +kernel
theorem dX2_list_25 : decode cX2_list 25 = .ok (.iload 5, 2) := by decide +kernel
theorem dX2_list_27 : decode cX2_list 27 = .ok (.invokestatic 31, 3) := by decide +kernel
theorem dX2_list_30 : decode cX2_list 30 = .ok (.iload 4, 2) := by decide +kernel
theorem dX2_list_32 : decode cX2_list 32 = .ok (.if_icmp .ne 19, 3) := by decide +kernel
theorem dX2_list_35 : decode cX2_list 35 = .ok (.lload_n 1, 1) := by decide +kernel
theorem dX2_list_36 : decode cX2_list 36 = .ok (.iload 5, 2) := by decide +kernel
theorem dX2_list_38 : decode cX2_list 38 = .ok (.iload_n 3, 1) := by decide +kernel
theorem dX2_list_39 : decode cX2_list 39 = .ok (.invokestatic 37, 3) := by decide +kernel
theorem dX2_list_42 : decode cX2_list 42 = .ok (.ifCond .eq 9, 3) := by decide +kernel
theorem dX2_list_45 : decode cX2_list 45 = .ok (.aload_n 0, 1) := by decide +kernel
theorem dX2_list_46 : decode cX2_list 46 = .ok (.iload 5, 2) := by decide +kernel
theorem dX2_list_48 : decode cX2_list 48 = .ok (.invokevirtual 41, 3) := by decide +kernel
theorem dX2_list_51 : decode cX2_list 51 = .ok (.iinc 5 1, 3) := by decide +kernel
theorem dX2_list_54 : decode cX2_list 54 = .ok (.goto (-37), 3) := by decide +kernel
theorem dX2_list_57 : decode cX2_list 57 = .ok (.iinc 4 1, 3) := by decide +kernel
theorem dX2_list_60 : decode cX2_list 60 = .ok (.goto (-52), 3) := by decide +kernel
theorem dX2_list_63 : decode cX2_list 63 = .ok (.aload_n 0, 1) := by decide +kernel
theorem dX2_list_64 : decode cX2_list 64 = .ok (.getfield 27, 3) := by decide +kernel
theorem dX2_list_67 : decode cX2_list 67 = .ok (.ireturn, 1) := by decide +kernel
theorem dX2_keep_0 : decode cX2_keep 0 = .ok (.aload_n 0, 1) := by decide +kernel
theorem dX2_keep_1 : decode cX2_keep 1 = .ok (.getfield 27, 3) := by decide +kernel
theorem dX2_keep_4 : decode cX2_keep 4 = .ok (.aload_n 0, 1) := by decide +kernel
theorem dX2_keep_5 : decode cX2_keep 5 = .ok (.getfield 9, 3) := by decide +kernel
theorem dX2_keep_8 : decode cX2_keep 8 = .ok (.arraylength, 1) := by decide +kernel
theorem dX2_keep_9 : decode cX2_keep 9 = .ok (.if_icmp .ge 23, 3) := by decide +kernel
theorem dX2_keep_12 : decode cX2_keep 12 = .ok (.aload_n 0, 1) := by decide +kernel
theorem dX2_keep_13 : decode cX2_keep 13 = .ok (.getfield 9, 3) := by decide +kernel
theorem dX2_keep_16 : decode cX2_keep 16 = .ok (.aload_n 0, 1) := by decide +kernel
theorem dX2_keep_17 : decode cX2_keep 17 = .ok (.getfield 27, 3) := by decide +kernel
theorem dX2_keep_20 : decode cX2_keep 20 = .ok (.iload_n 1, 1) := by decide +kernel
theorem dX2_keep_21 : decode cX2_keep 21 = .ok (.iastore, 1) := by decide +kernel
theorem dX2_keep_22 : decode cX2_keep 22 = .ok (.aload_n 0, 1) := by decide +kernel
theorem dX2_keep_23 : decode cX2_keep 23 = .ok (.dup, 1) := by decide +kernel
theorem dX2_keep_24 : decode cX2_keep 24 = .ok (.getfield 27, 3) := by decide +kernel
theorem dX2_keep_27 : decode cX2_keep 27 = .ok (.iconst 1, 1) := by decide +kernel
theorem dX2_keep_28 : decode cX2_keep 28 = .ok (.iadd, 1) := by decide +kernel
theorem dX2_keep_29 : decode cX2_keep 29 = .ok (.putfield 27, 3) := by decide +kernel
theorem dX2_keep_32 : decode cX2_keep 32 = .ok (.return_, 1) := by decide +kernel
theorem dX2_isLeast_0 : decode cX2_isLeast 0 = .ok (.lload_n 0, 1) := by decide +kernel
theorem dX2_isLeast_1 : decode cX2_isLeast 1 = .ok (.iload_n 2, 1) := by decide +kernel
theorem dX2_isLeast_2 : decode cX2_isLeast 2 = .ok (.invokestatic 23, 3) := by decide +kernel
theorem dX2_isLeast_5 : decode cX2_isLeast 5 = .ok (.ifCond .ne 5, 3) := by decide +kernel
theorem dX2_isLeast_8 : decode cX2_isLeast 8 = .ok (.iconst 0, 1) := by decide +kernel
theorem dX2_isLeast_9 : decode cX2_isLeast 9 = .ok (.ireturn, 1) := by decide +kernel
theorem dX2_isLeast_10 : decode cX2_isLeast 10 = .ok (.iconst 0, 1) := by decide +kernel
theorem dX2_isLeast_11 : decode cX2_isLeast 11 = .ok (.istore 4, 2) := by decide +kernel
theorem dX2_isLeast_13 : decode cX2_isLeast 13 = .ok (.iload 4, 2) := by decide +kernel
theorem dX2_isLeast_15 : decode cX2_isLeast 15 = .ok (.iload_n 3, 1) := by decide +kernel
theorem dX2_isLeast_16 : decode cX2_isLeast 16 = .ok (.if_icmp .ge 36, 3) := by decide +kernel
theorem dX2_isLeast_19 : decode cX2_isLeast 19 = .ok (.iload_n 2, 1) := by decide +kernel
theorem dX2_isLeast_20 : decode cX2_isLeast 20 = .ok (.iconst 1, 1) := by decide +kernel
theorem dX2_isLeast_21 : decode cX2_isLeast 21 = .ok (.iload 4, 2) := by decide +kernel
theorem dX2_isLeast_23 : decode cX2_isLeast 23 = .ok (.ishl, 1) := by decide +kernel
theorem dX2_isLeast_24 : decode cX2_isLeast 24 = .ok (.iconst (-1), 1) := by decide +kernel
theorem dX2_isLeast_25 : decode cX2_isLeast 25 = .ok (.ixor, 1) := by decide +kernel
theorem dX2_isLeast_26 : decode cX2_isLeast 26 = .ok (.iand, 1) := by decide +kernel
theorem dX2_isLeast_27 : decode cX2_isLeast 27 = .ok (.istore 5, 2) := by decide +kernel
theorem dX2_isLeast_29 : decode cX2_isLeast 29 = .ok (.iload 5, 2) := by decide +kernel
theorem dX2_isLeast_31 : decode cX2_isLeast 31 = .ok (.iload_n 2, 1) := by decide +kernel
theorem dX2_isLeast_32 : decode cX2_isLeast 32 = .ok (.if_icmp .eq 14, 3) := by decide +kernel
theorem dX2_isLeast_35 : decode cX2_isLeast 35 = .ok (.lload_n 0, 1) := by decide +kernel
theorem dX2_isLeast_36 : decode cX2_isLeast 36 = .ok (.iload 5, 2) := by decide +kernel
theorem dX2_isLeast_38 : decode cX2_isLeast 38 = .ok (.invokestatic 23, 3) := by decide +kernel
theorem dX2_isLeast_41 : decode cX2_isLeast 41 = .ok (.ifCond .eq 5, 3) := by decide +kernel
theorem dX2_isLeast_44 : decode cX2_isLeast 44 = .ok (.iconst 0, 1) := by decide +kernel
theorem dX2_isLeast_45 : decode cX2_isLeast 45 = .ok (.ireturn, 1) := by decide +kernel
theorem dX2_isLeast_46 : decode cX2_isLeast 46 = .ok (.iinc 4 1, 3) := by decide +kernel
theorem dX2_isLeast_49 : decode cX2_isLeast 49 = .ok (.goto (-36), 3) := by decide +kernel
theorem dX2_isLeast_52 : decode cX2_isLeast 52 = .ok (.iconst 1, 1) := by decide +kernel
theorem dX2_isLeast_53 : decode cX2_isLeast 53 = .ok (.ireturn, 1) := by decide +kernel
theorem dX2_bitsOf_0 : decode cX2_bitsOf 0 = .ok (.iload_n 1, 1) := by decide +kernel
theorem dX2_bitsOf_1 : decode cX2_bitsOf 1 = .ok (.ifCond .lt 20, 3) := by decide +kernel
theorem dX2_bitsOf_4 : decode cX2_bitsOf 4 = .ok (.iload_n 1, 1) := by decide +kernel
theorem dX2_bitsOf_5 : decode cX2_bitsOf 5 = .ok (.aload_n 0, 1) := by decide +kernel
theorem dX2_bitsOf_6 : decode cX2_bitsOf 6 = .ok (.getfield 27, 3) := by decide +kernel
theorem dX2_bitsOf_9 : decode cX2_bitsOf 9 = .ok (.if_icmp .ge 12, 3) := by decide +kernel
theorem dX2_bitsOf_12 : decode cX2_bitsOf 12 = .ok (.aload_n 0, 1) := by decide +kernel
theorem dX2_bitsOf_13 : decode cX2_bitsOf 13 = .ok (.getfield 9, 3) := by decide +kernel
theorem dX2_bitsOf_16 : decode cX2_bitsOf 16 = .ok (.iload_n 1, 1) := by decide +kernel
theorem dX2_bitsOf_17 : decode cX2_bitsOf 17 = .ok (.iaload, 1) := by decide +kernel
theorem dX2_bitsOf_18 : decode cX2_bitsOf 18 = .ok (.goto 4, 3) := by decide +kernel
theorem dX2_bitsOf_21 : decode cX2_bitsOf 21 = .ok (.iconst (-1), 1) := by decide +kernel
theorem dX2_bitsOf_22 : decode cX2_bitsOf 22 = .ok (.ireturn, 1) := by decide +kernel
theorem dX2_has_0 : decode cX2_has 0 = .ok (.iconst 0, 1) := by decide +kernel
theorem dX2_has_1 : decode cX2_has 1 = .ok (.istore_n 2, 1) := by decide +kernel
theorem dX2_has_2 : decode cX2_has 2 = .ok (.iload_n 2, 1) := by decide +kernel
theorem dX2_has_3 : decode cX2_has 3 = .ok (.aload_n 0, 1) := by decide +kernel
theorem dX2_has_4 : decode cX2_has 4 = .ok (.getfield 27, 3) := by decide +kernel
theorem dX2_has_7 : decode cX2_has 7 = .ok (.if_icmp .ge 21, 3) := by decide +kernel
theorem dX2_has_10 : decode cX2_has 10 = .ok (.aload_n 0, 1) := by decide +kernel
theorem dX2_has_11 : decode cX2_has 11 = .ok (.getfield 9, 3) := by decide +kernel
theorem dX2_has_14 : decode cX2_has 14 = .ok (.iload_n 2, 1) := by decide +kernel
theorem dX2_has_15 : decode cX2_has 15 = .ok (.iaload, 1) := by decide +kernel
theorem dX2_has_16 : decode cX2_has 16 = .ok (.iload_n 1, 1) := by decide +kernel
theorem dX2_has_17 : decode cX2_has 17 = .ok (.if_icmp .ne 5, 3) := by decide +kernel
theorem dX2_has_20 : decode cX2_has 20 = .ok (.iconst 1, 1) := by decide +kernel
theorem dX2_has_21 : decode cX2_has 21 = .ok (.ireturn, 1) := by decide +kernel
theorem dX2_has_22 : decode cX2_has 22 = .ok (.iinc 2 1, 3) := by decide +kernel
theorem dX2_has_25 : decode cX2_has 25 = .ok (.goto (-23), 3) := by decide +kernel
theorem dX2_has_28 : decode cX2_has 28 = .ok (.iconst 0, 1) := by decide +kernel
theorem dX2_has_29 : decode cX2_has 29 = .ok (.ireturn, 1) := by decide +kernel
theorem dX2_partsTogether_0 : decode cX2_partsTogether 0 = .ok (.iconst 0, 1) := by decide +kernel
theorem dX2_partsTogether_1 : decode cX2_partsTogether 1 = .ok (.istore_n 1, 1) := by decide +kernel
theorem dX2_partsTogether_2 : decode cX2_partsTogether 2 = .ok (.iconst 0, 1) := by decide +kernel
theorem dX2_partsTogether_3 : decode cX2_partsTogether 3 = .ok (.istore_n 2, 1) := by decide +kernel
theorem dX2_partsTogether_4 : decode cX2_partsTogether 4 = .ok (.iload_n 2, 1) := by decide +kernel
theorem dX2_partsTogether_5 : decode cX2_partsTogether 5 = .ok (.aload_n 0, 1) := by decide +kernel
theorem dX2_partsTogether_6 : decode cX2_partsTogether 6 = .ok (.getfield 27, 3) := by decide +kernel
theorem dX2_partsTogether_9 : decode cX2_partsTogether 9 = .ok (.if_icmp .ge 21, 3) := by decide +kernel
theorem dX2_partsTogether_12 : decode cX2_partsTogether 12 = .ok (.iload_n 1, 1) := by decide +kernel
theorem dX2_partsTogether_13 : decode cX2_partsTogether 13 = .ok (.aload_n 0, 1) := by decide +kernel
theorem dX2_partsTogether_14 : decode cX2_partsTogether 14 = .ok (.getfield 9, 3) := by decide +kernel
theorem dX2_partsTogether_17 : decode cX2_partsTogether 17 = .ok (.iload_n 2, 1) := by decide +kernel
theorem dX2_partsTogether_18 : decode cX2_partsTogether 18 = .ok (.iaload, 1) := by decide +kernel
theorem dX2_partsTogether_19 : decode cX2_partsTogether 19 = .ok (.invokestatic 31, 3) := by decide +kernel
theorem dX2_partsTogether_22 : decode cX2_partsTogether 22 = .ok (.iadd, 1) := by decide +kernel
theorem dX2_partsTogether_23 : decode cX2_partsTogether 23 = .ok (.istore_n 1, 1) := by decide +kernel
theorem dX2_partsTogether_24 : decode cX2_partsTogether 24 = .ok (.iinc 2 1, 3) := by decide +kernel
theorem dX2_partsTogether_27 : decode cX2_partsTogether 27 = .ok (.goto (-23), 3) := by decide +kernel
theorem dX2_partsTogether_30 : decode cX2_partsTogether 30 = .ok (.iload_n 1, 1) := by decide +kernel
theorem dX2_partsTogether_31 : decode cX2_partsTogether 31 = .ok (.ireturn, 1) := by decide +kernel
theorem dX3_init_0 : decode cX3_init 0 = .ok (.aload_n 0, 1) := by decide +kernel
theorem dX3_init_1 : decode cX3_init 1 = .ok (.invokespecial 3, 3) := by decide +kernel
theorem dX3_init_4 : decode cX3_init 4 = .ok (.aload_n 0, 1) := by decide +kernel
theorem dX3_init_5 : decode cX3_init 5 = .ok (.bipush 6, 2) := by decide +kernel
theorem dX3_init_7 : decode cX3_init 7 = .ok (.newarray .int, 2) := by decide +kernel
theorem dX3_init_9 : decode cX3_init 9 = .ok (.putfield 9, 3) := by decide +kernel
theorem dX3_init_12 : decode cX3_init 12 = .ok (.aload_n 0, 1) := by decide +kernel
theorem dX3_init_13 : decode cX3_init 13 = .ok (.bipush 6, 2) := by decide +kernel
theorem dX3_init_15 : decode cX3_init 15 = .ok (.newarray .int, 2) := by decide +kernel
theorem dX3_init_17 : decode cX3_init 17 = .ok (.putfield 15, 3) := by decide +kernel
theorem dX3_init_20 : decode cX3_init 20 = .ok (.aload_n 0, 1) := by decide +kernel
theorem dX3_init_21 : decode cX3_init 21 = .ok (.bipush 8, 2) := by decide +kernel
theorem dX3_init_23 : decode cX3_init 23 = .ok (.newarray .int, 2) := by decide +kernel
theorem dX3_init_25 : decode cX3_init 25 = .ok (.putfield 18, 3) := by decide +kernel
theorem dX3_init_28 : decode cX3_init 28 = .ok (.aload_n 0, 1) := by decide +kernel
theorem dX3_init_29 : decode cX3_init 29 = .ok (.bipush 8, 2) := by decide +kernel
theorem dX3_init_31 : decode cX3_init 31 = .ok (.newarray .int, 2) := by decide +kernel
theorem dX3_init_33 : decode cX3_init 33 = .ok (.putfield 21, 3) := by decide +kernel
theorem dX3_init_36 : decode cX3_init 36 = .ok (.aload_n 0, 1) := by decide +kernel
theorem dX3_init_37 : decode cX3_init 37 = .ok (.bipush 32, 2) := by decide +kernel
theorem dX3_init_39 : decode cX3_init 39 = .ok (.newarray .int, 2) := by decide +kernel
theorem dX3_init_41 : decode cX3_init 41 = .ok (.putfield 24, 3) := by decide +kernel
theorem dX3_init_44 : decode cX3_init 44 = .ok (.aload_n 0, 1) := by decide +kernel
theorem dX3_init_45 : decode cX3_init 45 = .ok (.bipush 8, 2) := by decide +kernel
theorem dX3_init_47 : decode cX3_init 47 = .ok (.newarray .int, 2) := by decide +kernel
theorem dX3_init_49 : decode cX3_init 49 = .ok (.putfield 27, 3) := by decide +kernel
theorem dX3_init_52 : decode cX3_init 52 = .ok (.aload_n 0, 1) := by decide +kernel
theorem dX3_init_53 : decode cX3_init 53 = .ok (.iconst (-1), 1) := by decide +kernel
theorem dX3_init_54 : decode cX3_init 54 = .ok (.putfield 30, 3) := by decide +kernel
theorem dX3_init_57 : decode cX3_init 57 = .ok (.aload_n 0, 1) := by decide +kernel
theorem dX3_init_58 : decode cX3_init 58 = .ok (.iconst 3, 1) := by decide +kernel
theorem dX3_init_59 : decode cX3_init 59 = .ok (.newarray .int, 2) := by decide +kernel
theorem dX3_init_61 : decode cX3_init 61 = .ok (.putfield 34, 3) := by decide +kernel
theorem dX3_init_64 : decode cX3_init 64 = .ok (.aload_n 0, 1) := by decide +kernel
theorem dX3_init_65 : decode cX3_init 65 = .ok (.iconst 3, 1) := by decide +kernel
theorem dX3_init_66 : decode cX3_init 66 = .ok (.newarray .int, 2) := by decide +kernel
theorem dX3_init_68 : decode cX3_init 68 = .ok (.putfield 37, 3) := by decide +kernel
theorem dX3_init_71 : decode cX3_init 71 = .ok (.aload_n 0, 1) := by decide +kernel
theorem dX3_init_72 : decode cX3_init 72 = .ok (.bipush 8, 2) := by decide +kernel
theorem dX3_init_74 : decode cX3_init 74 = .ok (.newarray .long, 2) := by decide +kernel
theorem dX3_init_76 : decode cX3_init 76 = .ok (.putfield 40, 3) := by decide +kernel
theorem dX3_init_79 : decode cX3_init 79 = .ok (.aload_n 0, 1) := by decide +kernel
theorem dX3_init_80 : decode cX3_init 80 = .ok (.iconst 5, 1) := by decide +kernel
theorem dX3_init_81 : decode cX3_init 81 = .ok (.newarray .long, 2) := by decide +kernel
theorem dX3_init_83 : decode cX3_init 83 = .ok (.putfield 44, 3) := by decide +kernel
theorem dX3_init_86 : decode cX3_init 86 = .ok (.return_, 1) := by decide +kernel
theorem dX3_hasPart_0 : decode cX3_hasPart 0 = .ok (.iload_n 1, 1) := by decide +kernel
theorem dX3_hasPart_1 : decode cX3_hasPart 1 = .ok (.ifCond .lt 15, 3) := by decide +kernel
theorem dX3_hasPart_4 : decode cX3_hasPart 4 = .ok (.iload_n 1, 1) := by decide +kernel
theorem dX3_hasPart_5 : decode cX3_hasPart 5 = .ok (.aload_n 0, 1) := by decide +kernel
theorem dX3_hasPart_6 : decode cX3_hasPart 6 = .ok (.getfield 47, 3) := by decide +kernel
theorem dX3_hasPart_9 : decode cX3_hasPart 9 = .ok (.if_icmp .ge 7, 3) := by decide +kernel
theorem dX3_hasPart_12 : decode cX3_hasPart 12 = .ok (.iconst 1, 1) := by decide +kernel
theorem dX3_hasPart_13 : decode cX3_hasPart 13 = .ok (.goto 4, 3) := by decide +kernel
theorem dX3_hasPart_16 : decode cX3_hasPart 16 = .ok (.iconst 0, 1) := by decide +kernel
theorem dX3_hasPart_17 : decode cX3_hasPart 17 = .ok (.ireturn, 1) := by decide +kernel
theorem dX3_hasPlace_0 : decode cX3_hasPlace 0 = .ok (.aload_n 0, 1) := by decide +kernel
theorem dX3_hasPlace_1 : decode cX3_hasPlace 1 = .ok (.iload_n 1, 1) := by decide +kernel
theorem dX3_hasPlace_2 : decode cX3_hasPlace 2 = .ok (.invokevirtual 50, 3) := by decide +kernel
theorem dX3_hasPlace_5 : decode cX3_hasPlace 5 = .ok (.ireturn, 1) := by decide +kernel
theorem dX3_hasGate_0 : decode cX3_hasGate 0 = .ok (.iload_n 1, 1) := by decide +kernel
theorem dX3_hasGate_1 : decode cX3_hasGate 1 = .ok (.ifCond .lt 15, 3) := by decide +kernel
theorem dX3_hasGate_4 : decode cX3_hasGate 4 = .ok (.iload_n 1, 1) := by decide +kernel
theorem dX3_hasGate_5 : decode cX3_hasGate 5 = .ok (.aload_n 0, 1) := by decide +kernel
theorem dX3_hasGate_6 : decode cX3_hasGate 6 = .ok (.getfield 54, 3) := by decide +kernel
theorem dX3_hasGate_9 : decode cX3_hasGate 9 = .ok (.if_icmp .ge 7, 3) := by decide +kernel
theorem dX3_hasGate_12 : decode cX3_hasGate 12 = .ok (.iconst 1, 1) := by decide +kernel
theorem dX3_hasGate_13 : decode cX3_hasGate 13 = .ok (.goto 4, 3) := by decide +kernel
theorem dX3_hasGate_16 : decode cX3_hasGate 16 = .ok (.iconst 0, 1) := by decide +kernel
theorem dX3_hasGate_17 : decode cX3_hasGate 17 = .ok (.ireturn, 1) := by decide +kernel
theorem dX3_hasCause_0 : decode cX3_hasCause 0 = .ok (.iload_n 1, 1) := by decide +kernel
theorem dX3_hasCause_1 : decode cX3_hasCause 1 = .ok (.ifCond .lt 15, 3) := by decide +kernel
theorem dX3_hasCause_4 : decode cX3_hasCause 4 = .ok (.iload_n 1, 1) := by decide +kernel
theorem dX3_hasCause_5 : decode cX3_hasCause 5 = .ok (.aload_n 0, 1) := by decide +kernel
theorem dX3_hasCause_6 : decode cX3_hasCause 6 = .ok (.getfield 57, 3) := by decide +kernel
theorem dX3_hasCause_9 : decode cX3_hasCause 9 = .ok (.if_icmp .ge 7, 3) := by decide +kernel
theorem dX3_hasCause_12 : decode cX3_hasCause 12 = .ok (.iconst 1, 1) := by decide +kernel
theorem dX3_hasCause_13 : decode cX3_hasCause 13 = .ok (.goto 4, 3) := by decide +kernel
theorem dX3_hasCause_16 : decode cX3_hasCause 16 = .ok (.iconst 0, 1) := by decide +kernel
theorem dX3_hasCause_17 : decode cX3_hasCause 17 = .ok (.ireturn, 1) := by decide +kernel
theorem dX3_hasBits_0 : decode cX3_hasBits 0 = .ok (.iload_n 1, 1) := by decide +kernel
theorem dX3_hasBits_1 : decode cX3_hasBits 1 = .ok (.ifCond .lt 17, 3) := by decide +kernel
theorem dX3_hasBits_4 : decode cX3_hasBits 4 = .ok (.iload_n 1, 1) := by decide +kernel
theorem dX3_hasBits_5 : decode cX3_hasBits 5 = .ok (.iconst 1, 1) := by decide +kernel
theorem dX3_hasBits_6 : decode cX3_hasBits 6 = .ok (.aload_n 0, 1) := by decide +kernel
theorem dX3_hasBits_7 : decode cX3_hasBits 7 = .ok (.getfield 47, 3) := by decide +kernel
theorem dX3_hasBits_10 : decode cX3_hasBits 10 = .ok (.ishl, 1) := by decide +kernel
theorem dX3_hasBits_11 : decode cX3_hasBits 11 = .ok (.if_icmp .ge 7, 3) := by decide +kernel
theorem dX3_hasBits_14 : decode cX3_hasBits 14 = .ok (.iconst 1, 1) := by decide +kernel
theorem dX3_hasBits_15 : decode cX3_hasBits 15 = .ok (.goto 4, 3) := by decide +kernel
theorem dX3_hasBits_18 : decode cX3_hasBits 18 = .ok (.iconst 0, 1) := by decide +kernel
theorem dX3_hasBits_19 : decode cX3_hasBits 19 = .ok (.ireturn, 1) := by decide +kernel
theorem dX3_addPart_0 : decode cX3_addPart 0 = .ok (.aload_n 0, 1) := by decide +kernel
theorem dX3_addPart_1 : decode cX3_addPart 1 = .ok (.getfield 47, 3) := by decide +kernel
theorem dX3_addPart_4 : decode cX3_addPart 4 = .ok (.bipush 6, 2) := by decide +kernel
theorem dX3_addPart_6 : decode cX3_addPart 6 = .ok (.if_icmp .lt 6, 3) := by decide +kernel
theorem dX3_addPart_9 : decode cX3_addPart 9 = .ok (.bipush (-4), 2) := by decide +kernel
theorem dX3_addPart_11 : decode cX3_addPart 11 = .ok (.ireturn, 1) := by decide +kernel
theorem dX3_addPart_12 : decode cX3_addPart 12 = .ok (.aload_n 0, 1) := by decide +kernel
theorem dX3_addPart_13 : decode cX3_addPart 13 = .ok (.getfield 9, 3) := by decide +kernel
theorem dX3_addPart_16 : decode cX3_addPart 16 = .ok (.aload_n 0, 1) := by decide +kernel
theorem dX3_addPart_17 : decode cX3_addPart 17 = .ok (.getfield 47, 3) := by decide +kernel
theorem dX3_addPart_20 : decode cX3_addPart 20 = .ok (.iload_n 1, 1) := by decide +kernel
theorem dX3_addPart_21 : decode cX3_addPart 21 = .ok (.iastore, 1) := by decide +kernel
theorem dX3_addPart_22 : decode cX3_addPart 22 = .ok (.aload_n 0, 1) := by decide +kernel
theorem dX3_addPart_23 : decode cX3_addPart 23 = .ok (.getfield 15, 3) := by decide +kernel
theorem dX3_addPart_26 : decode cX3_addPart 26 = .ok (.aload_n 0, 1) := by decide +kernel
theorem dX3_addPart_27 : decode cX3_addPart 27 = .ok (.getfield 47, 3) := by decide +kernel
theorem dX3_addPart_30 : decode cX3_addPart 30 = .ok (.aload_n 0, 1) := by decide +kernel
theorem dX3_addPart_31 : decode cX3_addPart 31 = .ok (.getfield 47, 3) := by decide +kernel
theorem dX3_addPart_34 : decode cX3_addPart 34 = .ok (.iastore, 1) := by decide +kernel
theorem dX3_addPart_35 : decode cX3_addPart 35 = .ok (.aload_n 0, 1) := by decide +kernel
theorem dX3_addPart_36 : decode cX3_addPart 36 = .ok (.dup, 1) := by decide +kernel
theorem dX3_addPart_37 : decode cX3_addPart 37 = .ok (.getfield 47, 3) := by decide +kernel
theorem dX3_addPart_40 : decode cX3_addPart 40 = .ok (.iconst 1, 1) := by decide +kernel
theorem dX3_addPart_41 : decode cX3_addPart 41 = .ok (.iadd, 1) := by decide +kernel
theorem dX3_addPart_42 : decode cX3_addPart 42 = .ok (.putfield 47, 3) := by decide +kernel
theorem dX3_addPart_45 : decode cX3_addPart 45 = .ok (.aload_n 0, 1) := by decide +kernel
theorem dX3_addPart_46 : decode cX3_addPart 46 = .ok (.getfield 47, 3) := by decide +kernel
theorem dX3_addPart_49 : decode cX3_addPart 49 = .ok (.iconst 1, 1) := by decide +kernel
theorem dX3_addPart_50 : decode cX3_addPart 50 = .ok (.isub, 1) := by decide +kernel
theorem dX3_addPart_51 : decode cX3_addPart 51 = .ok (.ireturn, 1) := by decide +kernel
theorem dX3_addGate_0 : decode cX3_addGate 0 = .ok (.aload_n 0, 1) := by decide +kernel
theorem dX3_addGate_1 : decode cX3_addGate 1 = .ok (.getfield 54, 3) := by decide +kernel
theorem dX3_addGate_4 : decode cX3_addGate 4 = .ok (.bipush 8, 2) := by decide +kernel
theorem dX3_addGate_6 : decode cX3_addGate 6 = .ok (.if_icmp .lt 6, 3) := by decide +kernel
theorem dX3_addGate_9 : decode cX3_addGate 9 = .ok (.bipush (-4), 2) := by decide +kernel
theorem dX3_addGate_11 : decode cX3_addGate 11 = .ok (.ireturn, 1) := by decide +kernel
theorem dX3_addGate_12 : decode cX3_addGate 12 = .ok (.aload_n 0, 1) := by decide +kernel
theorem dX3_addGate_13 : decode cX3_addGate 13 = .ok (.getfield 18, 3) := by decide +kernel
theorem dX3_addGate_16 : decode cX3_addGate 16 = .ok (.aload_n 0, 1) := by decide +kernel
theorem dX3_addGate_17 : decode cX3_addGate 17 = .ok (.getfield 54, 3) := by decide +kernel
theorem dX3_addGate_20 : decode cX3_addGate 20 = .ok (.iload_n 1, 1) := by decide +kernel
theorem dX3_addGate_21 : decode cX3_addGate 21 = .ok (.iastore, 1) := by decide +kernel
theorem dX3_addGate_22 : decode cX3_addGate 22 = .ok (.aload_n 0, 1) := by decide +kernel
theorem dX3_addGate_23 : decode cX3_addGate 23 = .ok (.getfield 21, 3) := by decide +kernel
theorem dX3_addGate_26 : decode cX3_addGate 26 = .ok (.aload_n 0, 1) := by decide +kernel
theorem dX3_addGate_27 : decode cX3_addGate 27 = .ok (.getfield 54, 3) := by decide +kernel
theorem dX3_addGate_30 : decode cX3_addGate 30 = .ok (.iload_n 2, 1) := by decide +kernel
theorem dX3_addGate_31 : decode cX3_addGate 31 = .ok (.iastore, 1) := by decide +kernel
theorem dX3_addGate_32 : decode cX3_addGate 32 = .ok (.aload_n 0, 1) := by decide +kernel
theorem dX3_addGate_33 : decode cX3_addGate 33 = .ok (.getfield 27, 3) := by decide +kernel
theorem dX3_addGate_36 : decode cX3_addGate 36 = .ok (.aload_n 0, 1) := by decide +kernel
theorem dX3_addGate_37 : decode cX3_addGate 37 = .ok (.getfield 54, 3) := by decide +kernel
theorem dX3_addGate_40 : decode cX3_addGate 40 = .ok (.iconst 0, 1) := by decide +kernel
theorem dX3_addGate_41 : decode cX3_addGate 41 = .ok (.iastore, 1) := by decide +kernel
theorem dX3_addGate_42 : decode cX3_addGate 42 = .ok (.aload_n 0, 1) := by decide +kernel
theorem dX3_addGate_43 : decode cX3_addGate 43 = .ok (.dup, 1) := by decide +kernel
theorem dX3_addGate_44 : decode cX3_addGate 44 = .ok (.getfield 54, 3) := by decide +kernel
theorem dX3_addGate_47 : decode cX3_addGate 47 = .ok (.iconst 1, 1) := by decide +kernel
theorem dX3_addGate_48 : decode cX3_addGate 48 = .ok (.iadd, 1) := by decide +kernel
theorem dX3_addGate_49 : decode cX3_addGate 49 = .ok (.putfield 54, 3) := by decide +kernel
theorem dX3_addGate_52 : decode cX3_addGate 52 = .ok (.aload_n 0, 1) := by decide +kernel
theorem dX3_addGate_53 : decode cX3_addGate 53 = .ok (.getfield 54, 3) := by decide +kernel
theorem dX3_addGate_56 : decode cX3_addGate 56 = .ok (.iconst 1, 1) := by decide +kernel
theorem dX3_addGate_57 : decode cX3_addGate 57 = .ok (.isub, 1) := by decide +kernel
theorem dX3_addGate_58 : decode cX3_addGate 58 = .ok (.ireturn, 1) := by decide +kernel
theorem dX3_addInput_0 : decode cX3_addInput 0 = .ok (.aload_n 0, 1) := by decide +kernel
theorem dX3_addInput_1 : decode cX3_addInput 1 = .ok (.getfield 27, 3) := by decide +kernel
theorem dX3_addInput_4 : decode cX3_addInput 4 = .ok (.iload_n 1, 1) := by decide +kernel
theorem dX3_addInput_5 : decode cX3_addInput 5 = .ok (.iaload, 1) := by decide +kernel
theorem dX3_addInput_6 : decode cX3_addInput 6 = .ok (.istore_n 3, 1) := by decide +kernel
theorem dX3_addInput_7 : decode cX3_addInput 7 = .ok (.iload_n 3, 1) := by decide +kernel
theorem dX3_addInput_8 : decode cX3_addInput 8 = .ok (.iconst 4, 1) := by decide +kernel
theorem dX3_addInput_9 : decode cX3_addInput 9 = .ok (.if_icmp .lt 6, 3) := by decide +kernel
theorem dX3_addInput_12 : decode cX3_addInput 12 = .ok (.bipush (-4), 2) := by decide +kernel
theorem dX3_addInput_14 : decode cX3_addInput 14 = .ok (.ireturn, 1) := by decide +kernel
theorem dX3_addInput_15 : decode cX3_addInput 15 = .ok (.aload_n 0, 1) := by decide +kernel
theorem dX3_addInput_16 : decode cX3_addInput 16 = .ok (.getfield 24, 3) := by decide +kernel
theorem dX3_addInput_19 : decode cX3_addInput 19 = .ok (.iload_n 1, 1) := by decide +kernel
theorem dX3_addInput_20 : decode cX3_addInput 20 = .ok (.iconst 4, 1) := by decide +kernel
theorem dX3_addInput_21 : decode cX3_addInput 21 = .ok (.imul, 1) := by decide +kernel
theorem dX3_addInput_22 : decode cX3_addInput 22 = .ok (.iload_n 3, 1) := by decide +kernel
theorem dX3_addInput_23 : decode cX3_addInput 23 = .ok (.iadd, 1) := by decide +kernel
theorem dX3_addInput_24 : decode cX3_addInput 24 = .ok (.iload_n 2, 1) := by decide +kernel
theorem dX3_addInput_25 : decode cX3_addInput 25 = .ok (.iastore, 1) := by decide +kernel
theorem dX3_addInput_26 : decode cX3_addInput 26 = .ok (.aload_n 0, 1) := by decide +kernel
theorem dX3_addInput_27 : decode cX3_addInput 27 = .ok (.getfield 27, 3) := by decide +kernel
theorem dX3_addInput_30 : decode cX3_addInput 30 = .ok (.iload_n 1, 1) := by decide +kernel
theorem dX3_addInput_31 : decode cX3_addInput 31 = .ok (.iload_n 3, 1) := by decide +kernel
theorem dX3_addInput_32 : decode cX3_addInput 32 = .ok (.iconst 1, 1) := by decide +kernel
theorem dX3_addInput_33 : decode cX3_addInput 33 = .ok (.iadd, 1) := by decide +kernel
theorem dX3_addInput_34 : decode cX3_addInput 34 = .ok (.iastore, 1) := by decide +kernel
theorem dX3_addInput_35 : decode cX3_addInput 35 = .ok (.iload_n 3, 1) := by decide +kernel
theorem dX3_addInput_36 : decode cX3_addInput 36 = .ok (.iconst 1, 1) := by decide +kernel
theorem dX3_addInput_37 : decode cX3_addInput 37 = .ok (.iadd, 1) := by decide +kernel
theorem dX3_addInput_38 : decode cX3_addInput 38 = .ok (.ireturn, 1) := by decide +kernel
theorem dX3_addCause_0 : decode cX3_addCause 0 = .ok (.aload_n 0, 1) := by decide +kernel
theorem dX3_addCause_1 : decode cX3_addCause 1 = .ok (.getfield 57, 3) := by decide +kernel
theorem dX3_addCause_4 : decode cX3_addCause 4 = .ok (.iconst 3, 1) := by decide +kernel
theorem dX3_addCause_5 : decode cX3_addCause 5 = .ok (.if_icmp .lt 6, 3) := by decide +kernel
theorem dX3_addCause_8 : decode cX3_addCause 8 = .ok (.bipush (-4), 2) := by decide +kernel
theorem dX3_addCause_10 : decode cX3_addCause 10 = .ok (.ireturn, 1) := by decide +kernel
theorem dX3_addCause_11 : decode cX3_addCause 11 = .ok (.aload_n 0, 1) := by decide +kernel
theorem dX3_addCause_12 : decode cX3_addCause 12 = .ok (.getfield 34, 3) := by decide +kernel
theorem dX3_addCause_15 : decode cX3_addCause 15 = .ok (.aload_n 0, 1) := by decide +kernel
theorem dX3_addCause_16 : decode cX3_addCause 16 = .ok (.getfield 57, 3) := by decide +kernel
theorem dX3_addCause_19 : decode cX3_addCause 19 = .ok (.iload_n 1, 1) := by decide +kernel
theorem dX3_addCause_20 : decode cX3_addCause 20 = .ok (.iastore, 1) := by decide +kernel
theorem dX3_addCause_21 : decode cX3_addCause 21 = .ok (.aload_n 0, 1) := by decide +kernel
theorem dX3_addCause_22 : decode cX3_addCause 22 = .ok (.getfield 37, 3) := by decide +kernel
theorem dX3_addCause_25 : decode cX3_addCause 25 = .ok (.aload_n 0, 1) := by decide +kernel
theorem dX3_addCause_26 : decode cX3_addCause 26 = .ok (.getfield 57, 3) := by decide +kernel
theorem dX3_addCause_29 : decode cX3_addCause 29 = .ok (.iload_n 2, 1) := by decide +kernel
theorem dX3_addCause_30 : decode cX3_addCause 30 = .ok (.iastore, 1) := by decide +kernel
theorem dX3_addCause_31 : decode cX3_addCause 31 = .ok (.aload_n 0, 1) := by decide +kernel
theorem dX3_addCause_32 : decode cX3_addCause 32 = .ok (.dup, 1) := by decide +kernel
theorem dX3_addCause_33 : decode cX3_addCause 33 = .ok (.getfield 57, 3) := by decide +kernel
theorem dX3_addCause_36 : decode cX3_addCause 36 = .ok (.iconst 1, 1) := by decide +kernel
theorem dX3_addCause_37 : decode cX3_addCause 37 = .ok (.iadd, 1) := by decide +kernel
theorem dX3_addCause_38 : decode cX3_addCause 38 = .ok (.putfield 57, 3) := by decide +kernel
theorem dX3_addCause_41 : decode cX3_addCause 41 = .ok (.aload_n 0, 1) := by decide +kernel
theorem dX3_addCause_42 : decode cX3_addCause 42 = .ok (.getfield 57, 3) := by decide +kernel
theorem dX3_addCause_45 : decode cX3_addCause 45 = .ok (.iconst 1, 1) := by decide +kernel
theorem dX3_addCause_46 : decode cX3_addCause 46 = .ok (.isub, 1) := by decide +kernel
theorem dX3_addCause_47 : decode cX3_addCause 47 = .ok (.ireturn, 1) := by decide +kernel
theorem dX3_ofPart_0 : decode cX3_ofPart 0 = .ok (.aload_n 0, 1) := by decide +kernel
theorem dX3_ofPart_1 : decode cX3_ofPart 1 = .ok (.iload_n 1, 1) := by decide +kernel
theorem dX3_ofPart_2 : decode cX3_ofPart 2 = .ok (.invokevirtual 50, 3) := by decide +kernel
theorem dX3_ofPart_5 : decode cX3_ofPart 5 = .ok (.ifCond .ne 5, 3) := by decide +kernel
theorem dX3_ofPart_8 : decode cX3_ofPart 8 = .ok (.iconst (-1), 1) := by decide +kernel
theorem dX3_ofPart_9 : decode cX3_ofPart 9 = .ok (.ireturn, 1) := by decide +kernel
theorem dX3_ofPart_10 : decode cX3_ofPart 10 = .ok (.iload_n 2, 1) := by decide +kernel
theorem dX3_ofPart_11 : decode cX3_ofPart 11 = .ok (.lookupswitch 38 #[(0, 25), (1, 32)], 25) := by decide +kernel
theorem dX3_ofPart_36 : decode cX3_ofPart 36 = .ok (.aload_n 0, 1) := by decide +kernel
theorem dX3_ofPart_37 : decode cX3_ofPart 37 = .ok (.getfield 9, 3) := by decide +kernel
theorem dX3_ofPart_40 : decode cX3_ofPart 40 = .ok (.iload_n 1, 1) := by decide +kernel
theorem dX3_ofPart_41 : decode cX3_ofPart 41 = .ok (.iaload, 1) := by decide +kernel
theorem dX3_ofPart_42 : decode cX3_ofPart 42 = .ok (.ireturn, 1) := by decide +kernel
theorem dX3_ofPart_43 : decode cX3_ofPart 43 = .ok (.aload_n 0, 1) := by decide +kernel
theorem dX3_ofPart_44 : decode cX3_ofPart 44 = .ok (.iload_n 1, 1) := by decide +kernel
theorem dX3_ofPart_45 : decode cX3_ofPart 45 = .ok (.invokevirtual 60, 3) := by decide +kernel
theorem dX3_ofPart_48 : decode cX3_ofPart 48 = .ok (.ireturn, 1) := by decide +kernel
theorem dX3_ofPart_49 : decode cX3_ofPart 49 = .ok (.iconst (-1), 1) := by decide +kernel
theorem dX3_ofPart_50 : decode cX3_ofPart 50 = .ok (.ireturn, 1) := by decide +kernel
theorem dX3_ofGate_0 : decode cX3_ofGate 0 = .ok (.aload_n 0, 1) := by decide +kernel
theorem dX3_ofGate_1 : decode cX3_ofGate 1 = .ok (.iload_n 1, 1) := by decide +kernel
theorem dX3_ofGate_2 : decode cX3_ofGate 2 = .ok (.invokevirtual 64, 3) := by decide +kernel
theorem dX3_ofGate_5 : decode cX3_ofGate 5 = .ok (.ifCond .eq 13, 3) := by decide +kernel
theorem dX3_ofGate_8 : decode cX3_ofGate 8 = .ok (.iload_n 2, 1) := by decide +kernel
theorem dX3_ofGate_9 : decode cX3_ofGate 9 = .ok (.ifCond .lt 9, 3) := by decide +kernel
theorem dX3_ofGate_12 : decode cX3_ofGate 12 = .ok (.iload_n 2, 1) := by decide +kernel
theorem dX3_ofGate_13 : decode cX3_ofGate 13 = .ok (.bipush 7, 2) := by decide +kernel
theorem dX3_ofGate_15 : decode cX3_ofGate 15 = .ok (.if_icmp .lt 5, 3) := by decide +kernel
theorem dX3_ofGate_18 : decode cX3_ofGate 18 = .ok (.iconst (-1), 1) := by decide +kernel
theorem dX3_ofGate_19 : decode cX3_ofGate 19 = .ok (.ireturn, 1) := by decide +kernel
theorem dX3_ofGate_20 : decode cX3_ofGate 20 = .ok (.iload_n 2, 1) := by decide +kernel
theorem dX3_ofGate_21 : decode cX3_ofGate 21 = .ok (.tableswitch 48 0 2 #[27, 34, 41], 27) := by decide +kernel
theorem dX3_ofGate_48 : decode cX3_ofGate 48 = .ok (.aload_n 0, 1) := by decide +kernel
theorem dX3_ofGate_49 : decode cX3_ofGate 49 = .ok (.getfield 18, 3) := by decide +kernel
theorem dX3_ofGate_52 : decode cX3_ofGate 52 = .ok (.iload_n 1, 1) := by decide +kernel
theorem dX3_ofGate_53 : decode cX3_ofGate 53 = .ok (.iaload, 1) := by decide +kernel
theorem dX3_ofGate_54 : decode cX3_ofGate 54 = .ok (.ireturn, 1) := by decide +kernel
theorem dX3_ofGate_55 : decode cX3_ofGate 55 = .ok (.aload_n 0, 1) := by decide +kernel
theorem dX3_ofGate_56 : decode cX3_ofGate 56 = .ok (.getfield 21, 3) := by decide +kernel
theorem dX3_ofGate_59 : decode cX3_ofGate 59 = .ok (.iload_n 1, 1) := by decide +kernel
theorem dX3_ofGate_60 : decode cX3_ofGate 60 = .ok (.iaload, 1) := by decide +kernel
theorem dX3_ofGate_61 : decode cX3_ofGate 61 = .ok (.ireturn, 1) := by decide +kernel
theorem dX3_ofGate_62 : decode cX3_ofGate 62 = .ok (.aload_n 0, 1) := by decide +kernel
theorem dX3_ofGate_63 : decode cX3_ofGate 63 = .ok (.getfield 27, 3) := by decide +kernel
theorem dX3_ofGate_66 : decode cX3_ofGate 66 = .ok (.iload_n 1, 1) := by decide +kernel
theorem dX3_ofGate_67 : decode cX3_ofGate 67 = .ok (.iaload, 1) := by decide +kernel
theorem dX3_ofGate_68 : decode cX3_ofGate 68 = .ok (.ireturn, 1) := by decide +kernel
theorem dX3_ofGate_69 : decode cX3_ofGate 69 = .ok (.iload_n 2, 1) := by decide +kernel
theorem dX3_ofGate_70 : decode cX3_ofGate 70 = .ok (.iconst 3, 1) := by decide +kernel
theorem dX3_ofGate_71 : decode cX3_ofGate 71 = .ok (.isub, 1) := by decide +kernel
theorem dX3_ofGate_72 : decode cX3_ofGate 72 = .ok (.istore_n 3, 1) := by decide +kernel
theorem dX3_ofGate_73 : decode cX3_ofGate 73 = .ok (.iload_n 3, 1) := by decide +kernel
theorem dX3_ofGate_74 : decode cX3_ofGate 74 = .ok (.aload_n 0, 1) := by decide +kernel
theorem dX3_ofGate_75 : decode cX3_ofGate 75 = .ok (.getfield 27, 3) := by decide +kernel
theorem dX3_ofGate_78 : decode cX3_ofGate 78 = .ok (.iload_n 1, 1) := by decide +kernel
theorem dX3_ofGate_79 : decode cX3_ofGate 79 = .ok (.iaload, 1) := by decide +kernel
theorem dX3_ofGate_80 : decode cX3_ofGate 80 = .ok (.if_icmp .ge 16, 3) := by decide +kernel
theorem dX3_ofGate_83 : decode cX3_ofGate 83 = .ok (.aload_n 0, 1) := by decide +kernel
theorem dX3_ofGate_84 : decode cX3_ofGate 84 = .ok (.getfield 24, 3) := by decide +kernel
theorem dX3_ofGate_87 : decode cX3_ofGate 87 = .ok (.iload_n 1, 1) := by decide +kernel
theorem dX3_ofGate_88 : decode cX3_ofGate 88 = .ok (.iconst 4, 1) := by decide +kernel
theorem dX3_ofGate_89 : decode cX3_ofGate 89 = .ok (.imul, 1) := by decide +kernel
theorem dX3_ofGate_90 : decode cX3_ofGate 90 = .ok (.iload_n 3, 1) := by decide +kernel
theorem dX3_ofGate_91 : decode cX3_ofGate 91 = .ok (.iadd, 1) := by decide +kernel
theorem dX3_ofGate_92 : decode cX3_ofGate 92 = .ok (.iaload, 1) := by decide +kernel
theorem dX3_ofGate_93 : decode cX3_ofGate 93 = .ok (.goto 4, 3) := by decide +kernel
theorem dX3_ofGate_96 : decode cX3_ofGate 96 = .ok (.iconst (-1), 1) := by decide +kernel
theorem dX3_ofGate_97 : decode cX3_ofGate 97 = .ok (.ireturn, 1) := by decide +kernel
theorem dX3_ofCause_0 : decode cX3_ofCause 0 = .ok (.aload_n 0, 1) := by decide +kernel
theorem dX3_ofCause_1 : decode cX3_ofCause 1 = .ok (.iload_n 1, 1) := by decide +kernel
theorem dX3_ofCause_2 : decode cX3_ofCause 2 = .ok (.invokevirtual 67, 3) := by decide +kernel
theorem dX3_ofCause_5 : decode cX3_ofCause 5 = .ok (.ifCond .ne 5, 3) := by decide +kernel
theorem dX3_ofCause_8 : decode cX3_ofCause 8 = .ok (.iconst (-1), 1) := by decide +kernel
theorem dX3_ofCause_9 : decode cX3_ofCause 9 = .ok (.ireturn, 1) := by decide +kernel
theorem dX3_ofCause_10 : decode cX3_ofCause 10 = .ok (.iload_n 2, 1) := by decide +kernel
theorem dX3_ofCause_11 : decode cX3_ofCause 11 = .ok (.lookupswitch 39 #[(0, 25), (1, 32)], 25) := by decide +kernel
theorem dX3_ofCause_36 : decode cX3_ofCause 36 = .ok (.aload_n 0, 1) := by decide +kernel
theorem dX3_ofCause_37 : decode cX3_ofCause 37 = .ok (.getfield 34, 3) := by decide +kernel
theorem dX3_ofCause_40 : decode cX3_ofCause 40 = .ok (.iload_n 1, 1) := by decide +kernel
theorem dX3_ofCause_41 : decode cX3_ofCause 41 = .ok (.iaload, 1) := by decide +kernel
theorem dX3_ofCause_42 : decode cX3_ofCause 42 = .ok (.ireturn, 1) := by decide +kernel
theorem dX3_ofCause_43 : decode cX3_ofCause 43 = .ok (.aload_n 0, 1) := by decide +kernel
theorem dX3_ofCause_44 : decode cX3_ofCause 44 = .ok (.getfield 37, 3) := by decide +kernel
theorem dX3_ofCause_47 : decode cX3_ofCause 47 = .ok (.iload_n 1, 1) := by decide +kernel
theorem dX3_ofCause_48 : decode cX3_ofCause 48 = .ok (.iaload, 1) := by decide +kernel
theorem dX3_ofCause_49 : decode cX3_ofCause 49 = .ok (.ireturn, 1) := by decide +kernel
theorem dX3_ofCause_50 : decode cX3_ofCause 50 = .ok (.iconst (-1), 1) := by decide +kernel
theorem dX3_ofCause_51 : decode cX3_ofCause 51 = .ok (.ireturn, 1) := by decide +kernel
theorem dX3_topGate_0 : decode cX3_topGate 0 = .ok (.aload_n 0, 1) := by decide +kernel
theorem dX3_topGate_1 : decode cX3_topGate 1 = .ok (.getfield 54, 3) := by decide +kernel
theorem dX3_topGate_4 : decode cX3_topGate 4 = .ok (.ifCond .ne 6, 3) := by decide +kernel
theorem dX3_topGate_7 : decode cX3_topGate 7 = .ok (.bipush (-5), 2) := by decide +kernel
theorem dX3_topGate_9 : decode cX3_topGate 9 = .ok (.ireturn, 1) := by decide +kernel
theorem dX3_topGate_10 : decode cX3_topGate 10 = .ok (.aload_n 0, 1) := by decide +kernel
theorem dX3_topGate_11 : decode cX3_topGate 11 = .ok (.getfield 30, 3) := by decide +kernel
theorem dX3_topGate_14 : decode cX3_topGate 14 = .ok (.iconst (-1), 1) := by decide +kernel
theorem dX3_topGate_15 : decode cX3_topGate 15 = .ok (.if_icmp .ne 12, 3) := by decide +kernel
theorem dX3_topGate_18 : decode cX3_topGate 18 = .ok (.aload_n 0, 1) := by decide +kernel
theorem dX3_topGate_19 : decode cX3_topGate 19 = .ok (.getfield 54, 3) := by decide +kernel
theorem dX3_topGate_22 : decode cX3_topGate 22 = .ok (.iconst 1, 1) := by decide +kernel
theorem dX3_topGate_23 : decode cX3_topGate 23 = .ok (.isub, 1) := by decide +kernel
theorem dX3_topGate_24 : decode cX3_topGate 24 = .ok (.goto 7, 3) := by decide +kernel
theorem dX3_topGate_27 : decode cX3_topGate 27 = .ok (.aload_n 0, 1) := by decide +kernel
theorem dX3_topGate_28 : decode cX3_topGate 28 = .ok (.getfield 30, 3) := by decide +kernel
theorem dX3_topGate_31 : decode cX3_topGate 31 = .ok (.ireturn, 1) := by decide +kernel
theorem dX3_placeOf_0 : decode cX3_placeOf 0 = .ok (.iconst 0, 1) := by decide +kernel
theorem dX3_placeOf_1 : decode cX3_placeOf 1 = .ok (.istore_n 2, 1) := by decide +kernel
theorem dX3_placeOf_2 : decode cX3_placeOf 2 = .ok (.iload_n 2, 1) := by decide +kernel
theorem dX3_placeOf_3 : decode cX3_placeOf 3 = .ok (.aload_n 0, 1) := by decide +kernel
theorem dX3_placeOf_4 : decode cX3_placeOf 4 = .ok (.getfield 47, 3) := by decide +kernel
theorem dX3_placeOf_7 : decode cX3_placeOf 7 = .ok (.if_icmp .ge 21, 3) := by decide +kernel
theorem dX3_placeOf_10 : decode cX3_placeOf 10 = .ok (.aload_n 0, 1) := by decide +kernel
theorem dX3_placeOf_11 : decode cX3_placeOf 11 = .ok (.getfield 15, 3) := by decide +kernel
theorem dX3_placeOf_14 : decode cX3_placeOf 14 = .ok (.iload_n 2, 1) := by decide +kernel
theorem dX3_placeOf_15 : decode cX3_placeOf 15 = .ok (.iaload, 1) := by decide +kernel
theorem dX3_placeOf_16 : decode cX3_placeOf 16 = .ok (.iload_n 1, 1) := by decide +kernel
theorem dX3_placeOf_17 : decode cX3_placeOf 17 = .ok (.if_icmp .ne 5, 3) := by decide +kernel
theorem dX3_placeOf_20 : decode cX3_placeOf 20 = .ok (.iload_n 2, 1) := by decide +kernel
theorem dX3_placeOf_21 : decode cX3_placeOf 21 = .ok (.ireturn, 1) := by decide +kernel
theorem dX3_placeOf_22 : decode cX3_placeOf 22 = .ok (.iinc 2 1, 3) := by decide +kernel
theorem dX3_placeOf_25 : decode cX3_placeOf 25 = .ok (.goto (-23), 3) := by decide +kernel
theorem dX3_placeOf_28 : decode cX3_placeOf 28 = .ok (.iconst (-1), 1) := by decide +kernel
theorem dX3_placeOf_29 : decode cX3_placeOf 29 = .ok (.ireturn, 1) := by decide +kernel
theorem dX3_putAt_0 : decode cX3_putAt 0 = .ok (.aload_n 0, 1) := by decide +kernel
theorem dX3_putAt_1 : decode cX3_putAt 1 = .ok (.iload_n 1, 1) := by decide +kernel
theorem dX3_putAt_2 : decode cX3_putAt 2 = .ok (.invokevirtual 60, 3) := by decide +kernel
theorem dX3_putAt_5 : decode cX3_putAt 5 = .ok (.istore_n 3, 1) := by decide +kernel
theorem dX3_putAt_6 : decode cX3_putAt 6 = .ok (.iload_n 3, 1) := by decide +kernel
theorem dX3_putAt_7 : decode cX3_putAt 7 = .ok (.istore 4, 2) := by decide +kernel
theorem dX3_putAt_9 : decode cX3_putAt 9 = .ok (.iload 4, 2) := by decide +kernel
theorem dX3_putAt_11 : decode cX3_putAt 11 = .ok (.ifCond .lt 31, 3) := by decide +kernel
theorem dX3_putAt_14 : decode cX3_putAt 14 = .ok (.iload 4, 2) := by decide +kernel
theorem dX3_putAt_16 : decode cX3_putAt 16 = .ok (.iload_n 2, 1) := by decide +kernel
theorem dX3_putAt_17 : decode cX3_putAt 17 = .ok (.if_icmp .ge 25, 3) := by decide +kernel
theorem dX3_putAt_20 : decode cX3_putAt 20 = .ok (.aload_n 0, 1) := by decide +kernel
theorem dX3_putAt_21 : decode cX3_putAt 21 = .ok (.getfield 15, 3) := by decide +kernel
theorem dX3_putAt_24 : decode cX3_putAt 24 = .ok (.iload 4, 2) := by decide +kernel
theorem dX3_putAt_26 : decode cX3_putAt 26 = .ok (.aload_n 0, 1) := by decide +kernel
theorem dX3_putAt_27 : decode cX3_putAt 27 = .ok (.getfield 15, 3) := by decide +kernel
theorem dX3_putAt_30 : decode cX3_putAt 30 = .ok (.iload 4, 2) := by decide +kernel
theorem dX3_putAt_32 : decode cX3_putAt 32 = .ok (.iconst 1, 1) := by decide +kernel
theorem dX3_putAt_33 : decode cX3_putAt 33 = .ok (.iadd, 1) := by decide +kernel
theorem dX3_putAt_34 : decode cX3_putAt 34 = .ok (.iaload, 1) := by decide +kernel
theorem dX3_putAt_35 : decode cX3_putAt 35 = .ok (.iastore, 1) := by decide +kernel
theorem dX3_putAt_36 : decode cX3_putAt 36 = .ok (.iinc 4 1, 3) := by decide +kernel
theorem dX3_putAt_39 : decode cX3_putAt 39 = .ok (.goto (-30), 3) := by decide +kernel
theorem dX3_putAt_42 : decode cX3_putAt 42 = .ok (.iload_n 3, 1) := by decide +kernel
theorem dX3_putAt_43 : decode cX3_putAt 43 = .ok (.istore 4, 2) := by decide +kernel
theorem dX3_putAt_45 : decode cX3_putAt 45 = .ok (.iload 4, 2) := by decide +kernel
theorem dX3_putAt_47 : decode cX3_putAt 47 = .ok (.iload_n 2, 1) := by decide +kernel
theorem dX3_putAt_48 : decode cX3_putAt 48 = .ok (.if_icmp .le 25, 3) := by decide +kernel
theorem dX3_putAt_51 : decode cX3_putAt 51 = .ok (.aload_n 0, 1) := by decide +kernel
theorem dX3_putAt_52 : decode cX3_putAt 52 = .ok (.getfield 15, 3) := by decide +kernel
theorem dX3_putAt_55 : decode cX3_putAt 55 = .ok (.iload 4, 2) := by decide +kernel
theorem dX3_putAt_57 : decode cX3_putAt 57 = .ok (.aload_n 0, 1) := by decide +kernel
theorem dX3_putAt_58 : decode cX3_putAt 58 = .ok (.getfield 15, 3) := by decide +kernel
theorem dX3_putAt_61 : decode cX3_putAt 61 = .ok (.iload 4, 2) := by decide +kernel
theorem dX3_putAt_63 : decode cX3_putAt 63 = .ok (.iconst 1, 1) := by decide +kernel
theorem dX3_putAt_64 : decode cX3_putAt 64 = .ok (.isub, 1) := by decide +kernel
theorem dX3_putAt_65 : decode cX3_putAt 65 = .ok (.iaload, 1) := by decide +kernel
theorem dX3_putAt_66 : decode cX3_putAt 66 = .ok (.iastore, 1) := by decide +kernel
theorem dX3_putAt_67 : decode cX3_putAt 67 = .ok (.iinc 4 (-1), 3) := by decide +kernel
theorem dX3_putAt_70 : decode cX3_putAt 70 = .ok (.goto (-25), 3) := by decide +kernel
theorem dX3_putAt_73 : decode cX3_putAt 73 = .ok (.aload_n 0, 1) := by decide +kernel
theorem dX3_putAt_74 : decode cX3_putAt 74 = .ok (.getfield 15, 3) := by decide +kernel
theorem dX3_putAt_77 : decode cX3_putAt 77 = .ok (.iload_n 2, 1) := by decide +kernel
theorem dX3_putAt_78 : decode cX3_putAt 78 = .ok (.iload_n 1, 1) := by decide +kernel
theorem dX3_putAt_79 : decode cX3_putAt 79 = .ok (.iastore, 1) := by decide +kernel
theorem dX3_putAt_80 : decode cX3_putAt 80 = .ok (.iload_n 3, 1) := by decide +kernel
theorem dX3_putAt_81 : decode cX3_putAt 81 = .ok (.ireturn, 1) := by decide +kernel
theorem dX3_undergo_0 : decode cX3_undergo 0 = .ok (.iload_n 1, 1) := by decide +kernel
theorem dX3_undergo_1 : decode cX3_undergo 1 = .ok (.iconst 1, 1) := by decide +kernel
theorem dX3_undergo_2 : decode cX3_undergo 2 = .ok (.if_icmp .gt 30, 3) := by decide +kernel
theorem dX3_undergo_5 : decode cX3_undergo 5 = .ok (.aload_n 0, 1) := by decide +kernel
theorem dX3_undergo_6 : decode cX3_undergo 6 = .ok (.iload_n 2, 1) := by decide +kernel
theorem dX3_undergo_7 : decode cX3_undergo 7 = .ok (.invokevirtual 50, 3) := by decide +kernel
theorem dX3_undergo_10 : decode cX3_undergo 10 = .ok (.ifCond .eq 22, 3) := by decide +kernel
theorem dX3_undergo_13 : decode cX3_undergo 13 = .ok (.aload_n 0, 1) := by decide +kernel
theorem dX3_undergo_14 : decode cX3_undergo 14 = .ok (.getfield 9, 3) := by decide +kernel
theorem dX3_undergo_17 : decode cX3_undergo 17 = .ok (.iload_n 2, 1) := by decide +kernel
theorem dX3_undergo_18 : decode cX3_undergo 18 = .ok (.iload_n 1, 1) := by decide +kernel
theorem dX3_undergo_19 : decode cX3_undergo 19 = .ok (.ifCond .ne 7, 3) := by decide +kernel
theorem dX3_undergo_22 : decode cX3_undergo 22 = .ok (.iconst 0, 1) := by decide +kernel
theorem dX3_undergo_23 : decode cX3_undergo 23 = .ok (.goto 5, 3) := by decide +kernel
theorem dX3_undergo_26 : decode cX3_undergo 26 = .ok (.bipush 100, 2) := by decide +kernel
theorem dX3_undergo_28 : decode cX3_undergo 28 = .ok (.iastore, 1) := by decide +kernel
theorem dX3_undergo_29 : decode cX3_undergo 29 = .ok (.goto 32, 3) := by decide +kernel
theorem dX3_undergo_32 : decode cX3_undergo 32 = .ok (.iload_n 1, 1) := by decide +kernel
theorem dX3_undergo_33 : decode cX3_undergo 33 = .ok (.iconst 2, 1) := by decide +kernel
theorem dX3_undergo_34 : decode cX3_undergo 34 = .ok (.if_icmp .lt 27, 3) := by decide +kernel
theorem dX3_undergo_37 : decode cX3_undergo 37 = .ok (.aload_n 0, 1) := by decide +kernel
theorem dX3_undergo_38 : decode cX3_undergo 38 = .ok (.iload_n 2, 1) := by decide +kernel
theorem dX3_undergo_39 : decode cX3_undergo 39 = .ok (.invokevirtual 64, 3) := by decide +kernel
theorem dX3_undergo_42 : decode cX3_undergo 42 = .ok (.ifCond .eq 19, 3) := by decide +kernel
theorem dX3_undergo_45 : decode cX3_undergo 45 = .ok (.aload_n 0, 1) := by decide +kernel
theorem dX3_undergo_46 : decode cX3_undergo 46 = .ok (.getfield 18, 3) := by decide +kernel
theorem dX3_undergo_49 : decode cX3_undergo 49 = .ok (.iload_n 2, 1) := by decide +kernel
theorem dX3_undergo_50 : decode cX3_undergo 50 = .ok (.iload_n 1, 1) := by decide +kernel
theorem dX3_undergo_51 : decode cX3_undergo 51 = .ok (.iconst 2, 1) := by decide +kernel
theorem dX3_undergo_52 : decode cX3_undergo 52 = .ok (.if_icmp .ne 7, 3) := by decide +kernel
theorem dX3_undergo_55 : decode cX3_undergo 55 = .ok (.iconst 0, 1) := by decide +kernel
theorem dX3_undergo_56 : decode cX3_undergo 56 = .ok (.goto 4, 3) := by decide +kernel
theorem dX3_undergo_59 : decode cX3_undergo 59 = .ok (.iconst 1, 1) := by decide +kernel
theorem dX3_undergo_60 : decode cX3_undergo 60 = .ok (.iastore, 1) := by decide +kernel
theorem dX3_undergo_61 : decode cX3_undergo 61 = .ok (.return_, 1) := by decide +kernel
theorem dX3_topTable_0 : decode cX3_topTable 0 = .ok (.aload_n 0, 1) := by decide +kernel
theorem dX3_topTable_1 : decode cX3_topTable 1 = .ok (.aload_n 0, 1) := by decide +kernel
theorem dX3_topTable_2 : decode cX3_topTable 2 = .ok (.invokevirtual 70, 3) := by decide +kernel
theorem dX3_topTable_5 : decode cX3_topTable 5 = .ok (.invokevirtual 74, 3) := by decide +kernel
theorem dX3_topTable_8 : decode cX3_topTable 8 = .ok (.lreturn, 1) := by decide +kernel
theorem dX3_tableOf_0 : decode cX3_tableOf 0 = .ok (.aload_n 0, 1) := by decide +kernel
theorem dX3_tableOf_1 : decode cX3_tableOf 1 = .ok (.iload_n 1, 1) := by decide +kernel
theorem dX3_tableOf_2 : decode cX3_tableOf 2 = .ok (.invokevirtual 64, 3) := by decide +kernel
theorem dX3_tableOf_5 : decode cX3_tableOf 5 = .ok (.ifCond .ne 5, 3) := by decide +kernel
theorem dX3_tableOf_8 : decode cX3_tableOf 8 = .ok (.lconst 0, 1) := by decide +kernel
theorem dX3_tableOf_9 : decode cX3_tableOf 9 = .ok (.lreturn, 1) := by decide +kernel
theorem dX3_tableOf_10 : decode cX3_tableOf 10 = .ok (.iconst 0, 1) := by decide +kernel
theorem dX3_tableOf_11 : decode cX3_tableOf 11 = .ok (.istore_n 2, 1) := by decide +kernel
theorem dX3_tableOf_12 : decode cX3_tableOf 12 = .ok (.iload_n 2, 1) := by decide +kernel
theorem dX3_tableOf_13 : decode cX3_tableOf 13 = .ok (.iload_n 1, 1) := by decide +kernel
theorem dX3_tableOf_14 : decode cX3_tableOf 14 = .ok (.if_icmp .gt 20, 3) := by decide +kernel
theorem dX3_tableOf_17 : decode cX3_tableOf 17 = .ok (.aload_n 0, 1) := by decide +kernel
theorem dX3_tableOf_18 : decode cX3_tableOf 18 = .ok (.getfield 40, 3) := by decide +kernel
theorem dX3_tableOf_21 : decode cX3_tableOf 21 = .ok (.iload_n 2, 1) := by decide +kernel
theorem dX3_tableOf_22 : decode cX3_tableOf 22 = .ok (.aload_n 0, 1) := by decide +kernel
theorem dX3_tableOf_23 : decode cX3_tableOf 23 = .ok (.iload_n 2, 1) := by decide +kernel
theorem dX3_tableOf_24 : decode cX3_tableOf 24 = .ok (.invokevirtual 78, 3) := by decide +kernel
theorem dX3_tableOf_27 : decode cX3_tableOf 27 = .ok (.lastore, 1) := by decide +kernel
theorem dX3_tableOf_28 : decode cX3_tableOf 28 = .ok (.iinc 2 1, 3) := by decide +kernel
theorem dX3_tableOf_31 : decode cX3_tableOf 31 = .ok (.goto (-19), 3) := by decide +kernel
theorem dX3_tableOf_34 : decode cX3_tableOf 34 = .ok (.aload_n 0, 1) := by decide +kernel
theorem dX3_tableOf_35 : decode cX3_tableOf 35 = .ok (.getfield 40, 3) := by decide +kernel
theorem dX3_tableOf_38 : decode cX3_tableOf 38 = .ok (.iload_n 1, 1) := by decide +kernel
theorem dX3_tableOf_39 : decode cX3_tableOf 39 = .ok (.laload, 1) := by decide +kernel
theorem dX3_tableOf_40 : decode cX3_tableOf 40 = .ok (.lreturn, 1) := by decide +kernel
theorem dX3_gateTable_0 : decode cX3_gateTable 0 = .ok (.aload_n 0, 1) := by decide +kernel
theorem dX3_gateTable_1 : decode cX3_gateTable 1 = .ok (.getfield 27, 3) := by decide +kernel
theorem dX3_gateTable_4 : decode cX3_gateTable 4 = .ok (.iload_n 1, 1) := by decide +kernel
theorem dX3_gateTable_5 : decode cX3_gateTable 5 = .ok (.iaload, 1) := by decide +kernel
theorem dX3_gateTable_6 : decode cX3_gateTable 6 = .ok (.istore_n 2, 1) := by decide +kernel
theorem dX3_gateTable_7 : decode cX3_gateTable 7 = .ok (.aload_n 0, 1) := by decide +kernel
theorem dX3_gateTable_8 : decode cX3_gateTable 8 = .ok (.iload_n 1, 1) := by decide +kernel
theorem dX3_gateTable_9 : decode cX3_gateTable 9 = .ok (.iload_n 2, 1) := by decide +kernel
theorem dX3_gateTable_10 : decode cX3_gateTable 10 = .ok (.invokevirtual 81, 3) := by decide +kernel
theorem dX3_gateTable_13 : decode cX3_gateTable 13 = .ok (.aload_n 0, 1) := by decide +kernel
theorem dX3_gateTable_14 : decode cX3_gateTable 14 = .ok (.getfield 21, 3) := by decide +kernel
theorem dX3_gateTable_17 : decode cX3_gateTable 17 = .ok (.iload_n 1, 1) := by decide +kernel
theorem dX3_gateTable_18 : decode cX3_gateTable 18 = .ok (.iaload, 1) := by decide +kernel
theorem dX3_gateTable_19 : decode cX3_gateTable 19 = .ok (.istore_n 3, 1) := by decide +kernel
theorem dX3_gateTable_20 : decode cX3_gateTable 20 = .ok (.aload_n 0, 1) := by decide +kernel
theorem dX3_gateTable_21 : decode cX3_gateTable 21 = .ok (.getfield 18, 3) := by decide +kernel
theorem dX3_gateTable_24 : decode cX3_gateTable 24 = .ok (.iload_n 1, 1) := by decide +kernel
theorem dX3_gateTable_25 : decode cX3_gateTable 25 = .ok (.iaload, 1) := by decide +kernel
theorem dX3_gateTable_26 : decode cX3_gateTable 26 = .ok (.ifCond .ne 8, 3) := by decide +kernel
theorem dX3_gateTable_29 : decode cX3_gateTable 29 = .ok (.iload_n 2, 1) := by decide +kernel
theorem dX3_gateTable_30 : decode cX3_gateTable 30 = .ok (.istore_n 3, 1) := by decide +kernel
theorem dX3_gateTable_31 : decode cX3_gateTable 31 = .ok (.goto 15, 3) := by decide +kernel
theorem dX3_gateTable_34 : decode cX3_gateTable 34 = .ok (.aload_n 0, 1) := by decide +kernel
theorem dX3_gateTable_35 : decode cX3_gateTable 35 = .ok (.getfield 18, 3) := by decide +kernel
theorem dX3_gateTable_38 : decode cX3_gateTable 38 = .ok (.iload_n 1, 1) := by decide +kernel
theorem dX3_gateTable_39 : decode cX3_gateTable 39 = .ok (.iaload, 1) := by decide +kernel
theorem dX3_gateTable_40 : decode cX3_gateTable 40 = .ok (.iconst 1, 1) := by decide +kernel
theorem dX3_gateTable_41 : decode cX3_gateTable 41 = .ok (.if_icmp .ne 5, 3) := by decide +kernel
theorem dX3_gateTable_44 : decode cX3_gateTable 44 = .ok (.iconst 1, 1) := by decide +kernel
theorem dX3_gateTable_45 : decode cX3_gateTable 45 = .ok (.istore_n 3, 1) := by decide +kernel
theorem dX3_gateTable_46 : decode cX3_gateTable 46 = .ok (.iload_n 3, 1) := by decide +kernel
theorem dX3_gateTable_47 : decode cX3_gateTable 47 = .ok (.aload_n 0, 1) := by decide +kernel
theorem dX3_gateTable_48 : decode cX3_gateTable 48 = .ok (.getfield 44, 3) := by decide +kernel
theorem dX3_gateTable_51 : decode cX3_gateTable 51 = .ok (.arraylength, 1) := by decide +kernel
theorem dX3_gateTable_52 : decode cX3_gateTable 52 = .ok (.if_icmp .ge 12, 3) := by decide +kernel
theorem dX3_gateTable_55 : decode cX3_gateTable 55 = .ok (.aload_n 0, 1) := by decide +kernel
theorem dX3_gateTable_56 : decode cX3_gateTable 56 = .ok (.getfield 44, 3) := by decide +kernel
theorem dX3_gateTable_59 : decode cX3_gateTable 59 = .ok (.iload_n 3, 1) := by decide +kernel
theorem dX3_gateTable_60 : decode cX3_gateTable 60 = .ok (.laload, 1) := by decide +kernel
theorem dX3_gateTable_61 : decode cX3_gateTable 61 = .ok (.goto 4, 3) := by decide +kernel
theorem dX3_gateTable_64 : decode cX3_gateTable 64 = .ok (.lconst 0, 1) := by decide +kernel
theorem dX3_gateTable_65 : decode cX3_gateTable 65 = .ok (.lreturn, 1) := by decide +kernel
theorem dX3_countInputs_0 : decode cX3_countInputs 0 = .ok (.aload_n 0, 1) := by decide +kernel
theorem dX3_countInputs_1 : decode cX3_countInputs 1 = .ok (.getfield 44, 3) := by decide +kernel
theorem dX3_countInputs_4 : decode cX3_countInputs 4 = .ok (.iconst 0, 1) := by decide +kernel
theorem dX3_countInputs_5 : decode cX3_countInputs 5 = .ok (.ldc2_w 85, 3) := by decide +kernel
theorem dX3_countInputs_8 : decode cX3_countInputs 8 = .ok (.lastore, 1) := by decide +kernel
theorem dX3_countInputs_9 : decode cX3_countInputs 9 = .ok (.iconst 1, 1) := by decide +kernel
theorem dX3_countInputs_10 : decode cX3_countInputs 10 = .ok (.istore_n 3, 1) := by decide +kernel
theorem dX3_countInputs_11 : decode cX3_countInputs 11 = .ok (.iload_n 3, 1) := by decide +kernel
theorem dX3_countInputs_12 : decode cX3_countInputs 12 = .ok (.aload_n 0, 1) := by decide +kernel
theorem dX3_countInputs_13 : decode cX3_countInputs 13 = .ok (.getfield 44, 3) := by decide +kernel
theorem dX3_countInputs_16 : decode cX3_countInputs 16 = .ok (.arraylength, 1) := by decide +kernel
theorem dX3_countInputs_17 : decode cX3_countInputs 17 = .ok (.if_icmp .ge 16, 3) := by decide +kernel
theorem dX3_countInputs_20 : decode cX3_countInputs 20 = .ok (.aload_n 0, 1) := by decide +kernel
theorem dX3_countInputs_21 : decode cX3_countInputs 21 = .ok (.getfield 44, 3) := by decide +kernel
theorem dX3_countInputs_24 : decode cX3_countInputs 24 = .ok (.iload_n 3, 1) := by decide +kernel
theorem dX3_countInputs_25 : decode cX3_countInputs 25 = .ok (.lconst 0, 1) := by decide +kernel
theorem dX3_countInputs_26 : decode cX3_countInputs 26 = .ok (.lastore, 1) := by decide +kernel
theorem dX3_countInputs_27 : decode cX3_countInputs 27 = .ok (.iinc 3 1, 3) := by decide +kernel
theorem dX3_countInputs_30 : decode cX3_countInputs 30 = .ok (.goto (-19), 3) := by decide +kernel
theorem dX3_countInputs_33 : decode cX3_countInputs 33 = .ok (.iconst 0, 1) := by decide +kernel
theorem dX3_countInputs_34 : decode cX3_countInputs 34 = .ok (.istore_n 3, 1) := by decide +kernel
theorem dX3_countInputs_35 : decode cX3_countInputs 35 = .ok (.iload_n 3, 1) := by decide +kernel
theorem dX3_countInputs_36 : decode cX3_countInputs 36 = .ok (.iload_n 2, 1) := by decide +kernel
theorem dX3_countInputs_37 : decode cX3_countInputs 37 = .ok (.if_icmp .ge 67, 3) := by decide +kernel
theorem dX3_countInputs_40 : decode cX3_countInputs 40 = .ok (.aload_n 0, 1) := by decide +kernel
theorem dX3_countInputs_41 : decode cX3_countInputs 41 = .ok (.aload_n 0, 1) := by decide +kernel
theorem dX3_countInputs_42 : decode cX3_countInputs 42 = .ok (.getfield 24, 3) := by decide +kernel
theorem dX3_countInputs_45 : decode cX3_countInputs 45 = .ok (.iload_n 1, 1) := by decide +kernel
theorem dX3_countInputs_46 : decode cX3_countInputs 46 = .ok (.iconst 4, 1) := by decide +kernel
theorem dX3_countInputs_47 : decode cX3_countInputs 47 = .ok (.imul, 1) := by decide +kernel
theorem dX3_countInputs_48 : decode cX3_countInputs 48 = .ok (.iload_n 3, 1) := by decide +kernel
theorem dX3_countInputs_49 : decode cX3_countInputs 49 = .ok (.iadd, 1) := by decide +kernel
theorem dX3_countInputs_50 : decode cX3_countInputs 50 = .ok (.iaload, 1) := by decide +kernel
theorem dX3_countInputs_51 : decode cX3_countInputs 51 = .ok (.invokevirtual 87, 3) := by decide +kernel
theorem dX3_countInputs_54 : decode cX3_countInputs 54 = .ok (.lstore 4, 2) := by decide +kernel
theorem dX3_countInputs_56 : decode cX3_countInputs 56 = .ok (.aload_n 0, 1) := by decide +kernel
theorem dX3_countInputs_57 : decode cX3_countInputs 57 = .ok (.getfield 44, 3) := by decide +kernel
theorem dX3_countInputs_60 : decode cX3_countInputs 60 = .ok (.arraylength, 1) := by decide +kernel
theorem dX3_countInputs_61 : decode cX3_countInputs 61 = .ok (.iconst 1, 1) := by decide +kernel
theorem dX3_countInputs_62 : decode cX3_countInputs 62 = .ok (.isub, 1) := by decide +kernel
theorem dX3_countInputs_63 : decode cX3_countInputs 63 = .ok (.istore 6, 2) := by decide +kernel
theorem dX3_countInputs_65 : decode cX3_countInputs 65 = .ok (.iload 6, 2) := by decide +kernel
theorem dX3_countInputs_67 : decode cX3_countInputs 67 = .ok (.ifCond .le 31, 3) := by decide +kernel
theorem dX3_countInputs_70 : decode cX3_countInputs 70 = .ok (.aload_n 0, 1) := by decide +kernel
theorem dX3_countInputs_71 : decode cX3_countInputs 71 = .ok (.getfield 44, 3) := by decide +kernel
theorem dX3_countInputs_74 : decode cX3_countInputs 74 = .ok (.iload 6, 2) := by decide +kernel
theorem dX3_countInputs_76 : decode cX3_countInputs 76 = .ok (.dup2, 1) := by decide +kernel
theorem dX3_countInputs_77 : decode cX3_countInputs 77 = .ok (.laload, 1) := by decide +kernel
theorem dX3_countInputs_78 : decode cX3_countInputs 78 = .ok (.aload_n 0, 1) := by decide +kernel
theorem dX3_countInputs_79 : decode cX3_countInputs 79 = .ok (.getfield 44, 3) := by decide +kernel
theorem dX3_countInputs_82 : decode cX3_countInputs 82 = .ok (.iload 6, 2) := by decide +kernel
theorem dX3_countInputs_84 : decode cX3_countInputs 84 = .ok (.iconst 1, 1) := by decide +kernel
theorem dX3_countInputs_85 : decode cX3_countInputs 85 = .ok (.isub, 1) := by decide +kernel
theorem dX3_countInputs_86 : decode cX3_countInputs 86 = .ok (.laload, 1) := by decide +kernel
theorem dX3_countInputs_87 : decode cX3_countInputs 87 = .ok (.lload 4, 2) := by decide +kernel
theorem dX3_countInputs_89 : decode cX3_countInputs 89 = .ok (.land, 1) := by decide +kernel
theorem dX3_countInputs_90 : decode cX3_countInputs 90 = .ok (.lor, 1) := by decide +kernel
theorem dX3_countInputs_91 : decode cX3_countInputs 91 = .ok (.lastore, 1) := by decide +kernel
theorem dX3_countInputs_92 : decode cX3_countInputs 92 = .ok (.iinc 6 (-1), 3) := by decide +kernel
theorem dX3_countInputs_95 : decode cX3_countInputs 95 = .ok (.goto (-30), 3) := by decide +kernel
theorem dX3_countInputs_98 : decode cX3_countInputs 98 = .ok (.iinc 3 1, 3) := by decide +kernel
theorem dX3_countInputs_101 : decode cX3_countInputs 101 = .ok (.goto (-66), 3) := by decide +kernel
theorem dX3_countInputs_104 : decode cX3_countInputs 104 = .ok (.return_, 1) := by decide +kernel
theorem dX3_inputTable_0 : decode cX3_inputTable 0 = .ok (.iload_n 1, 1) := by decide +kernel
theorem dX3_inputTable_1 : decode cX3_inputTable 1 = .ok (.bipush 10, 2) := by decide +kernel
theorem dX3_inputTable_3 : decode cX3_inputTable 3 = .ok (.isub, 1) := by decide +kernel
theorem dX3_inputTable_4 : decode cX3_inputTable 4 = .ok (.istore_n 2, 1) := by decide +kernel
theorem dX3_inputTable_5 : decode cX3_inputTable 5 = .ok (.iload_n 2, 1) := by decide +kernel
theorem dX3_inputTable_6 : decode cX3_inputTable 6 = .ok (.ifCond .lt 22, 3) := by decide +kernel
theorem dX3_inputTable_9 : decode cX3_inputTable 9 = .ok (.iload_n 2, 1) := by decide +kernel
theorem dX3_inputTable_10 : decode cX3_inputTable 10 = .ok (.aload_n 0, 1) := by decide +kernel
theorem dX3_inputTable_11 : decode cX3_inputTable 11 = .ok (.getfield 54, 3) := by decide +kernel
theorem dX3_inputTable_14 : decode cX3_inputTable 14 = .ok (.if_icmp .ge 12, 3) := by decide +kernel
theorem dX3_inputTable_17 : decode cX3_inputTable 17 = .ok (.aload_n 0, 1) := by decide +kernel
theorem dX3_inputTable_18 : decode cX3_inputTable 18 = .ok (.getfield 40, 3) := by decide +kernel
theorem dX3_inputTable_21 : decode cX3_inputTable 21 = .ok (.iload_n 2, 1) := by decide +kernel
theorem dX3_inputTable_22 : decode cX3_inputTable 22 = .ok (.laload, 1) := by decide +kernel
theorem dX3_inputTable_23 : decode cX3_inputTable 23 = .ok (.goto 4, 3) := by decide +kernel
theorem dX3_inputTable_26 : decode cX3_inputTable 26 = .ok (.lconst 0, 1) := by decide +kernel
theorem dX3_inputTable_27 : decode cX3_inputTable 27 = .ok (.lreturn, 1) := by decide +kernel
theorem dX3_inputTable_28 : decode cX3_inputTable 28 = .ok (.iload_n 1, 1) := by decide +kernel
theorem dX3_inputTable_29 : decode cX3_inputTable 29 = .ok (.ifCond .lt 19, 3) := by decide +kernel
theorem dX3_inputTable_32 : decode cX3_inputTable 32 = .ok (.iload_n 1, 1) := by decide +kernel
theorem dX3_inputTable_33 : decode cX3_inputTable 33 = .ok (.getstatic 90, 3) := by decide +kernel
theorem dX3_inputTable_36 : decode cX3_inputTable 36 = .ok (.arraylength, 1) := by decide +kernel
theorem dX3_inputTable_37 : decode cX3_inputTable 37 = .ok (.if_icmp .ge 11, 3) := by decide +kernel
theorem dX3_inputTable_40 : decode cX3_inputTable 40 = .ok (.getstatic 90, 3) := by decide +kernel
theorem dX3_inputTable_43 : decode cX3_inputTable 43 = .ok (.iload_n 1, 1) := by decide +kernel
theorem dX3_inputTable_44 : decode cX3_inputTable 44 = .ok (.laload, 1) := by decide +kernel
theorem dX3_inputTable_45 : decode cX3_inputTable 45 = .ok (.goto 4, 3) := by decide +kernel
theorem dX3_inputTable_48 : decode cX3_inputTable 48 = .ok (.lconst 0, 1) := by decide +kernel
theorem dX3_inputTable_49 : decode cX3_inputTable 49 = .ok (.lreturn, 1) := by decide +kernel
theorem dX3_ifWorks_0 : decode cX3_ifWorks 0 = .ok (.iload_n 2, 1) := by decide +kernel
theorem dX3_ifWorks_1 : decode cX3_ifWorks 1 = .ok (.ifCond .lt 11, 3) := by decide +kernel
theorem dX3_ifWorks_4 : decode cX3_ifWorks 4 = .ok (.iload_n 2, 1) := by decide +kernel
theorem dX3_ifWorks_5 : decode cX3_ifWorks 5 = .ok (.getstatic 90, 3) := by decide +kernel
theorem dX3_ifWorks_8 : decode cX3_ifWorks 8 = .ok (.arraylength, 1) := by decide +kernel
theorem dX3_ifWorks_9 : decode cX3_ifWorks 9 = .ok (.if_icmp .lt 5, 3) := by decide +kernel
theorem dX3_ifWorks_12 : decode cX3_ifWorks 12 = .ok (.lload_n 0, 1) := by decide +kernel
theorem dX3_ifWorks_13 : decode cX3_ifWorks 13 = .ok (.lreturn, 1) := by decide +kernel
theorem dX3_ifWorks_14 : decode cX3_ifWorks 14 = .ok (.lload_n 0, 1) := by decide +kernel
theorem dX3_ifWorks_15 : decode cX3_ifWorks 15 = .ok (.getstatic 90, 3) := by decide +kernel
theorem dX3_ifWorks_18 : decode cX3_ifWorks 18 = .ok (.iload_n 2, 1) := by decide +kernel
theorem dX3_ifWorks_19 : decode cX3_ifWorks 19 = .ok (.laload, 1) := by decide +kernel
theorem dX3_ifWorks_20 : decode cX3_ifWorks 20 = .ok (.ldc2_w 85, 3) := by decide +kernel
theorem dX3_ifWorks_23 : decode cX3_ifWorks 23 = .ok (.lxor, 1) := by decide +kernel
theorem dX3_ifWorks_24 : decode cX3_ifWorks 24 = .ok (.land, 1) := by decide +kernel
theorem dX3_ifWorks_25 : decode cX3_ifWorks 25 = .ok (.lstore_n 3, 1) := by decide +kernel
theorem dX3_ifWorks_26 : decode cX3_ifWorks 26 = .ok (.lload_n 3, 1) := by decide +kernel
theorem dX3_ifWorks_27 : decode cX3_ifWorks 27 = .ok (.lload_n 3, 1) := by decide +kernel
theorem dX3_ifWorks_28 : decode cX3_ifWorks 28 = .ok (.iconst 1, 1) := by decide +kernel
theorem dX3_ifWorks_29 : decode cX3_ifWorks 29 = .ok (.iload_n 2, 1) := by decide +kernel
theorem dX3_ifWorks_30 : decode cX3_ifWorks 30 = .ok (.ishl, 1) := by decide +kernel
theorem dX3_ifWorks_31 : decode cX3_ifWorks 31 = .ok (.lshl, 1) := by decide +kernel
theorem dX3_ifWorks_32 : decode cX3_ifWorks 32 = .ok (.lor, 1) := by decide +kernel
theorem dX3_ifWorks_33 : decode cX3_ifWorks 33 = .ok (.lreturn, 1) := by decide +kernel
theorem dX3_ifFails_0 : decode cX3_ifFails 0 = .ok (.iload_n 2, 1) := by decide +kernel
theorem dX3_ifFails_1 : decode cX3_ifFails 1 = .ok (.ifCond .lt 11, 3) := by decide +kernel
theorem dX3_ifFails_4 : decode cX3_ifFails 4 = .ok (.iload_n 2, 1) := by decide +kernel
theorem dX3_ifFails_5 : decode cX3_ifFails 5 = .ok (.getstatic 90, 3) := by decide +kernel
theorem dX3_ifFails_8 : decode cX3_ifFails 8 = .ok (.arraylength, 1) := by decide +kernel
theorem dX3_ifFails_9 : decode cX3_ifFails 9 = .ok (.if_icmp .lt 5, 3) := by decide +kernel
theorem dX3_ifFails_12 : decode cX3_ifFails 12 = .ok (.lload_n 0, 1) := by decide +kernel
theorem dX3_ifFails_13 : decode cX3_ifFails 13 = .ok (.lreturn, 1) := by decide +kernel
