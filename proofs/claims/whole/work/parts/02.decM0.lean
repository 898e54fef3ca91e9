theorem dX9_init_0 : decode cX9_init 0 = .ok (.aload_n 0, 1) := by decide +kernel
theorem dX9_init_1 : decode cX9_init 1 = .ok (.invokespecial 3, 3) := by decide +kernel
theorem dX9_init_4 : decode cX9_init 4 = .ok (.aload_n 0, 1) := by decide +kernel
theorem dX9_init_5 : decode cX9_init 5 = .ok (.bipush 6, 2) := by decide +kernel
theorem dX9_init_7 : decode cX9_init 7 = .ok (.newarray .int, 2) := by decide +kernel
theorem dX9_init_9 : decode cX9_init 9 = .ok (.putfield 9, 3) := by decide +kernel
theorem dX9_init_12 : decode cX9_init 12 = .ok (.aload_n 0, 1) := by decide +kernel
theorem dX9_init_13 : decode cX9_init 13 = .ok (.bipush 6, 2) := by decide +kernel
theorem dX9_init_15 : decode cX9_init 15 = .ok (.newarray .int, 2) := by decide +kernel
theorem dX9_init_17 : decode cX9_init 17 = .ok (.putfield 15, 3) := by decide +kernel
theorem dX9_init_20 : decode cX9_init 20 = .ok (.aload_n 0, 1) := by decide +kernel
theorem dX9_init_21 : decode cX9_init 21 = .ok (.bipush 8, 2) := by decide +kernel
theorem dX9_init_23 : decode cX9_init 23 = .ok (.newarray .int, 2) := by decide +kernel
theorem dX9_init_25 : decode cX9_init 25 = .ok (.putfield 18, 3) := by decide +kernel
theorem dX9_init_28 : decode cX9_init 28 = .ok (.aload_n 0, 1) := by decide +kernel
theorem dX9_init_29 : decode cX9_init 29 = .ok (.bipush 8, 2) := by decide +kernel
theorem dX9_init_31 : decode cX9_init 31 = .ok (.newarray .int, 2) := by decide +kernel
theorem dX9_init_33 : decode cX9_init 33 = .ok (.putfield 21, 3) := by decide +kernel
theorem dX9_init_36 : decode cX9_init 36 = .ok (.aload_n 0, 1) := by decide +kernel
theorem dX9_init_37 : decode cX9_init 37 = .ok (.bipush 8, 2) := by decide +kernel
theorem dX9_init_39 : decode cX9_init 39 = .ok (.newarray .int, 2) := by decide +kernel
theorem dX9_init_41 : decode cX9_init 41 = .ok (.putfield 24, 3) := by decide +kernel
theorem dX9_init_44 : decode cX9_init 44 = .ok (.aload_n 0, 1) := by decide +kernel
theorem dX9_init_45 : decode cX9_init 45 = .ok (.bipush 32, 2) := by decide +kernel
theorem dX9_init_47 : decode cX9_init 47 = .ok (.newarray .int, 2) := by decide +kernel
theorem dX9_init_49 : decode cX9_init 49 = .ok (.putfield 27, 3) := by decide +kernel
theorem dX9_init_52 : decode cX9_init 52 = .ok (.aload_n 0, 1) := by decide +kernel
theorem dX9_init_53 : decode cX9_init 53 = .ok (.iconst (-1), 1) := by decide +kernel
theorem dX9_init_54 : decode cX9_init 54 = .ok (.putfield 30, 3) := by decide +kernel
theorem dX9_init_57 : decode cX9_init 57 = .ok (.aload_n 0, 1) := by decide +kernel
theorem dX9_init_58 : decode cX9_init 58 = .ok (.iconst 3, 1) := by decide +kernel
theorem dX9_init_59 : decode cX9_init 59 = .ok (.newarray .int, 2) := by decide +kernel
theorem dX9_init_61 : decode cX9_init 61 = .ok (.putfield 34, 3) := by decide +kernel
theorem dX9_init_64 : decode cX9_init 64 = .ok (.aload_n 0, 1) := by decide +kernel
theorem dX9_init_65 : decode cX9_init 65 = .ok (.iconst 3, 1) := by decide +kernel
theorem dX9_init_66 : decode cX9_init 66 = .ok (.newarray .int, 2) := by decide +kernel
theorem dX9_init_68 : decode cX9_init 68 = .ok (.putfield 37, 3) := by decide +kernel
theorem dX9_init_71 : decode cX9_init 71 = .ok (.aload_n 0, 1) := by decide +kernel
theorem dX9_init_72 : decode cX9_init 72 = .ok (.bipush 6, 2) := by decide +kernel
theorem dX9_init_74 : decode cX9_init 74 = .ok (.newarray .int, 2) := by decide +kernel
theorem dX9_init_76 : decode cX9_init 76 = .ok (.putfield 40, 3) := by decide +kernel
theorem dX9_init_79 : decode cX9_init 79 = .ok (.aload_n 0, 1) := by decide +kernel
theorem dX9_init_80 : decode cX9_init 80 = .ok (.bipush 6, 2) := by decide +kernel
theorem dX9_init_82 : decode cX9_init 82 = .ok (.newarray .int, 2) := by decide +kernel
theorem dX9_init_84 : decode cX9_init 84 = .ok (.putfield 43, 3) := by decide +kernel
theorem dX9_init_87 : decode cX9_init 87 = .ok (.aload_n 0, 1) := by decide +kernel
theorem dX9_init_88 : decode cX9_init 88 = .ok (.bipush 16, 2) := by decide +kernel
theorem dX9_init_90 : decode cX9_init 90 = .ok (.newarray .int, 2) := by decide +kernel
theorem dX9_init_92 : decode cX9_init 92 = .ok (.putfield 46, 3) := by decide +kernel
theorem dX9_init_95 : decode cX9_init 95 = .ok (.aload_n 0, 1) := by decide +kernel
theorem dX9_init_96 : decode cX9_init 96 = .ok (.bipush 8, 2) := by decide +kernel
theorem dX9_init_98 : decode cX9_init 98 = .ok (.newarray .int, 2) := by decide +kernel
theorem dX9_init_100 : decode cX9_init 100 = .ok (.putfield 49, 3) := by decide +kernel
theorem dX9_init_103 : decode cX9_init 103 = .ok (.aload_n 0, 1) := by decide +kernel
theorem dX9_init_104 : decode cX9_init 104 = .ok (.bipush 100, 2) := by decide +kernel
theorem dX9_init_106 : decode cX9_init 106 = .ok (.newarray .int, 2) := by decide +kernel
theorem dX9_init_108 : decode cX9_init 108 = .ok (.putfield 52, 3) := by decide +kernel
theorem dX9_init_111 : decode cX9_init 111 = .ok (.aload_n 0, 1) := by decide +kernel
theorem dX9_init_112 : decode cX9_init 112 = .ok (.bipush 8, 2) := by decide +kernel
theorem dX9_init_114 : decode cX9_init 114 = .ok (.newarray .boolean, 2) := by decide +kernel
theorem dX9_init_116 : decode cX9_init 116 = .ok (.putfield 55, 3) := by decide +kernel
theorem dX9_init_119 : decode cX9_init 119 = .ok (.aload_n 0, 1) := by decide +kernel
theorem dX9_init_120 : decode cX9_init 120 = .ok (.bipush 64, 2) := by decide +kernel
theorem dX9_init_122 : decode cX9_init 122 = .ok (.newarray .long, 2) := by decide +kernel
theorem dX9_init_124 : decode cX9_init 124 = .ok (.putfield 59, 3) := by decide +kernel
theorem dX9_init_127 : decode cX9_init 127 = .ok (.aload_n 0, 1) := by decide +kernel
theorem dX9_init_128 : decode cX9_init 128 = .ok (.bipush 64, 2) := by decide +kernel
theorem dX9_init_130 : decode cX9_init 130 = .ok (.newarray .int, 2) := by decide +kernel
theorem dX9_init_132 : decode cX9_init 132 = .ok (.putfield 63, 3) := by decide +kernel
theorem dX9_init_135 : decode cX9_init 135 = .ok (.aload_n 0, 1) := by decide +kernel
theorem dX9_init_136 : decode cX9_init 136 = .ok (.bipush 64, 2) := by decide +kernel
theorem dX9_init_138 : decode cX9_init 138 = .ok (.newarray .int, 2) := by decide +kernel
theorem dX9_init_140 : decode cX9_init 140 = .ok (.putfield 66, 3) := by decide +kernel
theorem dX9_init_143 : decode cX9_init 143 = .ok (.aload_n 0, 1) := by decide +kernel
theorem dX9_init_144 : decode cX9_init 144 = .ok (.bipush 64, 2) := by decide +kernel
theorem dX9_init_146 : decode cX9_init 146 = .ok (.newarray .int, 2) := by decide +kernel
theorem dX9_init_148 : decode cX9_init 148 = .ok (.putfield 69, 3) := by decide +kernel
theorem dX9_init_151 : decode cX9_init 151 = .ok (.aload_n 0, 1) := by decide +kernel
theorem dX9_init_152 : decode cX9_init 152 = .ok (.bipush 64, 2) := by decide +kernel
theorem dX9_init_154 : decode cX9_init 154 = .ok (.newarray .int, 2) := by decide +kernel
theorem dX9_init_156 : decode cX9_init 156 = .ok (.putfield 72, 3) := by decide +kernel
theorem dX9_init_159 : decode cX9_init 159 = .ok (.aload_n 0, 1) := by decide +kernel
theorem dX9_init_160 : decode cX9_init 160 = .ok (.bipush 20, 2) := by decide +kernel
theorem dX9_init_162 : decode cX9_init 162 = .ok (.newarray .int, 2) := by decide +kernel
theorem dX9_init_164 : decode cX9_init 164 = .ok (.putfield 75, 3) := by decide +kernel
theorem dX9_init_167 : decode cX9_init 167 = .ok (.aload_n 0, 1) := by decide +kernel
theorem dX9_init_168 : decode cX9_init 168 = .ok (.bipush 124, 2) := by decide +kernel
theorem dX9_init_170 : decode cX9_init 170 = .ok (.newarray .int, 2) := by decide +kernel
theorem dX9_init_172 : decode cX9_init 172 = .ok (.putfield 78, 3) := by decide +kernel
theorem dX9_init_175 : decode cX9_init 175 = .ok (.aload_n 0, 1) := by decide +kernel
theorem dX9_init_176 : decode cX9_init 176 = .ok (.bipush 6, 2) := by decide +kernel
theorem dX9_init_178 : decode cX9_init 178 = .ok (.newarray .int, 2) := by decide +kernel
theorem dX9_init_180 : decode cX9_init 180 = .ok (.putfield 81, 3) := by decide +kernel
theorem dX9_init_183 : decode cX9_init 183 = .ok (.aload_n 0, 1) := by decide +kernel
theorem dX9_init_184 : decode cX9_init 184 = .ok (.bipush 6, 2) := by decide +kernel
theorem dX9_init_186 : decode cX9_init 186 = .ok (.newarray .int, 2) := by decide +kernel
theorem dX9_init_188 : decode cX9_init 188 = .ok (.putfield 84, 3) := by decide +kernel
theorem dX9_init_191 : decode cX9_init 191 = .ok (.aload_n 0, 1) := by decide +kernel
theorem dX9_init_192 : decode cX9_init 192 = .ok (.sipush 360, 3) := by decide +kernel
theorem dX9_init_195 : decode cX9_init 195 = .ok (.newarray .long, 2) := by decide +kernel
theorem dX9_init_197 : decode cX9_init 197 = .ok (.putfield 87, 3) := by decide +kernel
theorem dX9_init_200 : decode cX9_init 200 = .ok (.iconst 0, 1) := by decide +kernel
theorem dX9_init_201 : decode cX9_init 201 = .ok (.istore_n 1, 1) := by decide +kernel
theorem dX9_init_202 : decode cX9_init 202 = .ok (.iload_n 1, 1) := by decide +kernel
theorem dX9_init_203 : decode cX9_init 203 = .ok (.bipush 6, 2) := by decide +kernel
theorem dX9_init_205 : decode cX9_init 205 = .ok (.if_icmp .ge 16, 3) := by decide +kernel
theorem dX9_init_208 : decode cX9_init 208 = .ok (.aload_n 0, 1) := by decide +kernel
theorem dX9_init_209 : decode cX9_init 209 = .ok (.getfield 81, 3) := by decide +kernel
theorem dX9_init_212 : decode cX9_init 212 = .ok (.iload_n 1, 1) := by decide +kernel
theorem dX9_init_213 : decode cX9_init 213 = .ok (.iconst (-1), 1) := by decide +kernel
theorem dX9_init_214 : decode cX9_init 214 = .ok (.iastore, 1) := by decide +kernel
theorem dX9_init_215 : decode cX9_init 215 = .ok (.iinc 1 1, 3) := by decide +kernel
theorem dX9_init_218 : decode cX9_init 218 = .ok (.goto (-16), 3) := by decide +kernel
theorem dX9_init_221 : decode cX9_init 221 = .ok (.return_, 1) := by decide +kernel
theorem dX9_within_0 : decode cX9_within 0 = .ok (.iload_n 0, 1) := by decide +kernel
theorem dX9_within_1 : decode cX9_within 1 = .ok (.iload_n 1, 1) := by decide +kernel
theorem dX9_within_2 : decode cX9_within 2 = .ok (.if_icmp .lt 12, 3) := by decide +kernel
theorem dX9_within_5 : decode cX9_within 5 = .ok (.iload_n 0, 1) := by decide +kernel
theorem dX9_within_6 : decode cX9_within 6 = .ok (.iload_n 2, 1) := by decide +kernel
theorem dX9_within_7 : decode cX9_within 7 = .ok (.if_icmp .gt 7, 3) := by decide +kernel
theorem dX9_within_10 : decode cX9_within 10 = .ok (.iconst 1, 1) := by decide +kernel
theorem dX9_within_11 : decode cX9_within 11 = .ok (.goto 4, 3) := by decide +kernel
theorem dX9_within_14 : decode cX9_within 14 = .ok (.iconst 0, 1) := by decide +kernel
theorem dX9_within_15 : decode cX9_within 15 = .ok (.ireturn, 1) := by decide +kernel
theorem dX9_isPart_0 : decode cX9_isPart 0 = .ok (.iload_n 1, 1) := by decide +kernel
theorem dX9_isPart_1 : decode cX9_isPart 1 = .ok (.iconst 0, 1) := by decide +kernel
theorem dX9_isPart_2 : decode cX9_isPart 2 = .ok (.aload_n 0, 1) := by decide +kernel
theorem dX9_isPart_3 : decode cX9_isPart 3 = .ok (.getfield 90, 3) := by decide +kernel
theorem dX9_isPart_6 : decode cX9_isPart 6 = .ok (.iconst 1, 1) := by decide +kernel
theorem dX9_isPart_7 : decode cX9_isPart 7 = .ok (.isub, 1) := by decide +kernel
theorem dX9_isPart_8 : decode cX9_isPart 8 = .ok (.invokestatic 93, 3) := by decide +kernel
theorem dX9_isPart_11 : decode cX9_isPart 11 = .ok (.ireturn, 1) := by decide +kernel
theorem dX9_isGate_0 : decode cX9_isGate 0 = .ok (.iload_n 1, 1) := by decide +kernel
theorem dX9_isGate_1 : decode cX9_isGate 1 = .ok (.iconst 0, 1) := by decide +kernel
theorem dX9_isGate_2 : decode cX9_isGate 2 = .ok (.aload_n 0, 1) := by decide +kernel
theorem dX9_isGate_3 : decode cX9_isGate 3 = .ok (.getfield 97, 3) := by decide +kernel
theorem dX9_isGate_6 : decode cX9_isGate 6 = .ok (.iconst 1, 1) := by decide +kernel
theorem dX9_isGate_7 : decode cX9_isGate 7 = .ok (.isub, 1) := by decide +kernel
theorem dX9_isGate_8 : decode cX9_isGate 8 = .ok (.invokestatic 93, 3) := by decide +kernel
theorem dX9_isGate_11 : decode cX9_isGate 11 = .ok (.ireturn, 1) := by decide +kernel
theorem dX9_isSet_0 : decode cX9_isSet 0 = .ok (.iload_n 1, 1) := by decide +kernel
theorem dX9_isSet_1 : decode cX9_isSet 1 = .ok (.iconst 0, 1) := by decide +kernel
theorem dX9_isSet_2 : decode cX9_isSet 2 = .ok (.iconst 1, 1) := by decide +kernel
theorem dX9_isSet_3 : decode cX9_isSet 3 = .ok (.aload_n 0, 1) := by decide +kernel
theorem dX9_isSet_4 : decode cX9_isSet 4 = .ok (.getfield 90, 3) := by decide +kernel
theorem dX9_isSet_7 : decode cX9_isSet 7 = .ok (.ishl, 1) := by decide +kernel
theorem dX9_isSet_8 : decode cX9_isSet 8 = .ok (.iconst 1, 1) := by decide +kernel
theorem dX9_isSet_9 : decode cX9_isSet 9 = .ok (.isub, 1) := by decide +kernel
theorem dX9_isSet_10 : decode cX9_isSet 10 = .ok (.invokestatic 93, 3) := by decide +kernel
theorem dX9_isSet_13 : decode cX9_isSet 13 = .ok (.ireturn, 1) := by decide +kernel
theorem dX9_isOdds_0 : decode cX9_isOdds 0 = .ok (.iload_n 0, 1) := by decide +kernel
theorem dX9_isOdds_1 : decode cX9_isOdds 1 = .ok (.iconst 0, 1) := by decide +kernel
theorem dX9_isOdds_2 : decode cX9_isOdds 2 = .ok (.bipush 100, 2) := by decide +kernel
theorem dX9_isOdds_4 : decode cX9_isOdds 4 = .ok (.invokestatic 93, 3) := by decide +kernel
theorem dX9_isOdds_7 : decode cX9_isOdds 7 = .ok (.ireturn, 1) := by decide +kernel
theorem dX9_part_0 : decode cX9_part 0 = .ok (.iload_n 1, 1) := by decide +kernel
theorem dX9_part_1 : decode cX9_part 1 = .ok (.invokestatic 100, 3) := by decide +kernel
theorem dX9_part_4 : decode cX9_part 4 = .ok (.ifCond .ne 6, 3) := by decide +kernel
theorem dX9_part_7 : decode cX9_part 7 = .ok (.bipush (-2), 2) := by decide +kernel
theorem dX9_part_9 : decode cX9_part 9 = .ok (.ireturn, 1) := by decide +kernel
theorem dX9_part_10 : decode cX9_part 10 = .ok (.aload_n 0, 1) := by decide +kernel
theorem dX9_part_11 : decode cX9_part 11 = .ok (.getfield 90, 3) := by decide +kernel
theorem dX9_part_14 : decode cX9_part 14 = .ok (.bipush 6, 2) := by decide +kernel
theorem dX9_part_16 : decode cX9_part 16 = .ok (.if_icmp .ne 6, 3) := by decide +kernel
theorem dX9_part_19 : decode cX9_part 19 = .ok (.bipush (-4), 2) := by decide +kernel
theorem dX9_part_21 : decode cX9_part 21 = .ok (.ireturn, 1) := by decide +kernel
theorem dX9_part_22 : decode cX9_part 22 = .ok (.aload_n 0, 1) := by decide +kernel
theorem dX9_part_23 : decode cX9_part 23 = .ok (.getfield 9, 3) := by decide +kernel
theorem dX9_part_26 : decode cX9_part 26 = .ok (.aload_n 0, 1) := by decide +kernel
theorem dX9_part_27 : decode cX9_part 27 = .ok (.getfield 90, 3) := by decide +kernel
theorem dX9_part_30 : decode cX9_part 30 = .ok (.iload_n 1, 1) := by decide +kernel
theorem dX9_part_31 : decode cX9_part 31 = .ok (.iastore, 1) := by decide +kernel
theorem dX9_part_32 : decode cX9_part 32 = .ok (.aload_n 0, 1) := by decide +kernel
theorem dX9_part_33 : decode cX9_part 33 = .ok (.getfield 15, 3) := by decide +kernel
theorem dX9_part_36 : decode cX9_part 36 = .ok (.aload_n 0, 1) := by decide +kernel
theorem dX9_part_37 : decode cX9_part 37 = .ok (.getfield 90, 3) := by decide +kernel
theorem dX9_part_40 : decode cX9_part 40 = .ok (.aload_n 0, 1) := by decide +kernel
theorem dX9_part_41 : decode cX9_part 41 = .ok (.getfield 90, 3) := by decide +kernel
theorem dX9_part_44 : decode cX9_part 44 = .ok (.iastore, 1) := by decide +kernel
theorem dX9_part_45 : decode cX9_part 45 = .ok (.aload_n 0, 1) := by decide +kernel
theorem dX9_part_46 : decode cX9_part 46 = .ok (.dup, 1) := by decide +kernel
theorem dX9_part_47 : decode cX9_part 47 = .ok (.getfield 90, 3) := by decide +kernel
theorem dX9_part_50 : decode cX9_part 50 = .ok (.iconst 1, 1) := by decide +kernel
theorem dX9_part_51 : decode cX9_part 51 = .ok (.iadd, 1) := by decide +kernel
theorem dX9_part_52 : decode cX9_part 52 = .ok (.putfield 90, 3) := by decide +kernel
theorem dX9_part_55 : decode cX9_part 55 = .ok (.aload_n 0, 1) := by decide +kernel
theorem dX9_part_56 : decode cX9_part 56 = .ok (.getfield 90, 3) := by decide +kernel
theorem dX9_part_59 : decode cX9_part 59 = .ok (.iconst 1, 1) := by decide +kernel
theorem dX9_part_60 : decode cX9_part 60 = .ok (.isub, 1) := by decide +kernel
theorem dX9_part_61 : decode cX9_part 61 = .ok (.ireturn, 1) := by decide +kernel
theorem dX9_isKind_0 : decode cX9_isKind 0 = .ok (.iload_n 0, 1) := by decide +kernel
theorem dX9_isKind_1 : decode cX9_isKind 1 = .ok (.iconst 0, 1) := by decide +kernel
theorem dX9_isKind_2 : decode cX9_isKind 2 = .ok (.iconst 2, 1) := by decide +kernel
theorem dX9_isKind_3 : decode cX9_isKind 3 = .ok (.invokestatic 93, 3) := by decide +kernel
theorem dX9_isKind_6 : decode cX9_isKind 6 = .ok (.ifCond .eq 16, 3) := by decide +kernel
theorem dX9_isKind_9 : decode cX9_isKind 9 = .ok (.iload_n 1, 1) := by decide +kernel
theorem dX9_isKind_10 : decode cX9_isKind 10 = .ok (.iconst 0, 1) := by decide +kernel
theorem dX9_isKind_11 : decode cX9_isKind 11 = .ok (.iconst 5, 1) := by decide +kernel
theorem dX9_isKind_12 : decode cX9_isKind 12 = .ok (.invokestatic 93, 3) := by decide +kernel
theorem dX9_isKind_15 : decode cX9_isKind 15 = .ok (.ifCond .eq 7, 3) := by decide +kernel
theorem dX9_isKind_18 : decode cX9_isKind 18 = .ok (.iconst 1, 1) := by decide +kernel
theorem dX9_isKind_19 : decode cX9_isKind 19 = .ok (.goto 4, 3) := by decide +kernel
theorem dX9_isKind_22 : decode cX9_isKind 22 = .ok (.iconst 0, 1) := by decide +kernel
theorem dX9_isKind_23 : decode cX9_isKind 23 = .ok (.ireturn, 1) := by decide +kernel
theorem dX9_gate_0 : decode cX9_gate 0 = .ok (.iload_n 1, 1) := by decide +kernel
theorem dX9_gate_1 : decode cX9_gate 1 = .ok (.iload_n 2, 1) := by decide +kernel
theorem dX9_gate_2 : decode cX9_gate 2 = .ok (.invokestatic 104, 3) := by decide +kernel
theorem dX9_gate_5 : decode cX9_gate 5 = .ok (.ifCond .ne 6, 3) := by decide +kernel
theorem dX9_gate_8 : decode cX9_gate 8 = .ok (.bipush (-2), 2) := by decide +kernel
theorem dX9_gate_10 : decode cX9_gate 10 = .ok (.ireturn, 1) := by decide +kernel
theorem dX9_gate_11 : decode cX9_gate 11 = .ok (.aload_n 0, 1) := by decide +kernel
theorem dX9_gate_12 : decode cX9_gate 12 = .ok (.getfield 97, 3) := by decide +kernel
theorem dX9_gate_15 : decode cX9_gate 15 = .ok (.bipush 8, 2) := by decide +kernel
theorem dX9_gate_17 : decode cX9_gate 17 = .ok (.if_icmp .ne 6, 3) := by decide +kernel
theorem dX9_gate_20 : decode cX9_gate 20 = .ok (.bipush (-4), 2) := by decide +kernel
theorem dX9_gate_22 : decode cX9_gate 22 = .ok (.ireturn, 1) := by decide +kernel
theorem dX9_gate_23 : decode cX9_gate 23 = .ok (.aload_n 0, 1) := by decide +kernel
theorem dX9_gate_24 : decode cX9_gate 24 = .ok (.getfield 18, 3) := by decide +kernel
theorem dX9_gate_27 : decode cX9_gate 27 = .ok (.aload_n 0, 1) := by decide +kernel
theorem dX9_gate_28 : decode cX9_gate 28 = .ok (.getfield 97, 3) := by decide +kernel
theorem dX9_gate_31 : decode cX9_gate 31 = .ok (.iload_n 1, 1) := by decide +kernel
theorem dX9_gate_32 : decode cX9_gate 32 = .ok (.iastore, 1) := by decide +kernel
theorem dX9_gate_33 : decode cX9_gate 33 = .ok (.aload_n 0, 1) := by decide +kernel
theorem dX9_gate_34 : decode cX9_gate 34 = .ok (.getfield 21, 3) := by decide +kernel
theorem dX9_gate_37 : decode cX9_gate 37 = .ok (.aload_n 0, 1) := by decide +kernel
theorem dX9_gate_38 : decode cX9_gate 38 = .ok (.getfield 97, 3) := by decide +kernel
theorem dX9_gate_41 : decode cX9_gate 41 = .ok (.iload_n 2, 1) := by decide +kernel
theorem dX9_gate_42 : decode cX9_gate 42 = .ok (.iastore, 1) := by decide +kernel
theorem dX9_gate_43 : decode cX9_gate 43 = .ok (.aload_n 0, 1) := by decide +kernel
theorem dX9_gate_44 : decode cX9_gate 44 = .ok (.getfield 24, 3) := by decide +kernel
theorem dX9_gate_47 : decode cX9_gate 47 = .ok (.aload_n 0, 1) := by decide +kernel
theorem dX9_gate_48 : decode cX9_gate 48 = .ok (.getfield 97, 3) := by decide +kernel
theorem dX9_gate_51 : decode cX9_gate 51 = .ok (.iconst 0, 1) := by decide +kernel
theorem dX9_gate_52 : decode cX9_gate 52 = .ok (.iastore, 1) := by decide +kernel
theorem dX9_gate_53 : decode cX9_gate 53 = .ok (.aload_n 0, 1) := by decide +kernel
theorem dX9_gate_54 : decode cX9_gate 54 = .ok (.dup, 1) := by decide +kernel
theorem dX9_gate_55 : decode cX9_gate 55 = .ok (.getfield 97, 3) := by decide +kernel
theorem dX9_gate_58 : decode cX9_gate 58 = .ok (.iconst 1, 1) := by decide +kernel
theorem dX9_gate_59 : decode cX9_gate 59 = .ok (.iadd, 1) := by decide +kernel
theorem dX9_gate_60 : decode cX9_gate 60 = .ok (.putfield 97, 3) := by decide +kernel
theorem dX9_gate_63 : decode cX9_gate 63 = .ok (.aload_n 0, 1) := by decide +kernel
theorem dX9_gate_64 : decode cX9_gate 64 = .ok (.getfield 97, 3) := by decide +kernel
theorem dX9_gate_67 : decode cX9_gate 67 = .ok (.iconst 1, 1) := by decide +kernel
theorem dX9_gate_68 : decode cX9_gate 68 = .ok (.isub, 1) := by decide +kernel
theorem dX9_gate_69 : decode cX9_gate 69 = .ok (.ireturn, 1) := by decide +kernel
theorem dX9_turn_0 : decode cX9_turn 0 = .ok (.aload_n 0, 1) := by decide +kernel
theorem dX9_turn_1 : decode cX9_turn 1 = .ok (.iload_n 1, 1) := by decide +kernel
theorem dX9_turn_2 : decode cX9_turn 2 = .ok (.invokevirtual 108, 3) := by decide +kernel
theorem dX9_turn_5 : decode cX9_turn 5 = .ok (.ifCond .ne 5, 3) := by decide +kernel
theorem dX9_turn_8 : decode cX9_turn 8 = .ok (.iconst (-1), 1) := by decide +kernel
theorem dX9_turn_9 : decode cX9_turn 9 = .ok (.ireturn, 1) := by decide +kernel
theorem dX9_turn_10 : decode cX9_turn 10 = .ok (.iload_n 2, 1) := by decide +kernel
theorem dX9_turn_11 : decode cX9_turn 11 = .ok (.iload_n 3, 1) := by decide +kernel
theorem dX9_turn_12 : decode cX9_turn 12 = .ok (.invokestatic 104, 3) := by decide +kernel
theorem dX9_turn_15 : decode cX9_turn 15 = .ok (.ifCond .ne 6, 3) := by decide +kernel
theorem dX9_turn_18 : decode cX9_turn 18 = .ok (.bipush (-2), 2) := by decide +kernel
theorem dX9_turn_20 : decode cX9_turn 20 = .ok (.ireturn, 1) := by decide +kernel
theorem dX9_turn_21 : decode cX9_turn 21 = .ok (.bipush 10, 2) := by decide +kernel
theorem dX9_turn_23 : decode cX9_turn 23 = .ok (.aload_n 0, 1) := by decide +kernel
theorem dX9_turn_24 : decode cX9_turn 24 = .ok (.getfield 18, 3) := by decide +kernel
theorem dX9_turn_27 : decode cX9_turn 27 = .ok (.iload_n 1, 1) := by decide +kernel
theorem dX9_turn_28 : decode cX9_turn 28 = .ok (.iaload, 1) := by decide +kernel
theorem dX9_turn_29 : decode cX9_turn 29 = .ok (.imul, 1) := by decide +kernel
theorem dX9_turn_30 : decode cX9_turn 30 = .ok (.aload_n 0, 1) := by decide +kernel
theorem dX9_turn_31 : decode cX9_turn 31 = .ok (.getfield 21, 3) := by decide +kernel
theorem dX9_turn_34 : decode cX9_turn 34 = .ok (.iload_n 1, 1) := by decide +kernel
theorem dX9_turn_35 : decode cX9_turn 35 = .ok (.iaload, 1) := by decide +kernel
theorem dX9_turn_36 : decode cX9_turn 36 = .ok (.iadd, 1) := by decide +kernel
theorem dX9_turn_37 : decode cX9_turn 37 = .ok (.istore 4, 2) := by decide +kernel
theorem dX9_turn_39 : decode cX9_turn 39 = .ok (.aload_n 0, 1) := by decide +kernel
theorem dX9_turn_40 : decode cX9_turn 40 = .ok (.getfield 18, 3) := by decide +kernel
theorem dX9_turn_43 : decode cX9_turn 43 = .ok (.iload_n 1, 1) := by decide +kernel
theorem dX9_turn_44 : decode cX9_turn 44 = .ok (.iload_n 2, 1) := by decide +kernel
theorem dX9_turn_45 : decode cX9_turn 45 = .ok (.iastore, 1) := by decide +kernel
theorem dX9_turn_46 : decode cX9_turn 46 = .ok (.aload_n 0, 1) := by decide +kernel
theorem dX9_turn_47 : decode cX9_turn 47 = .ok (.getfield 21, 3) := by decide +kernel
theorem dX9_turn_50 : decode cX9_turn 50 = .ok (.iload_n 1, 1) := by decide +kernel
theorem dX9_turn_51 : decode cX9_turn 51 = .ok (.iload_n 3, 1) := by decide +kernel
theorem dX9_turn_52 : decode cX9_turn 52 = .ok (.iastore, 1) := by decide +kernel
theorem dX9_turn_53 : decode cX9_turn 53 = .ok (.iload 4, 2) := by decide +kernel
theorem dX9_turn_55 : decode cX9_turn 55 = .ok (.ireturn, 1) := by decide +kernel
theorem dX9_join_0 : decode cX9_join 0 = .ok (.aload_n 0, 1) := by decide +kernel
theorem dX9_join_1 : decode cX9_join 1 = .ok (.iload_n 1, 1) := by decide +kernel
theorem dX9_join_2 : decode cX9_join 2 = .ok (.invokevirtual 108, 3) := by decide +kernel
theorem dX9_join_5 : decode cX9_join 5 = .ok (.ifCond .eq 26, 3) := by decide +kernel
theorem dX9_join_8 : decode cX9_join 8 = .ok (.iload_n 2, 1) := by decide +kernel
theorem dX9_join_9 : decode cX9_join 9 = .ok (.ifCond .eq 14, 3) := by decide +kernel
theorem dX9_join_12 : decode cX9_join 12 = .ok (.aload_n 0, 1) := by decide +kernel
theorem dX9_join_13 : decode cX9_join 13 = .ok (.iload_n 3, 1) := by decide +kernel
theorem dX9_join_14 : decode cX9_join 14 = .ok (.invokevirtual 111, 3) := by decide +kernel
theorem dX9_join_17 : decode cX9_join 17 = .ok (.ifCond .ne 16, 3) := by decide +kernel
theorem dX9_join_20 : decode cX9_join 20 = .ok (.goto 11, 3) := by decide +kernel
theorem dX9_join_23 : decode cX9_join 23 = .ok (.aload_n 0, 1) := by decide +kernel
theorem dX9_join_24 : decode cX9_join 24 = .ok (.iload_n 3, 1) := by decide +kernel
theorem dX9_join_25 : decode cX9_join 25 = .ok (.invokevirtual 108, 3) := by decide +kernel
theorem dX9_join_28 : decode cX9_join 28 = .ok (.ifCond .ne 5, 3) := by decide +kernel
theorem dX9_join_31 : decode cX9_join 31 = .ok (.iconst (-1), 1) := by decide +kernel
theorem dX9_join_32 : decode cX9_join 32 = .ok (.ireturn, 1) := by decide +kernel
theorem dX9_join_33 : decode cX9_join 33 = .ok (.iload_n 2, 1) := by decide +kernel
theorem dX9_join_34 : decode cX9_join 34 = .ok (.ifCond .ne 11, 3) := by decide +kernel
theorem dX9_join_37 : decode cX9_join 37 = .ok (.iload_n 3, 1) := by decide +kernel
theorem dX9_join_38 : decode cX9_join 38 = .ok (.iload_n 1, 1) := by decide +kernel
theorem dX9_join_39 : decode cX9_join 39 = .ok (.if_icmp .lt 6, 3) := by decide +kernel
theorem dX9_join_42 : decode cX9_join 42 = .ok (.bipush (-3), 2) := by decide +kernel
theorem dX9_join_44 : decode cX9_join 44 = .ok (.ireturn, 1) := by decide +kernel
theorem dX9_join_45 : decode cX9_join 45 = .ok (.aload_n 0, 1) := by decide +kernel
theorem dX9_join_46 : decode cX9_join 46 = .ok (.getfield 24, 3) := by decide +kernel
theorem dX9_join_49 : decode cX9_join 49 = .ok (.iload_n 1, 1) := by decide +kernel
theorem dX9_join_50 : decode cX9_join 50 = .ok (.iaload, 1) := by decide +kernel
theorem dX9_join_51 : decode cX9_join 51 = .ok (.iconst 4, 1) := by decide +kernel
theorem dX9_join_52 : decode cX9_join 52 = .ok (.if_icmp .ne 6, 3) := by decide +kernel
theorem dX9_join_55 : decode cX9_join 55 = .ok (.bipush (-4), 2) := by decide +kernel
theorem dX9_join_57 : decode cX9_join 57 = .ok (.ireturn, 1) := by decide +kernel
theorem dX9_join_58 : decode cX9_join 58 = .ok (.aload_n 0, 1) := by decide +kernel
theorem dX9_join_59 : decode cX9_join 59 = .ok (.getfield 27, 3) := by decide +kernel
theorem dX9_join_62 : decode cX9_join 62 = .ok (.iconst 4, 1) := by decide +kernel
theorem dX9_join_63 : decode cX9_join 63 = .ok (.iload_n 1, 1) := by decide +kernel
theorem dX9_join_64 : decode cX9_join 64 = .ok (.imul, 1) := by decide +kernel
theorem dX9_join_65 : decode cX9_join 65 = .ok (.aload_n 0, 1) := by decide +kernel
theorem dX9_join_66 : decode cX9_join 66 = .ok (.getfield 24, 3) := by decide +kernel
theorem dX9_join_69 : decode cX9_join 69 = .ok (.iload_n 1, 1) := by decide +kernel
theorem dX9_join_70 : decode cX9_join 70 = .ok (.iaload, 1) := by decide +kernel
theorem dX9_join_71 : decode cX9_join 71 = .ok (.iadd, 1) := by decide +kernel
theorem dX9_join_72 : decode cX9_join 72 = .ok (.iload_n 2, 1) := by decide +kernel
theorem dX9_join_73 : decode cX9_join 73 = .ok (.ifCond .eq 7, 3) := by decide +kernel
theorem dX9_join_76 : decode cX9_join 76 = .ok (.iload_n 3, 1) := by decide +kernel
theorem dX9_join_77 : decode cX9_join 77 = .ok (.goto 7, 3) := by decide +kernel
theorem dX9_join_80 : decode cX9_join 80 = .ok (.bipush 10, 2) := by decide +kernel
theorem dX9_join_82 : decode cX9_join 82 = .ok (.iload_n 3, 1) := by decide +kernel
theorem dX9_join_83 : decode cX9_join 83 = .ok (.iadd, 1) := by decide +kernel
theorem dX9_join_84 : decode cX9_join 84 = .ok (.iastore, 1) := by decide +kernel
theorem dX9_join_85 : decode cX9_join 85 = .ok (.aload_n 0, 1) := by decide +kernel
theorem dX9_join_86 : decode cX9_join 86 = .ok (.getfield 24, 3) := by decide +kernel
theorem dX9_join_89 : decode cX9_join 89 = .ok (.iload_n 1, 1) := by decide +kernel
theorem dX9_join_90 : decode cX9_join 90 = .ok (.dup2, 1) := by decide +kernel
theorem dX9_join_91 : decode cX9_join 91 = .ok (.iaload, 1) := by decide +kernel
theorem dX9_join_92 : decode cX9_join 92 = .ok (.iconst 1, 1) := by decide +kernel
theorem dX9_join_93 : decode cX9_join 93 = .ok (.iadd, 1) := by decide +kernel
theorem dX9_join_94 : decode cX9_join 94 = .ok (.iastore, 1) := by decide +kernel
theorem dX9_join_95 : decode cX9_join 95 = .ok (.aload_n 0, 1) := by decide +kernel
theorem dX9_join_96 : decode cX9_join 96 = .ok (.getfield 24, 3) := by decide +kernel
theorem dX9_join_99 : decode cX9_join 99 = .ok (.iload_n 1, 1) := by decide +kernel
theorem dX9_join_100 : decode cX9_join 100 = .ok (.iaload, 1) := by decide +kernel
theorem dX9_join_101 : decode cX9_join 101 = .ok (.ireturn, 1) := by decide +kernel
theorem dX9_drop_0 : decode cX9_drop 0 = .ok (.aload_n 0, 1) := by decide +kernel
theorem dX9_drop_1 : decode cX9_drop 1 = .ok (.iload_n 1, 1) := by decide +kernel
theorem dX9_drop_2 : decode cX9_drop 2 = .ok (.invokevirtual 108, 3) := by decide +kernel
theorem dX9_drop_5 : decode cX9_drop 5 = .ok (.ifCond .ne 5, 3) := by decide +kernel
theorem dX9_drop_8 : decode cX9_drop 8 = .ok (.iconst (-1), 1) := by decide +kernel
theorem dX9_drop_9 : decode cX9_drop 9 = .ok (.ireturn, 1) := by decide +kernel
theorem dX9_drop_10 : decode cX9_drop 10 = .ok (.aload_n 0, 1) := by decide +kernel
theorem dX9_drop_11 : decode cX9_drop 11 = .ok (.getfield 24, 3) := by decide +kernel
theorem dX9_drop_14 : decode cX9_drop 14 = .ok (.iload_n 1, 1) := by decide +kernel
theorem dX9_drop_15 : decode cX9_drop 15 = .ok (.iaload, 1) := by decide +kernel
theorem dX9_drop_16 : decode cX9_drop 16 = .ok (.ifCond .ne 6, 3) := by decide +kernel
theorem dX9_drop_19 : decode cX9_drop 19 = .ok (.bipush (-3), 2) := by decide +kernel
theorem dX9_drop_21 : decode cX9_drop 21 = .ok (.ireturn, 1) := by decide +kernel
theorem dX9_drop_22 : decode cX9_drop 22 = .ok (.aload_n 0, 1) := by decide +kernel
theorem dX9_drop_23 : decode cX9_drop 23 = .ok (.getfield 24, 3) := by decide +kernel
theorem dX9_drop_26 : decode cX9_drop 26 = .ok (.iload_n 1, 1) := by decide +kernel
theorem dX9_drop_27 : decode cX9_drop 27 = .ok (.dup2, 1) := by decide +kernel
theorem dX9_drop_28 : decode cX9_drop 28 = .ok (.iaload, 1) := by decide +kernel
theorem dX9_drop_29 : decode cX9_drop 29 = .ok (.iconst 1, 1) := by decide +kernel
theorem dX9_drop_30 : decode cX9_drop 30 = .ok (.isub, 1) := by decide +kernel
theorem dX9_drop_31 : decode cX9_drop 31 = .ok (.iastore, 1) := by decide +kernel
theorem dX9_drop_32 : decode cX9_drop 32 = .ok (.aload_n 0, 1) := by decide +kernel
theorem dX9_drop_33 : decode cX9_drop 33 = .ok (.getfield 24, 3) := by decide +kernel
theorem dX9_drop_36 : decode cX9_drop 36 = .ok (.iload_n 1, 1) := by decide +kernel
theorem dX9_drop_37 : decode cX9_drop 37 = .ok (.iaload, 1) := by decide +kernel
theorem dX9_drop_38 : decode cX9_drop 38 = .ok (.ireturn, 1) := by decide +kernel
theorem dX9_topmost_0 : decode cX9_topmost 0 = .ok (.aload_n 0, 1) := by decide +kernel
theorem dX9_topmost_1 : decode cX9_topmost 1 = .ok (.getfield 97, 3) := by decide +kernel
theorem dX9_topmost_4 : decode cX9_topmost 4 = .ok (.ifCond .ne 8, 3) := by decide +kernel
theorem dX9_topmost_7 : decode cX9_topmost 7 = .ok (.bipush (-5), 2) := by decide +kernel
theorem dX9_topmost_9 : decode cX9_topmost 9 = .ok (.goto 24, 3) := by decide +kernel
theorem dX9_topmost_12 : decode cX9_topmost 12 = .ok (.aload_n 0, 1) := by decide +kernel
theorem dX9_topmost_13 : decode cX9_topmost 13 = .ok (.getfield 30, 3) := by decide +kernel
theorem dX9_topmost_16 : decode cX9_topmost 16 = .ok (.iconst (-1), 1) := by decide +kernel
theorem dX9_topmost_17 : decode cX9_topmost 17 = .ok (.if_icmp .ne 12, 3) := by decide +kernel
theorem dX9_topmost_20 : decode cX9_topmost 20 = .ok (.aload_n 0, 1) := by decide +kernel
theorem dX9_topmost_21 : decode cX9_topmost 21 = .ok (.getfield 97, 3) := by decide +kernel
theorem dX9_topmost_24 : decode cX9_topmost 24 = .ok (.iconst 1, 1) := by decide +kernel
theorem dX9_topmost_25 : decode cX9_topmost 25 = .ok (.isub, 1) := by decide +kernel
theorem dX9_topmost_26 : decode cX9_topmost 26 = .ok (.goto 7, 3) := by decide +kernel
theorem dX9_topmost_29 : decode cX9_topmost 29 = .ok (.aload_n 0, 1) := by decide +kernel
theorem dX9_topmost_30 : decode cX9_topmost 30 = .ok (.getfield 30, 3) := by decide +kernel
theorem dX9_topmost_33 : decode cX9_topmost 33 = .ok (.ireturn, 1) := by decide +kernel
theorem dX9_top_0 : decode cX9_top 0 = .ok (.iload_n 1, 1) := by decide +kernel
theorem dX9_top_1 : decode cX9_top 1 = .ok (.iconst (-1), 1) := by decide +kernel
theorem dX9_top_2 : decode cX9_top 2 = .ok (.if_icmp .eq 13, 3) := by decide +kernel
theorem dX9_top_5 : decode cX9_top 5 = .ok (.aload_n 0, 1) := by decide +kernel
theorem dX9_top_6 : decode cX9_top 6 = .ok (.iload_n 1, 1) := by decide +kernel
theorem dX9_top_7 : decode cX9_top 7 = .ok (.invokevirtual 108, 3) := by decide +kernel
theorem dX9_top_10 : decode cX9_top 10 = .ok (.ifCond .ne 5, 3) := by decide +kernel
theorem dX9_top_13 : decode cX9_top 13 = .ok (.iconst (-1), 1) := by decide +kernel
theorem dX9_top_14 : decode cX9_top 14 = .ok (.ireturn, 1) := by decide +kernel
theorem dX9_top_15 : decode cX9_top 15 = .ok (.aload_n 0, 1) := by decide +kernel
theorem dX9_top_16 : decode cX9_top 16 = .ok (.invokevirtual 114, 3) := by decide +kernel
theorem dX9_top_19 : decode cX9_top 19 = .ok (.istore_n 2, 1) := by decide +kernel
theorem dX9_top_20 : decode cX9_top 20 = .ok (.aload_n 0, 1) := by decide +kernel
theorem dX9_top_21 : decode cX9_top 21 = .ok (.iload_n 1, 1) := by decide +kernel
theorem dX9_top_22 : decode cX9_top 22 = .ok (.putfield 30, 3) := by decide +kernel
theorem dX9_top_25 : decode cX9_top 25 = .ok (.iload_n 2, 1) := by decide +kernel
theorem dX9_top_26 : decode cX9_top 26 = .ok (.ireturn, 1) := by decide +kernel
theorem dX9_cause_0 : decode cX9_cause 0 = .ok (.iload_n 1, 1) := by decide +kernel
theorem dX9_cause_1 : decode cX9_cause 1 = .ok (.invokestatic 100, 3) := by decide +kernel
theorem dX9_cause_4 : decode cX9_cause 4 = .ok (.ifCond .eq 11, 3) := by decide +kernel
theorem dX9_cause_7 : decode cX9_cause 7 = .ok (.aload_n 0, 1) := by decide +kernel
theorem dX9_cause_8 : decode cX9_cause 8 = .ok (.iload_n 2, 1) := by decide +kernel
theorem dX9_cause_9 : decode cX9_cause 9 = .ok (.invokevirtual 118, 3) := by decide +kernel
theorem dX9_cause_12 : decode cX9_cause 12 = .ok (.ifCond .ne 6, 3) := by decide +kernel
theorem dX9_cause_15 : decode cX9_cause 15 = .ok (.bipush (-2), 2) := by decide +kernel
theorem dX9_cause_17 : decode cX9_cause 17 = .ok (.ireturn, 1) := by decide +kernel
theorem dX9_cause_18 : decode cX9_cause 18 = .ok (.aload_n 0, 1) := by decide +kernel
theorem dX9_cause_19 : decode cX9_cause 19 = .ok (.getfield 121, 3) := by decide +kernel
theorem dX9_cause_22 : decode cX9_cause 22 = .ok (.iconst 3, 1) := by decide +kernel
theorem dX9_cause_23 : decode cX9_cause 23 = .ok (.if_icmp .ne 6, 3) := by decide +kernel
theorem dX9_cause_26 : decode cX9_cause 26 = .ok (.bipush (-4), 2) := by decide +kernel
theorem dX9_cause_28 : decode cX9_cause 28 = .ok (.ireturn, 1) := by decide +kernel
theorem dX9_cause_29 : decode cX9_cause 29 = .ok (.aload_n 0, 1) := by decide +kernel
theorem dX9_cause_30 : decode cX9_cause 30 = .ok (.getfield 34, 3) := by decide +kernel
theorem dX9_cause_33 : decode cX9_cause 33 = .ok (.aload_n 0, 1) := by decide +kernel
theorem dX9_cause_34 : decode cX9_cause 34 = .ok (.getfield 121, 3) := by decide +kernel
theorem dX9_cause_37 : decode cX9_cause 37 = .ok (.iload_n 1, 1) := by decide +kernel
theorem dX9_cause_38 : decode cX9_cause 38 = .ok (.iastore, 1) := by decide +kernel
theorem dX9_cause_39 : decode cX9_cause 39 = .ok (.aload_n 0, 1) := by decide +kernel
theorem dX9_cause_40 : decode cX9_cause 40 = .ok (.getfield 37, 3) := by decide +kernel
theorem dX9_cause_43 : decode cX9_cause 43 = .ok (.aload_n 0, 1) := by decide +kernel
theorem dX9_cause_44 : decode cX9_cause 44 = .ok (.getfield 121, 3) := by decide +kernel
theorem dX9_cause_47 : decode cX9_cause 47 = .ok (.iload_n 2, 1) := by decide +kernel
theorem dX9_cause_48 : decode cX9_cause 48 = .ok (.iastore, 1) := by decide +kernel
theorem dX9_cause_49 : decode cX9_cause 49 = .ok (.aload_n 0, 1) := by decide +kernel
theorem dX9_cause_50 : decode cX9_cause 50 = .ok (.dup, 1) := by decide +kernel
theorem dX9_cause_51 : decode cX9_cause 51 = .ok (.getfield 121, 3) := by decide +kernel
theorem dX9_cause_54 : decode cX9_cause 54 = .ok (.iconst 1, 1) := by decide +kernel
theorem dX9_cause_55 : decode cX9_cause 55 = .ok (.iadd, 1) := by decide +kernel
theorem dX9_cause_56 : decode cX9_cause 56 = .ok (.putfield 121, 3) := by decide +kernel
theorem dX9_cause_59 : decode cX9_cause 59 = .ok (.aload_n 0, 1) := by decide +kernel
theorem dX9_cause_60 : decode cX9_cause 60 = .ok (.getfield 121, 3) := by decide +kernel
theorem dX9_cause_63 : decode cX9_cause 63 = .ok (.iconst 1, 1) := by decide +kernel
theorem dX9_cause_64 : decode cX9_cause 64 = .ok (.isub, 1) := by decide +kernel
theorem dX9_cause_65 : decode cX9_cause 65 = .ok (.ireturn, 1) := by decide +kernel
theorem dX9_odds_0 : decode cX9_odds 0 = .ok (.iload_n 1, 1) := by decide +kernel
theorem dX9_odds_1 : decode cX9_odds 1 = .ok (.iconst 0, 1) := by decide +kernel
theorem dX9_odds_2 : decode cX9_odds 2 = .ok (.iconst 1, 1) := by decide +kernel
theorem dX9_odds_3 : decode cX9_odds 3 = .ok (.invokestatic 93, 3) := by decide +kernel
theorem dX9_odds_6 : decode cX9_odds 6 = .ok (.ifCond .eq 28, 3) := by decide +kernel
theorem dX9_odds_9 : decode cX9_odds 9 = .ok (.iload_n 2, 1) := by decide +kernel
theorem dX9_odds_10 : decode cX9_odds 10 = .ok (.iconst 0, 1) := by decide +kernel
theorem dX9_odds_11 : decode cX9_odds 11 = .ok (.iload_n 1, 1) := by decide +kernel
theorem dX9_odds_12 : decode cX9_odds 12 = .ok (.ifCond .ne 10, 3) := by decide +kernel
theorem dX9_odds_15 : decode cX9_odds 15 = .ok (.aload_n 0, 1) := by decide +kernel
theorem dX9_odds_16 : decode cX9_odds 16 = .ok (.getfield 90, 3) := by decide +kernel
theorem dX9_odds_19 : decode cX9_odds 19 = .ok (.goto 7, 3) := by decide +kernel
theorem dX9_odds_22 : decode cX9_odds 22 = .ok (.aload_n 0, 1) := by decide +kernel
theorem dX9_odds_23 : decode cX9_odds 23 = .ok (.getfield 121, 3) := by decide +kernel
theorem dX9_odds_26 : decode cX9_odds 26 = .ok (.iconst 1, 1) := by decide +kernel
theorem dX9_odds_27 : decode cX9_odds 27 = .ok (.isub, 1) := by decide +kernel
theorem dX9_odds_28 : decode cX9_odds 28 = .ok (.invokestatic 93, 3) := by decide +kernel
theorem dX9_odds_31 : decode cX9_odds 31 = .ok (.ifCond .ne 5, 3) := by decide +kernel
theorem dX9_odds_34 : decode cX9_odds 34 = .ok (.iconst (-1), 1) := by decide +kernel
theorem dX9_odds_35 : decode cX9_odds 35 = .ok (.ireturn, 1) := by decide +kernel
theorem dX9_odds_36 : decode cX9_odds 36 = .ok (.iload_n 3, 1) := by decide +kernel
theorem dX9_odds_37 : decode cX9_odds 37 = .ok (.invokestatic 100, 3) := by decide +kernel
theorem dX9_odds_40 : decode cX9_odds 40 = .ok (.ifCond .ne 6, 3) := by decide +kernel
theorem dX9_odds_43 : decode cX9_odds 43 = .ok (.bipush (-2), 2) := by decide +kernel
theorem dX9_odds_45 : decode cX9_odds 45 = .ok (.ireturn, 1) := by decide +kernel
theorem dX9_odds_46 : decode cX9_odds 46 = .ok (.iload_n 1, 1) := by decide +kernel
theorem dX9_odds_47 : decode cX9_odds 47 = .ok (.ifCond .ne 12, 3) := by decide +kernel
theorem dX9_odds_50 : decode cX9_odds 50 = .ok (.aload_n 0, 1) := by decide +kernel
theorem dX9_odds_51 : decode cX9_odds 51 = .ok (.getfield 9, 3) := by decide +kernel
theorem dX9_odds_54 : decode cX9_odds 54 = .ok (.iload_n 2, 1) := by decide +kernel
theorem dX9_odds_55 : decode cX9_odds 55 = .ok (.iaload, 1) := by decide +kernel
theorem dX9_odds_56 : decode cX9_odds 56 = .ok (.goto 9, 3) := by decide +kernel
theorem dX9_odds_59 : decode cX9_odds 59 = .ok (.aload_n 0, 1) := by decide +kernel
theorem dX9_odds_60 : decode cX9_odds 60 = .ok (.getfield 34, 3) := by decide +kernel
theorem dX9_odds_63 : decode cX9_odds 63 = .ok (.iload_n 2, 1) := by decide +kernel
theorem dX9_odds_64 : decode cX9_odds 64 = .ok (.iaload, 1) := by decide +kernel
theorem dX9_odds_65 : decode cX9_odds 65 = .ok (.istore 4, 2) := by decide +kernel
theorem dX9_odds_67 : decode cX9_odds 67 = .ok (.iload_n 1, 1) := by decide +kernel
theorem dX9_odds_68 : decode cX9_odds 68 = .ok (.ifCond .ne 13, 3) := by decide +kernel
theorem dX9_odds_71 : decode cX9_odds 71 = .ok (.aload_n 0, 1) := by decide +kernel
theorem dX9_odds_72 : decode cX9_odds 72 = .ok (.getfield 9, 3) := by decide +kernel
theorem dX9_odds_75 : decode cX9_odds 75 = .ok (.iload_n 2, 1) := by decide +kernel
theorem dX9_odds_76 : decode cX9_odds 76 = .ok (.iload_n 3, 1) := by decide +kernel
theorem dX9_odds_77 : decode cX9_odds 77 = .ok (.iastore, 1) := by decide +kernel
theorem dX9_odds_78 : decode cX9_odds 78 = .ok (.goto 10, 3) := by decide +kernel
theorem dX9_odds_81 : decode cX9_odds 81 = .ok (.aload_n 0, 1) := by decide +kernel
theorem dX9_odds_82 : decode cX9_odds 82 = .ok (.getfield 34, 3) := by decide +kernel
theorem dX9_odds_85 : decode cX9_odds 85 = .ok (.iload_n 2, 1) := by decide +kernel
theorem dX9_odds_86 : decode cX9_odds 86 = .ok (.iload_n 3, 1) := by decide +kernel
theorem dX9_odds_87 : decode cX9_odds 87 = .ok (.iastore, 1) := by decide +kernel
theorem dX9_odds_88 : decode cX9_odds 88 = .ok (.iload 4, 2) := by decide +kernel
theorem dX9_odds_90 : decode cX9_odds 90 = .ok (.ireturn, 1) := by decide +kernel
theorem dX9_placeOf_0 : decode cX9_placeOf 0 = .ok (.iconst 0, 1) := by decide +kernel
theorem dX9_placeOf_1 : decode cX9_placeOf 1 = .ok (.istore_n 2, 1) := by decide +kernel
theorem dX9_placeOf_2 : decode cX9_placeOf 2 = .ok (.aload_n 0, 1) := by decide +kernel
theorem dX9_placeOf_3 : decode cX9_placeOf 3 = .ok (.getfield 15, 3) := by decide +kernel
theorem dX9_placeOf_6 : decode cX9_placeOf 6 = .ok (.iload_n 2, 1) := by decide +kernel
theorem dX9_placeOf_7 : decode cX9_placeOf 7 = .ok (.iaload, 1) := by decide +kernel
theorem dX9_placeOf_8 : decode cX9_placeOf 8 = .ok (.iload_n 1, 1) := by decide +kernel
theorem dX9_placeOf_9 : decode cX9_placeOf 9 = .ok (.if_icmp .eq 9, 3) := by decide +kernel
theorem dX9_placeOf_12 : decode cX9_placeOf 12 = .ok (.iinc 2 1, 3) := by decide +kernel
theorem dX9_placeOf_15 : decode cX9_placeOf 15 = .ok (.goto (-13), 3) := by decide +kernel
theorem dX9_placeOf_18 : decode cX9_placeOf 18 = .ok (.iload_n 2, 1) := by decide +kernel
theorem dX9_placeOf_19 : decode cX9_placeOf 19 = .ok (.ireturn, 1) := by decide +kernel
theorem dX9_ofGate_0 : decode cX9_ofGate 0 = .ok (.iload_n 2, 1) := by decide +kernel
theorem dX9_ofGate_1 : decode cX9_ofGate 1 = .ok (.tableswitch 48 0 2 #[27, 34, 41], 27) := by decide +kernel
theorem dX9_ofGate_28 : decode cX9_ofGate 28 = .ok (.aload_n 0, 1) := by decide +kernel
theorem dX9_ofGate_29 : decode cX9_ofGate 29 = .ok (.getfield 18, 3) := by decide +kernel
theorem dX9_ofGate_32 : decode cX9_ofGate 32 = .ok (.iload_n 1, 1) := by decide +kernel
theorem dX9_ofGate_33 : decode cX9_ofGate 33 = .ok (.iaload, 1) := by decide +kernel
theorem dX9_ofGate_34 : decode cX9_ofGate 34 = .ok (.ireturn, 1) := by decide +kernel
theorem dX9_ofGate_35 : decode cX9_ofGate 35 = .ok (.aload_n 0, 1) := by decide +kernel
theorem dX9_ofGate_36 : decode cX9_ofGate 36 = .ok (.getfield 21, 3) := by decide +kernel
theorem dX9_ofGate_39 : decode cX9_ofGate 39 = .ok (.iload_n 1, 1) := by decide +kernel
theorem dX9_ofGate_40 : decode cX9_ofGate 40 = .ok (.iaload, 1) := by decide +kernel
theorem dX9_ofGate_41 : decode cX9_ofGate 41 = .ok (.ireturn, 1) := by decide +kernel
theorem dX9_ofGate_42 : decode cX9_ofGate 42 = .ok (.aload_n 0, 1) := by decide +kernel
theorem dX9_ofGate_43 : decode cX9_ofGate 43 = .ok (.getfield 24, 3) := by decide +kernel
theorem dX9_ofGate_46 : decode cX9_ofGate 46 = .ok (.iload_n 1, 1) := by decide +kernel
theorem dX9_ofGate_47 : decode cX9_ofGate 47 = .ok (.iaload, 1) := by decide +kernel
theorem dX9_ofGate_48 : decode cX9_ofGate 48 = .ok (.ireturn, 1) := by decide +kernel
theorem dX9_ofGate_49 : decode cX9_ofGate 49 = .ok (.iload_n 2, 1) := by decide +kernel
theorem dX9_ofGate_50 : decode cX9_ofGate 50 = .ok (.iconst 3, 1) := by decide +kernel
theorem dX9_ofGate_51 : decode cX9_ofGate 51 = .ok (.isub, 1) := by decide +kernel
theorem dX9_ofGate_52 : decode cX9_ofGate 52 = .ok (.iconst 0, 1) := by decide +kernel
theorem dX9_ofGate_53 : decode cX9_ofGate 53 = .ok (.aload_n 0, 1) := by decide +kernel
theorem dX9_ofGate_54 : decode cX9_ofGate 54 = .ok (.getfield 24, 3) := by decide +kernel
theorem dX9_ofGate_57 : decode cX9_ofGate 57 = .ok (.iload_n 1, 1) := by decide +kernel
theorem dX9_ofGate_58 : decode cX9_ofGate 58 = .ok (.iaload, 1) := by decide +kernel
theorem dX9_ofGate_59 : decode cX9_ofGate 59 = .ok (.iconst 1, 1) := by decide +kernel
theorem dX9_ofGate_60 : decode cX9_ofGate 60 = .ok (.isub, 1) := by decide +kernel
theorem dX9_ofGate_61 : decode cX9_ofGate 61 = .ok (.invokestatic 93, 3) := by decide +kernel
theorem dX9_ofGate_64 : decode cX9_ofGate 64 = .ok (.ifCond .eq 18, 3) := by decide +kernel
theorem dX9_ofGate_67 : decode cX9_ofGate 67 = .ok (.aload_n 0, 1) := by decide +kernel
theorem dX9_ofGate_68 : decode cX9_ofGate 68 = .ok (.getfield 27, 3) := by decide +kernel
theorem dX9_ofGate_71 : decode cX9_ofGate 71 = .ok (.iconst 4, 1) := by decide +kernel
theorem dX9_ofGate_72 : decode cX9_ofGate 72 = .ok (.iload_n 1, 1) := by decide +kernel
theorem dX9_ofGate_73 : decode cX9_ofGate 73 = .ok (.imul, 1) := by decide +kernel
theorem dX9_ofGate_74 : decode cX9_ofGate 74 = .ok (.iload_n 2, 1) := by decide +kernel
theorem dX9_ofGate_75 : decode cX9_ofGate 75 = .ok (.iadd, 1) := by decide +kernel
theorem dX9_ofGate_76 : decode cX9_ofGate 76 = .ok (.iconst 3, 1) := by decide +kernel
theorem dX9_ofGate_77 : decode cX9_ofGate 77 = .ok (.isub, 1) := by decide +kernel
theorem dX9_ofGate_78 : decode cX9_ofGate 78 = .ok (.iaload, 1) := by decide +kernel
theorem dX9_ofGate_79 : decode cX9_ofGate 79 = .ok (.goto 4, 3) := by decide +kernel
theorem dX9_ofGate_82 : decode cX9_ofGate 82 = .ok (.iconst (-1), 1) := by decide +kernel
theorem dX9_ofGate_83 : decode cX9_ofGate 83 = .ok (.ireturn, 1) := by decide +kernel
theorem dX9_of_0 : decode cX9_of 0 = .ok (.iload_n 1, 1) := by decide +kernel
theorem dX9_of_1 : decode cX9_of 1 = .ok (.tableswitch 133 0 2 #[27, 67, 86], 27) := by decide +kernel
theorem dX9_of_28 : decode cX9_of 28 = .ok (.aload_n 0, 1) := by decide +kernel
theorem dX9_of_29 : decode cX9_of 29 = .ok (.iload_n 2, 1) := by decide +kernel
theorem dX9_of_30 : decode cX9_of 30 = .ok (.invokevirtual 111, 3) := by decide +kernel
theorem dX9_of_33 : decode cX9_of 33 = .ok (.ifCond .eq 12, 3) := by decide +kernel
theorem dX9_of_36 : decode cX9_of 36 = .ok (.iload_n 3, 1) := by decide +kernel
theorem dX9_of_37 : decode cX9_of 37 = .ok (.iconst 0, 1) := by decide +kernel
theorem dX9_of_38 : decode cX9_of 38 = .ok (.iconst 1, 1) := by decide +kernel
theorem dX9_of_39 : decode cX9_of 39 = .ok (.invokestatic 93, 3) := by decide +kernel
theorem dX9_of_42 : decode cX9_of 42 = .ok (.ifCond .ne 7, 3) := by decide +kernel
theorem dX9_of_45 : decode cX9_of 45 = .ok (.iconst (-1), 1) := by decide +kernel
theorem dX9_of_46 : decode cX9_of 46 = .ok (.goto 21, 3) := by decide +kernel
theorem dX9_of_49 : decode cX9_of 49 = .ok (.iload_n 3, 1) := by decide +kernel
theorem dX9_of_50 : decode cX9_of 50 = .ok (.ifCond .ne 12, 3) := by decide +kernel
theorem dX9_of_53 : decode cX9_of 53 = .ok (.aload_n 0, 1) := by decide +kernel
theorem dX9_of_54 : decode cX9_of 54 = .ok (.getfield 9, 3) := by decide +kernel
theorem dX9_of_57 : decode cX9_of 57 = .ok (.iload_n 2, 1) := by decide +kernel
theorem dX9_of_58 : decode cX9_of 58 = .ok (.iaload, 1) := by decide +kernel
theorem dX9_of_59 : decode cX9_of 59 = .ok (.goto 8, 3) := by decide +kernel
theorem dX9_of_62 : decode cX9_of 62 = .ok (.aload_n 0, 1) := by decide +kernel
theorem dX9_of_63 : decode cX9_of 63 = .ok (.iload_n 2, 1) := by decide +kernel
theorem dX9_of_64 : decode cX9_of 64 = .ok (.invokevirtual 124, 3) := by decide +kernel
theorem dX9_of_67 : decode cX9_of 67 = .ok (.ireturn, 1) := by decide +kernel
theorem dX9_of_68 : decode cX9_of 68 = .ok (.aload_n 0, 1) := by decide +kernel
theorem dX9_of_69 : decode cX9_of 69 = .ok (.iload_n 2, 1) := by decide +kernel
theorem dX9_of_70 : decode cX9_of 70 = .ok (.invokevirtual 108, 3) := by decide +kernel
theorem dX9_of_73 : decode cX9_of 73 = .ok (.ifCond .eq 12, 3) := by decide +kernel
theorem dX9_of_76 : decode cX9_of 76 = .ok (.aload_n 0, 1) := by decide +kernel
theorem dX9_of_77 : decode cX9_of 77 = .ok (.iload_n 2, 1) := by decide +kernel
theorem dX9_of_78 : decode cX9_of 78 = .ok (.iload_n 3, 1) := by decide +kernel
theorem dX9_of_79 : decode cX9_of 79 = .ok (.invokevirtual 128, 3) := by decide +kernel
theorem dX9_of_82 : decode cX9_of 82 = .ok (.goto 4, 3) := by decide +kernel
theorem dX9_of_85 : decode cX9_of 85 = .ok (.iconst (-1), 1) := by decide +kernel
theorem dX9_of_86 : decode cX9_of 86 = .ok (.ireturn, 1) := by decide +kernel
theorem dX9_of_87 : decode cX9_of 87 = .ok (.iload_n 2, 1) := by decide +kernel
theorem dX9_of_88 : decode cX9_of 88 = .ok (.iconst 0, 1) := by decide +kernel
theorem dX9_of_89 : decode cX9_of 89 = .ok (.aload_n 0, 1) := by decide +kernel
theorem dX9_of_90 : decode cX9_of 90 = .ok (.getfield 121, 3) := by decide +kernel
theorem dX9_of_93 : decode cX9_of 93 = .ok (.iconst 1, 1) := by decide +kernel
theorem dX9_of_94 : decode cX9_of 94 = .ok (.isub, 1) := by decide +kernel
theorem dX9_of_95 : decode cX9_of 95 = .ok (.invokestatic 93, 3) := by decide +kernel
theorem dX9_of_98 : decode cX9_of 98 = .ok (.ifCond .eq 12, 3) := by decide +kernel
theorem dX9_of_101 : decode cX9_of 101 = .ok (.iload_n 3, 1) := by decide +kernel
theorem dX9_of_102 : decode cX9_of 102 = .ok (.iconst 0, 1) := by decide +kernel
theorem dX9_of_103 : decode cX9_of 103 = .ok (.iconst 1, 1) := by decide +kernel
theorem dX9_of_104 : decode cX9_of 104 = .ok (.invokestatic 93, 3) := by decide +kernel
theorem dX9_of_107 : decode cX9_of 107 = .ok (.ifCond .ne 7, 3) := by decide +kernel
theorem dX9_of_110 : decode cX9_of 110 = .ok (.iconst (-1), 1) := by decide +kernel
theorem dX9_of_111 : decode cX9_of 111 = .ok (.goto 22, 3) := by decide +kernel
theorem dX9_of_114 : decode cX9_of 114 = .ok (.iload_n 3, 1) := by decide +kernel
theorem dX9_of_115 : decode cX9_of 115 = .ok (.ifCond .ne 12, 3) := by decide +kernel
theorem dX9_of_118 : decode cX9_of 118 = .ok (.aload_n 0, 1) := by decide +kernel
theorem dX9_of_119 : decode cX9_of 119 = .ok (.getfield 34, 3) := by decide +kernel
theorem dX9_of_122 : decode cX9_of 122 = .ok (.iload_n 2, 1) := by decide +kernel
theorem dX9_of_123 : decode cX9_of 123 = .ok (.iaload, 1) := by decide +kernel
theorem dX9_of_124 : decode cX9_of 124 = .ok (.goto 9, 3) := by decide +kernel
theorem dX9_of_127 : decode cX9_of 127 = .ok (.aload_n 0, 1) := by decide +kernel
theorem dX9_of_128 : decode cX9_of 128 = .ok (.getfield 37, 3) := by decide +kernel
theorem dX9_of_131 : decode cX9_of 131 = .ok (.iload_n 2, 1) := by decide +kernel
theorem dX9_of_132 : decode cX9_of 132 = .ok (.iaload, 1) := by decide +kernel
theorem dX9_of_133 : decode cX9_of 133 = .ok (.ireturn, 1) := by decide +kernel
theorem dX9_of_134 : decode cX9_of 134 = .ok (.iconst (-1), 1) := by decide +kernel
theorem dX9_of_135 : decode cX9_of 135 = .ok (.ireturn, 1) := by decide +kernel
theorem dX9_feed_0 : decode cX9_feed 0 = .ok (.iload_n 1, 1) := by decide +kernel
theorem dX9_feed_1 : decode cX9_feed 1 = .ok (.iconst 0, 1) := by decide +kernel
theorem dX9_feed_2 : decode cX9_feed 2 = .ok (.bipush 127, 2) := by decide +kernel
theorem dX9_feed_4 : decode cX9_feed 4 = .ok (.invokestatic 93, 3) := by decide +kernel
theorem dX9_feed_7 : decode cX9_feed 7 = .ok (.ifCond .ne 6, 3) := by decide +kernel
theorem dX9_feed_10 : decode cX9_feed 10 = .ok (.bipush (-2), 2) := by decide +kernel
theorem dX9_feed_12 : decode cX9_feed 12 = .ok (.ireturn, 1) := by decide +kernel
theorem dX9_feed_13 : decode cX9_feed 13 = .ok (.aload_n 0, 1) := by decide +kernel
theorem dX9_feed_14 : decode cX9_feed 14 = .ok (.getfield 132, 3) := by decide +kernel
theorem dX9_feed_17 : decode cX9_feed 17 = .ok (.bipush 100, 2) := by decide +kernel
theorem dX9_feed_19 : decode cX9_feed 19 = .ok (.if_icmp .ne 6, 3) := by decide +kernel
theorem dX9_feed_22 : decode cX9_feed 22 = .ok (.bipush (-4), 2) := by decide +kernel
theorem dX9_feed_24 : decode cX9_feed 24 = .ok (.ireturn, 1) := by decide +kernel
theorem dX9_feed_25 : decode cX9_feed 25 = .ok (.aload_n 0, 1) := by decide +kernel
theorem dX9_feed_26 : decode cX9_feed 26 = .ok (.getfield 52, 3) := by decide +kernel
theorem dX9_feed_29 : decode cX9_feed 29 = .ok (.aload_n 0, 1) := by decide +kernel
theorem dX9_feed_30 : decode cX9_feed 30 = .ok (.dup, 1) := by decide +kernel
theorem dX9_feed_31 : decode cX9_feed 31 = .ok (.getfield 132, 3) := by decide +kernel
theorem dX9_feed_34 : decode cX9_feed 34 = .ok (.dup_x1, 1) := by decide +kernel
theorem dX9_feed_35 : decode cX9_feed 35 = .ok (.iconst 1, 1) := by decide +kernel
theorem dX9_feed_36 : decode cX9_feed 36 = .ok (.iadd, 1) := by decide +kernel
theorem dX9_feed_37 : decode cX9_feed 37 = .ok (.putfield 132, 3) := by decide +kernel
theorem dX9_feed_40 : decode cX9_feed 40 = .ok (.iload_n 1, 1) := by decide +kernel
theorem dX9_feed_41 : decode cX9_feed 41 = .ok (.iastore, 1) := by decide +kernel
theorem dX9_feed_42 : decode cX9_feed 42 = .ok (.aload_n 0, 1) := by decide +kernel
theorem dX9_feed_43 : decode cX9_feed 43 = .ok (.getfield 132, 3) := by decide +kernel
theorem dX9_feed_46 : decode cX9_feed 46 = .ok (.ireturn, 1) := by decide +kernel
theorem dX9_signAt_0 : decode cX9_signAt 0 = .ok (.iload_n 1, 1) := by decide +kernel
theorem dX9_signAt_1 : decode cX9_signAt 1 = .ok (.aload_n 0, 1) := by decide +kernel
theorem dX9_signAt_2 : decode cX9_signAt 2 = .ok (.getfield 132, 3) := by decide +kernel
theorem dX9_signAt_5 : decode cX9_signAt 5 = .ok (.if_icmp .ge 12, 3) := by decide +kernel
theorem dX9_signAt_8 : decode cX9_signAt 8 = .ok (.aload_n 0, 1) := by decide +kernel
theorem dX9_signAt_9 : decode cX9_signAt 9 = .ok (.getfield 52, 3) := by decide +kernel
theorem dX9_signAt_12 : decode cX9_signAt 12 = .ok (.iload_n 1, 1) := by decide +kernel
theorem dX9_signAt_13 : decode cX9_signAt 13 = .ok (.iaload, 1) := by decide +kernel
theorem dX9_signAt_14 : decode cX9_signAt 14 = .ok (.goto 4, 3) := by decide +kernel
theorem dX9_signAt_17 : decode cX9_signAt 17 = .ok (.iconst (-1), 1) := by decide +kernel
theorem dX9_signAt_18 : decode cX9_signAt 18 = .ok (.ireturn, 1) := by decide +kernel
theorem dX9_isDigit_0 : decode cX9_isDigit 0 = .ok (.aload_n 0, 1) := by decide +kernel
theorem dX9_isDigit_1 : decode cX9_isDigit 1 = .ok (.iload_n 1, 1) := by decide +kernel
theorem dX9_isDigit_2 : decode cX9_isDigit 2 = .ok (.invokevirtual 135, 3) := by decide +kernel
theorem dX9_isDigit_5 : decode cX9_isDigit 5 = .ok (.bipush 48, 2) := by decide +kernel
theorem dX9_isDigit_7 : decode cX9_isDigit 7 = .ok (.bipush 57, 2) := by decide +kernel
theorem dX9_isDigit_9 : decode cX9_isDigit 9 = .ok (.invokestatic 93, 3) := by decide +kernel
theorem dX9_isDigit_12 : decode cX9_isDigit 12 = .ok (.ireturn, 1) := by decide +kernel
theorem dX9_behindOdds_0 : decode cX9_behindOdds 0 = .ok (.iload_n 1, 1) := by decide +kernel
theorem dX9_behindOdds_1 : decode cX9_behindOdds 1 = .ok (.istore_n 2, 1) := by decide +kernel
theorem dX9_behindOdds_2 : decode cX9_behindOdds 2 = .ok (.iload_n 2, 1) := by decide +kernel
theorem dX9_behindOdds_3 : decode cX9_behindOdds 3 = .ok (.iload_n 1, 1) := by decide +kernel
theorem dX9_behindOdds_4 : decode cX9_behindOdds 4 = .ok (.iconst 3, 1) := by decide +kernel
theorem dX9_behindOdds_5 : decode cX9_behindOdds 5 = .ok (.iadd, 1) := by decide +kernel
theorem dX9_behindOdds_6 : decode cX9_behindOdds 6 = .ok (.if_icmp .ge 17, 3) := by decide +kernel
theorem dX9_behindOdds_9 : decode cX9_behindOdds 9 = .ok (.aload_n 0, 1) := by decide +kernel
theorem dX9_behindOdds_10 : decode cX9_behindOdds 10 = .ok (.iload_n 2, 1) := by decide +kernel
theorem dX9_behindOdds_11 : decode cX9_behindOdds 11 = .ok (.invokevirtual 138, 3) := by decide +kernel
theorem dX9_behindOdds_14 : decode cX9_behindOdds 14 = .ok (.ifCond .eq 9, 3) := by decide +kernel
theorem dX9_behindOdds_17 : decode cX9_behindOdds 17 = .ok (.iinc 2 1, 3) := by decide +kernel
theorem dX9_behindOdds_20 : decode cX9_behindOdds 20 = .ok (.goto (-18), 3) := by decide +kernel
theorem dX9_behindOdds_23 : decode cX9_behindOdds 23 = .ok (.iload_n 2, 1) := by decide +kernel
theorem dX9_behindOdds_24 : decode cX9_behindOdds 24 = .ok (.ireturn, 1) := by decide +kernel
theorem dX9_behindParts_0 : decode cX9_behindParts 0 = .ok (.iload_n 1, 1) := by decide +kernel
theorem dX9_behindParts_1 : decode cX9_behindParts 1 = .ok (.istore_n 2, 1) := by decide +kernel
theorem dX9_behindParts_2 : decode cX9_behindParts 2 = .ok (.iconst 0, 1) := by decide +kernel
theorem dX9_behindParts_3 : decode cX9_behindParts 3 = .ok (.istore_n 3, 1) := by decide +kernel
theorem dX9_behindParts_4 : decode cX9_behindParts 4 = .ok (.iload_n 3, 1) := by decide +kernel
theorem dX9_behindParts_5 : decode cX9_behindParts 5 = .ok (.iconst 4, 1) := by decide +kernel
theorem dX9_behindParts_6 : decode cX9_behindParts 6 = .ok (.if_icmp .ge 49, 3) := by decide +kernel
theorem dX9_behindParts_9 : decode cX9_behindParts 9 = .ok (.aload_n 0, 1) := by decide +kernel
theorem dX9_behindParts_10 : decode cX9_behindParts 10 = .ok (.iload_n 2, 1) := by decide +kernel
theorem dX9_behindParts_11 : decode cX9_behindParts 11 = .ok (.invokevirtual 135, 3) := by decide +kernel
theorem dX9_behindParts_14 : decode cX9_behindParts 14 = .ok (.bipush 112, 2) := by decide +kernel
theorem dX9_behindParts_16 : decode cX9_behindParts 16 = .ok (.if_icmp .eq 15, 3) := by decide +kernel
theorem dX9_behindParts_19 : decode cX9_behindParts 19 = .ok (.iload_n 3, 1) := by decide +kernel
theorem dX9_behindParts_20 : decode cX9_behindParts 20 = .ok (.ifCond .ne 9, 3) := by decide +kernel
theorem dX9_behindParts_23 : decode cX9_behindParts 23 = .ok (.iconst (-1), 1) := by decide +kernel
theorem dX9_behindParts_24 : decode cX9_behindParts 24 = .ok (.iload_n 2, 1) := by decide +kernel
theorem dX9_behindParts_25 : decode cX9_behindParts 25 = .ok (.isub, 1) := by decide +kernel
theorem dX9_behindParts_26 : decode cX9_behindParts 26 = .ok (.goto 4, 3) := by decide +kernel
theorem dX9_behindParts_29 : decode cX9_behindParts 29 = .ok (.iload_n 2, 1) := by decide +kernel
theorem dX9_behindParts_30 : decode cX9_behindParts 30 = .ok (.ireturn, 1) := by decide +kernel
theorem dX9_behindParts_31 : decode cX9_behindParts 31 = .ok (.aload_n 0, 1) := by decide +kernel
theorem dX9_behindParts_32 : decode cX9_behindParts 32 = .ok (.iload_n 2, 1) := by decide +kernel
theorem dX9_behindParts_33 : decode cX9_behindParts 33 = .ok (.iconst 1, 1) := by decide +kernel
theorem dX9_behindParts_34 : decode cX9_behindParts 34 = .ok (.iadd, 1) := by decide +kernel
theorem dX9_behindParts_35 : decode cX9_behindParts 35 = .ok (.invokevirtual 138, 3) := by decide +kernel
theorem dX9_behindParts_38 : decode cX9_behindParts 38 = .ok (.ifCond .ne 8, 3) := by decide +kernel
theorem dX9_behindParts_41 : decode cX9_behindParts 41 = .ok (.bipush (-2), 2) := by decide +kernel
theorem dX9_behindParts_43 : decode cX9_behindParts 43 = .ok (.iload_n 2, 1) := by decide +kernel
theorem dX9_behindParts_44 : decode cX9_behindParts 44 = .ok (.isub, 1) := by decide +kernel
theorem dX9_behindParts_45 : decode cX9_behindParts 45 = .ok (.ireturn, 1) := by decide +kernel
theorem dX9_behindParts_46 : decode cX9_behindParts 46 = .ok (.iinc 2 2, 3) := by decide +kernel
theorem dX9_behindParts_49 : decode cX9_behindParts 49 = .ok (.iinc 3 1, 3) := by decide +kernel
theorem dX9_behindParts_52 : decode cX9_behindParts 52 = .ok (.goto (-48), 3) := by decide +kernel
theorem dX9_behindParts_55 : decode cX9_behindParts 55 = .ok (.iload_n 2, 1) := by decide +kernel
theorem dX9_behindParts_56 : decode cX9_behindParts 56 = .ok (.ireturn, 1) := by decide +kernel
theorem dX9_behind_0 : decode cX9_behind 0 = .ok (.aload_n 0, 1) := by decide +kernel
theorem dX9_behind_1 : decode cX9_behind 1 = .ok (.iload_n 1, 1) := by decide +kernel
theorem dX9_behind_2 : decode cX9_behind 2 = .ok (.iconst 1, 1) := by decide +kernel
theorem dX9_behind_3 : decode cX9_behind 3 = .ok (.iadd, 1) := by decide +kernel
theorem dX9_behind_4 : decode cX9_behind 4 = .ok (.invokevirtual 141, 3) := by decide +kernel
theorem dX9_behind_7 : decode cX9_behind 7 = .ok (.istore_n 2, 1) := by decide +kernel
theorem dX9_behind_8 : decode cX9_behind 8 = .ok (.aload_n 0, 1) := by decide +kernel
theorem dX9_behind_9 : decode cX9_behind 9 = .ok (.iload_n 1, 1) := by decide +kernel
theorem dX9_behind_10 : decode cX9_behind 10 = .ok (.invokevirtual 135, 3) := by decide +kernel
theorem dX9_behind_13 : decode cX9_behind 13 = .ok (.tableswitch 215 97 115 #[106, 215, 196, 215, 215, 215, 215, 215, 215, 131, 215, 215, 215, 215, 106, 91, 215, 215, 110], 91) := by decide +kernel
theorem dX9_behind_104 : decode cX9_behind 104 = .ok (.iload_n 2, 1) := by decide +kernel
theorem dX9_behind_105 : decode cX9_behind 105 = .ok (.iload_n 1, 1) := by decide +kernel
theorem dX9_behind_106 : decode cX9_behind 106 = .ok (.iconst 1, 1) := by decide +kernel
theorem dX9_behind_107 : decode cX9_behind 107 = .ok (.iadd, 1) := by decide +kernel
theorem dX9_behind_108 : decode cX9_behind 108 = .ok (.if_icmp .ne 9, 3) := by decide +kernel
theorem dX9_behind_111 : decode cX9_behind 111 = .ok (.iconst (-1), 1) := by decide +kernel
theorem dX9_behind_112 : decode cX9_behind 112 = .ok (.iload_n 2, 1) := by decide +kernel
theorem dX9_behind_113 : decode cX9_behind 113 = .ok (.isub, 1) := by decide +kernel
theorem dX9_behind_114 : decode cX9_behind 114 = .ok (.goto 4, 3) := by decide +kernel
theorem dX9_behind_117 : decode cX9_behind 117 = .ok (.iload_n 2, 1) := by decide +kernel
theorem dX9_behind_118 : decode cX9_behind 118 = .ok (.ireturn, 1) := by decide +kernel
theorem dX9_behind_119 : decode cX9_behind 119 = .ok (.iload_n 1, 1) := by decide +kernel
theorem dX9_behind_120 : decode cX9_behind 120 = .ok (.iconst 1, 1) := by decide +kernel
theorem dX9_behind_121 : decode cX9_behind 121 = .ok (.iadd, 1) := by decide +kernel
theorem dX9_behind_122 : decode cX9_behind 122 = .ok (.ireturn, 1) := by decide +kernel
theorem dX9_behind_123 : decode cX9_behind 123 = .ok (.aload_n 0, 1) := by decide +kernel
theorem dX9_behind_124 : decode cX9_behind 124 = .ok (.iload_n 1, 1) := by decide +kernel
theorem dX9_behind_125 : decode cX9_behind 125 = .ok (.iconst 1, 1) := by decide +kernel
theorem dX9_behind_126 : decode cX9_behind 126 = .ok (.iadd, 1) := by decide +kernel
theorem dX9_behind_127 : decode cX9_behind 127 = .ok (.invokevirtual 138, 3) := by decide +kernel
theorem dX9_behind_130 : decode cX9_behind 130 = .ok (.ifCond .eq 9, 3) := by decide +kernel
theorem dX9_behind_133 : decode cX9_behind 133 = .ok (.iload_n 1, 1) := by decide +kernel
theorem dX9_behind_134 : decode cX9_behind 134 = .ok (.iconst 2, 1) := by decide +kernel
theorem dX9_behind_135 : decode cX9_behind 135 = .ok (.iadd, 1) := by decide +kernel
theorem dX9_behind_136 : decode cX9_behind 136 = .ok (.goto 7, 3) := by decide +kernel
theorem dX9_behind_139 : decode cX9_behind 139 = .ok (.bipush (-2), 2) := by decide +kernel
theorem dX9_behind_141 : decode cX9_behind 141 = .ok (.iload_n 1, 1) := by decide +kernel
theorem dX9_behind_142 : decode cX9_behind 142 = .ok (.isub, 1) := by decide +kernel
theorem dX9_behind_143 : decode cX9_behind 143 = .ok (.ireturn, 1) := by decide +kernel
theorem dX9_behind_144 : decode cX9_behind 144 = .ok (.aload_n 0, 1) := by decide +kernel
theorem dX9_behind_145 : decode cX9_behind 145 = .ok (.iload_n 1, 1) := by decide +kernel
theorem dX9_behind_146 : decode cX9_behind 146 = .ok (.iconst 1, 1) := by decide +kernel
theorem dX9_behind_147 : decode cX9_behind 147 = .ok (.iadd, 1) := by decide +kernel
theorem dX9_behind_148 : decode cX9_behind 148 = .ok (.invokevirtual 138, 3) := by decide +kernel
theorem dX9_behind_151 : decode cX9_behind 151 = .ok (.ifCond .ne 8, 3) := by decide +kernel
theorem dX9_behind_154 : decode cX9_behind 154 = .ok (.bipush (-2), 2) := by decide +kernel
theorem dX9_behind_156 : decode cX9_behind 156 = .ok (.iload_n 1, 1) := by decide +kernel
theorem dX9_behind_157 : decode cX9_behind 157 = .ok (.isub, 1) := by decide +kernel
theorem dX9_behind_158 : decode cX9_behind 158 = .ok (.ireturn, 1) := by decide +kernel
theorem dX9_behind_159 : decode cX9_behind 159 = .ok (.aload_n 0, 1) := by decide +kernel
theorem dX9_behind_160 : decode cX9_behind 160 = .ok (.iload_n 1, 1) := by decide +kernel
theorem dX9_behind_161 : decode cX9_behind 161 = .ok (.iconst 2, 1) := by decide +kernel
theorem dX9_behind_162 : decode cX9_behind 162 = .ok (.iadd, 1) := by decide +kernel
theorem dX9_behind_163 : decode cX9_behind 163 = .ok (.invokevirtual 135, 3) := by decide +kernel
theorem dX9_behind_166 : decode cX9_behind 166 = .ok (.bipush 112, 2) := by decide +kernel
theorem dX9_behind_168 : decode cX9_behind 168 = .ok (.if_icmp .eq 20, 3) := by decide +kernel
theorem dX9_behind_171 : decode cX9_behind 171 = .ok (.aload_n 0, 1) := by decide +kernel
theorem dX9_behind_172 : decode cX9_behind 172 = .ok (.iload_n 1, 1) := by decide +kernel
theorem dX9_behind_173 : decode cX9_behind 173 = .ok (.iconst 2, 1) := by decide +kernel
theorem dX9_behind_174 : decode cX9_behind 174 = .ok (.iadd, 1) := by decide +kernel
theorem dX9_behind_175 : decode cX9_behind 175 = .ok (.invokevirtual 135, 3) := by decide +kernel
theorem dX9_behind_178 : decode cX9_behind 178 = .ok (.bipush 103, 2) := by decide +kernel
theorem dX9_behind_180 : decode cX9_behind 180 = .ok (.if_icmp .eq 8, 3) := by decide +kernel
theorem dX9_behind_183 : decode cX9_behind 183 = .ok (.bipush (-3), 2) := by decide +kernel
theorem dX9_behind_185 : decode cX9_behind 185 = .ok (.iload_n 1, 1) := by decide +kernel
theorem dX9_behind_186 : decode cX9_behind 186 = .ok (.isub, 1) := by decide +kernel
theorem dX9_behind_187 : decode cX9_behind 187 = .ok (.ireturn, 1) := by decide +kernel
theorem dX9_behind_188 : decode cX9_behind 188 = .ok (.aload_n 0, 1) := by decide +kernel
theorem dX9_behind_189 : decode cX9_behind 189 = .ok (.iload_n 1, 1) := by decide +kernel
theorem dX9_behind_190 : decode cX9_behind 190 = .ok (.iconst 3, 1) := by decide +kernel
theorem dX9_behind_191 : decode cX9_behind 191 = .ok (.iadd, 1) := by decide +kernel
theorem dX9_behind_192 : decode cX9_behind 192 = .ok (.invokevirtual 138, 3) := by decide +kernel
theorem dX9_behind_195 : decode cX9_behind 195 = .ok (.ifCond .eq 9, 3) := by decide +kernel
theorem dX9_behind_198 : decode cX9_behind 198 = .ok (.iload_n 1, 1) := by decide +kernel
theorem dX9_behind_199 : decode cX9_behind 199 = .ok (.iconst 4, 1) := by decide +kernel
theorem dX9_behind_200 : decode cX9_behind 200 = .ok (.iadd, 1) := by decide +kernel
theorem dX9_behind_201 : decode cX9_behind 201 = .ok (.goto 7, 3) := by decide +kernel
theorem dX9_behind_204 : decode cX9_behind 204 = .ok (.bipush (-4), 2) := by decide +kernel
theorem dX9_behind_206 : decode cX9_behind 206 = .ok (.iload_n 1, 1) := by decide +kernel
theorem dX9_behind_207 : decode cX9_behind 207 = .ok (.isub, 1) := by decide +kernel
theorem dX9_behind_208 : decode cX9_behind 208 = .ok (.ireturn, 1) := by decide +kernel
theorem dX9_behind_209 : decode cX9_behind 209 = .ok (.iload_n 2, 1) := by decide +kernel
theorem dX9_behind_210 : decode cX9_behind 210 = .ok (.iload_n 1, 1) := by decide +kernel
theorem dX9_behind_211 : decode cX9_behind 211 = .ok (.iconst 1, 1) := by decide +kernel
theorem dX9_behind_212 : decode cX9_behind 212 = .ok (.iadd, 1) := by decide +kernel
theorem dX9_behind_213 : decode cX9_behind 213 = .ok (.if_icmp .ne 9, 3) := by decide +kernel
theorem dX9_behind_216 : decode cX9_behind 216 = .ok (.iconst (-1), 1) := by decide +kernel
theorem dX9_behind_217 : decode cX9_behind 217 = .ok (.iload_n 2, 1) := by decide +kernel
theorem dX9_behind_218 : decode cX9_behind 218 = .ok (.isub, 1) := by decide +kernel
theorem dX9_behind_219 : decode cX9_behind 219 = .ok (.goto 8, 3) := by decide +kernel
theorem dX9_behind_222 : decode cX9_behind 222 = .ok (.aload_n 0, 1) := by decide +kernel
theorem dX9_behind_223 : decode cX9_behind 223 = .ok (.iload_n 2, 1) := by decide +kernel
theorem dX9_behind_224 : decode cX9_behind 224 = .ok (.invokevirtual 144, 3) := by decide +kernel
theorem dX9_behind_227 : decode cX9_behind 227 = .ok (.ireturn, 1) := by decide +kernel
theorem dX9_behind_228 : decode cX9_behind 228 = .ok (.iconst (-1), 1) := by decide +kernel
theorem dX9_behind_229 : decode cX9_behind 229 = .ok (.iload_n 1, 1) := by decide +kernel
theorem dX9_behind_230 : decode cX9_behind 230 = .ok (.isub, 1) := by decide +kernel
theorem dX9_behind_231 : decode cX9_behind 231 = .ok (.ireturn, 1) := by decide +kernel
theorem dX9_fault_0 : decode cX9_fault 0 = .ok (.aload_n 0, 1) := by decide +kernel
theorem dX9_fault_1 : decode cX9_fault 1 = .ok (.iconst 0, 1) := by decide +kernel
theorem dX9_fault_2 : decode cX9_fault 2 = .ok (.invokevirtual 147, 3) := by decide +kernel
theorem dX9_fault_5 : decode cX9_fault 5 = .ok (.istore_n 1, 1) := by decide +kernel
theorem dX9_fault_6 : decode cX9_fault 6 = .ok (.iconst 1, 1) := by decide +kernel
theorem dX9_fault_7 : decode cX9_fault 7 = .ok (.istore_n 2, 1) := by decide +kernel
theorem dX9_fault_8 : decode cX9_fault 8 = .ok (.iload_n 1, 1) := by decide +kernel
theorem dX9_fault_9 : decode cX9_fault 9 = .ok (.ifCond .lt 44, 3) := by decide +kernel
theorem dX9_fault_12 : decode cX9_fault 12 = .ok (.iload_n 1, 1) := by decide +kernel
theorem dX9_fault_13 : decode cX9_fault 13 = .ok (.aload_n 0, 1) := by decide +kernel
theorem dX9_fault_14 : decode cX9_fault 14 = .ok (.getfield 132, 3) := by decide +kernel
theorem dX9_fault_17 : decode cX9_fault 17 = .ok (.if_icmp .ge 36, 3) := by decide +kernel
theorem dX9_fault_20 : decode cX9_fault 20 = .ok (.aload_n 0, 1) := by decide +kernel
theorem dX9_fault_21 : decode cX9_fault 21 = .ok (.getfield 52, 3) := by decide +kernel
theorem dX9_fault_24 : decode cX9_fault 24 = .ok (.iload_n 1, 1) := by decide +kernel
theorem dX9_fault_25 : decode cX9_fault 25 = .ok (.iaload, 1) := by decide +kernel
theorem dX9_fault_26 : decode cX9_fault 26 = .ok (.bipush 59, 2) := by decide +kernel
theorem dX9_fault_28 : decode cX9_fault 28 = .ok (.if_icmp .ne 9, 3) := by decide +kernel
theorem dX9_fault_31 : decode cX9_fault 31 = .ok (.iload_n 2, 1) := by decide +kernel
theorem dX9_fault_32 : decode cX9_fault 32 = .ok (.bipush 16, 2) := by decide +kernel
theorem dX9_fault_34 : decode cX9_fault 34 = .ok (.if_icmp .ne 5, 3) := by decide +kernel
theorem dX9_fault_37 : decode cX9_fault 37 = .ok (.iload_n 1, 1) := by decide +kernel
theorem dX9_fault_38 : decode cX9_fault 38 = .ok (.ireturn, 1) := by decide +kernel
theorem dX9_fault_39 : decode cX9_fault 39 = .ok (.iinc 2 1, 3) := by decide +kernel
theorem dX9_fault_42 : decode cX9_fault 42 = .ok (.aload_n 0, 1) := by decide +kernel
theorem dX9_fault_43 : decode cX9_fault 43 = .ok (.iload_n 1, 1) := by decide +kernel
theorem dX9_fault_44 : decode cX9_fault 44 = .ok (.iconst 1, 1) := by decide +kernel
theorem dX9_fault_45 : decode cX9_fault 45 = .ok (.iadd, 1) := by decide +kernel
theorem dX9_fault_46 : decode cX9_fault 46 = .ok (.invokevirtual 147, 3) := by decide +kernel
theorem dX9_fault_49 : decode cX9_fault 49 = .ok (.istore_n 1, 1) := by decide +kernel
theorem dX9_fault_50 : decode cX9_fault 50 = .ok (.goto (-42), 3) := by decide +kernel
theorem dX9_fault_53 : decode cX9_fault 53 = .ok (.iload_n 1, 1) := by decide +kernel
theorem dX9_fault_54 : decode cX9_fault 54 = .ok (.ifCond .ge 9, 3) := by decide +kernel
theorem dX9_fault_57 : decode cX9_fault 57 = .ok (.iconst (-1), 1) := by decide +kernel
theorem dX9_fault_58 : decode cX9_fault 58 = .ok (.iload_n 1, 1) := by decide +kernel
theorem dX9_fault_59 : decode cX9_fault 59 = .ok (.isub, 1) := by decide +kernel
theorem dX9_fault_60 : decode cX9_fault 60 = .ok (.goto 4, 3) := by decide +kernel
theorem dX9_fault_63 : decode cX9_fault 63 = .ok (.iconst (-1), 1) := by decide +kernel
theorem dX9_fault_64 : decode cX9_fault 64 = .ok (.ireturn, 1) := by decide +kernel
theorem dX9_number_0 : decode cX9_number 0 = .ok (.iconst 0, 1) := by decide +kernel
theorem dX9_number_1 : decode cX9_number 1 = .ok (.istore_n 3, 1) := by decide +kernel
theorem dX9_number_2 : decode cX9_number 2 = .ok (.iload_n 1, 1) := by decide +kernel
theorem dX9_number_3 : decode cX9_number 3 = .ok (.istore 4, 2) := by decide +kernel
theorem dX9_number_5 : decode cX9_number 5 = .ok (.iload 4, 2) := by decide +kernel
theorem dX9_number_7 : decode cX9_number 7 = .ok (.iload_n 2, 1) := by decide +kernel
theorem dX9_number_8 : decode cX9_number 8 = .ok (.if_icmp .ge 25, 3) := by decide +kernel
theorem dX9_number_11 : decode cX9_number 11 = .ok (.bipush 10, 2) := by decide +kernel
theorem dX9_number_13 : decode cX9_number 13 = .ok (.iload_n 3, 1) := by decide +kernel
theorem dX9_number_14 : decode cX9_number 14 = .ok (.imul, 1) := by decide +kernel
theorem dX9_number_15 : decode cX9_number 15 = .ok (.aload_n 0, 1) := by decide +kernel
theorem dX9_number_16 : decode cX9_number 16 = .ok (.getfield 52, 3) := by decide +kernel
theorem dX9_number_19 : decode cX9_number 19 = .ok (.iload 4, 2) := by decide +kernel
theorem dX9_number_21 : decode cX9_number 21 = .ok (.iaload, 1) := by decide +kernel
theorem dX9_number_22 : decode cX9_number 22 = .ok (.iadd, 1) := by decide +kernel
theorem dX9_number_23 : decode cX9_number 23 = .ok (.bipush 48, 2) := by decide +kernel
theorem dX9_number_25 : decode cX9_number 25 = .ok (.isub, 1) := by decide +kernel
theorem dX9_number_26 : decode cX9_number 26 = .ok (.istore_n 3, 1) := by decide +kernel
theorem dX9_number_27 : decode cX9_number 27 = .ok (.iinc 4 1, 3) := by decide +kernel
theorem dX9_number_30 : decode cX9_number 30 = .ok (.goto (-25), 3) := by decide +kernel
theorem dX9_number_33 : decode cX9_number 33 = .ok (.iload_n 3, 1) := by decide +kernel
theorem dX9_number_34 : decode cX9_number 34 = .ok (.ireturn, 1) := by decide +kernel
theorem dX9_does_0 : decode cX9_does 0 = .ok (.aload_n 0, 1) := by decide +kernel
theorem dX9_does_1 : decode cX9_does 1 = .ok (.iload_n 1, 1) := by decide +kernel
theorem dX9_does_2 : decode cX9_does 2 = .ok (.iconst 1, 1) := by decide +kernel
theorem dX9_does_3 : decode cX9_does 3 = .ok (.iadd, 1) := by decide +kernel
theorem dX9_does_4 : decode cX9_does 4 = .ok (.invokevirtual 141, 3) := by decide +kernel
theorem dX9_does_7 : decode cX9_does 7 = .ok (.istore_n 3, 1) := by decide +kernel
theorem dX9_does_8 : decode cX9_does 8 = .ok (.aload_n 0, 1) := by decide +kernel
theorem dX9_does_9 : decode cX9_does 9 = .ok (.getfield 52, 3) := by decide +kernel
theorem dX9_does_12 : decode cX9_does 12 = .ok (.iload_n 1, 1) := by decide +kernel
theorem dX9_does_13 : decode cX9_does 13 = .ok (.iaload, 1) := by decide +kernel
theorem dX9_does_14 : decode cX9_does 14 = .ok (.lookupswitch 179 #[(97, 71), (106, 126), (111, 86), (112, 50), (115, 101)], 50) := by decide +kernel
theorem dX9_does_64 : decode cX9_does 64 = .ok (.aload_n 0, 1) := by decide +kernel
theorem dX9_does_65 : decode cX9_does 65 = .ok (.aload_n 0, 1) := by decide +kernel
theorem dX9_does_66 : decode cX9_does 66 = .ok (.iload_n 1, 1) := by decide +kernel
theorem dX9_does_67 : decode cX9_does 67 = .ok (.iconst 1, 1) := by decide +kernel
theorem dX9_does_68 : decode cX9_does 68 = .ok (.iadd, 1) := by decide +kernel
theorem dX9_does_69 : decode cX9_does 69 = .ok (.iload_n 2, 1) := by decide +kernel
theorem dX9_does_70 : decode cX9_does 70 = .ok (.invokevirtual 150, 3) := by decide +kernel
theorem dX9_does_73 : decode cX9_does 73 = .ok (.invokevirtual 153, 3) := by decide +kernel
theorem dX9_does_76 : decode cX9_does 76 = .ok (.ifCond .lt 7, 3) := by decide +kernel
theorem dX9_does_79 : decode cX9_does 79 = .ok (.iconst 1, 1) := by decide +kernel
theorem dX9_does_80 : decode cX9_does 80 = .ok (.goto 4, 3) := by decide +kernel
theorem dX9_does_83 : decode cX9_does 83 = .ok (.iconst 0, 1) := by decide +kernel
theorem dX9_does_84 : decode cX9_does 84 = .ok (.ireturn, 1) := by decide +kernel
theorem dX9_does_85 : decode cX9_does 85 = .ok (.aload_n 0, 1) := by decide +kernel
theorem dX9_does_86 : decode cX9_does 86 = .ok (.iconst 0, 1) := by decide +kernel
theorem dX9_does_87 : decode cX9_does 87 = .ok (.iconst 0, 1) := by decide +kernel
theorem dX9_does_88 : decode cX9_does 88 = .ok (.invokevirtual 156, 3) := by decide +kernel
theorem dX9_does_91 : decode cX9_does 91 = .ok (.ifCond .lt 7, 3) := by decide +kernel
theorem dX9_does_94 : decode cX9_does 94 = .ok (.iconst 1, 1) := by decide +kernel
theorem dX9_does_95 : decode cX9_does 95 = .ok (.goto 4, 3) := by decide +kernel
theorem dX9_does_98 : decode cX9_does 98 = .ok (.iconst 0, 1) := by decide +kernel
theorem dX9_does_99 : decode cX9_does 99 = .ok (.ireturn, 1) := by decide +kernel
theorem dX9_does_100 : decode cX9_does 100 = .ok (.aload_n 0, 1) := by decide +kernel
theorem dX9_does_101 : decode cX9_does 101 = .ok (.iconst 1, 1) := by decide +kernel
theorem dX9_does_102 : decode cX9_does 102 = .ok (.iconst 0, 1) := by decide +kernel
theorem dX9_does_103 : decode cX9_does 103 = .ok (.invokevirtual 156, 3) := by decide +kernel
theorem dX9_does_106 : decode cX9_does 106 = .ok (.ifCond .lt 7, 3) := by decide +kernel
theorem dX9_does_109 : decode cX9_does 109 = .ok (.iconst 1, 1) := by decide +kernel
theorem dX9_does_110 : decode cX9_does 110 = .ok (.goto 4, 3) := by decide +kernel
theorem dX9_does_113 : decode cX9_does 113 = .ok (.iconst 0, 1) := by decide +kernel
theorem dX9_does_114 : decode cX9_does 114 = .ok (.ireturn, 1) := by decide +kernel
theorem dX9_does_115 : decode cX9_does 115 = .ok (.aload_n 0, 1) := by decide +kernel
theorem dX9_does_116 : decode cX9_does 116 = .ok (.iconst 2, 1) := by decide +kernel
theorem dX9_does_117 : decode cX9_does 117 = .ok (.aload_n 0, 1) := by decide +kernel
theorem dX9_does_118 : decode cX9_does 118 = .ok (.getfield 52, 3) := by decide +kernel
theorem dX9_does_121 : decode cX9_does 121 = .ok (.iload_n 1, 1) := by decide +kernel
theorem dX9_does_122 : decode cX9_does 122 = .ok (.iconst 1, 1) := by decide +kernel
theorem dX9_does_123 : decode cX9_does 123 = .ok (.iadd, 1) := by decide +kernel
theorem dX9_does_124 : decode cX9_does 124 = .ok (.iaload, 1) := by decide +kernel
theorem dX9_does_125 : decode cX9_does 125 = .ok (.bipush 48, 2) := by decide +kernel
theorem dX9_does_127 : decode cX9_does 127 = .ok (.isub, 1) := by decide +kernel
theorem dX9_does_128 : decode cX9_does 128 = .ok (.invokevirtual 156, 3) := by decide +kernel
theorem dX9_does_131 : decode cX9_does 131 = .ok (.ifCond .lt 7, 3) := by decide +kernel
theorem dX9_does_134 : decode cX9_does 134 = .ok (.iconst 1, 1) := by decide +kernel
theorem dX9_does_135 : decode cX9_does 135 = .ok (.goto 4, 3) := by decide +kernel
theorem dX9_does_138 : decode cX9_does 138 = .ok (.iconst 0, 1) := by decide +kernel
theorem dX9_does_139 : decode cX9_does 139 = .ok (.ireturn, 1) := by decide +kernel
theorem dX9_does_140 : decode cX9_does 140 = .ok (.aload_n 0, 1) := by decide +kernel
theorem dX9_does_141 : decode cX9_does 141 = .ok (.aload_n 0, 1) := by decide +kernel
theorem dX9_does_142 : decode cX9_does 142 = .ok (.getfield 52, 3) := by decide +kernel
theorem dX9_does_145 : decode cX9_does 145 = .ok (.iload_n 1, 1) := by decide +kernel
theorem dX9_does_146 : decode cX9_does 146 = .ok (.iconst 1, 1) := by decide +kernel
theorem dX9_does_147 : decode cX9_does 147 = .ok (.iadd, 1) := by decide +kernel
theorem dX9_does_148 : decode cX9_does 148 = .ok (.iaload, 1) := by decide +kernel
theorem dX9_does_149 : decode cX9_does 149 = .ok (.bipush 48, 2) := by decide +kernel
theorem dX9_does_151 : decode cX9_does 151 = .ok (.isub, 1) := by decide +kernel
theorem dX9_does_152 : decode cX9_does 152 = .ok (.aload_n 0, 1) := by decide +kernel
theorem dX9_does_153 : decode cX9_does 153 = .ok (.getfield 52, 3) := by decide +kernel
theorem dX9_does_156 : decode cX9_does 156 = .ok (.iload_n 1, 1) := by decide +kernel
theorem dX9_does_157 : decode cX9_does 157 = .ok (.iconst 2, 1) := by decide +kernel
theorem dX9_does_158 : decode cX9_does 158 = .ok (.iadd, 1) := by decide +kernel
theorem dX9_does_159 : decode cX9_does 159 = .ok (.iaload, 1) := by decide +kernel
theorem dX9_does_160 : decode cX9_does 160 = .ok (.bipush 112, 2) := by decide +kernel
theorem dX9_does_162 : decode cX9_does 162 = .ok (.if_icmp .ne 7, 3) := by decide +kernel
theorem dX9_does_165 : decode cX9_does 165 = .ok (.iconst 1, 1) := by decide +kernel
theorem dX9_does_166 : decode cX9_does 166 = .ok (.goto 4, 3) := by decide +kernel
theorem dX9_does_169 : decode cX9_does 169 = .ok (.iconst 0, 1) := by decide +kernel
theorem dX9_does_170 : decode cX9_does 170 = .ok (.aload_n 0, 1) := by decide +kernel
theorem dX9_does_171 : decode cX9_does 171 = .ok (.getfield 52, 3) := by decide +kernel
theorem dX9_does_174 : decode cX9_does 174 = .ok (.iload_n 1, 1) := by decide +kernel
theorem dX9_does_175 : decode cX9_does 175 = .ok (.iconst 3, 1) := by decide +kernel
theorem dX9_does_176 : decode cX9_does 176 = .ok (.iadd, 1) := by decide +kernel
theorem dX9_does_177 : decode cX9_does 177 = .ok (.iaload, 1) := by decide +kernel
theorem dX9_does_178 : decode cX9_does 178 = .ok (.bipush 48, 2) := by decide +kernel
theorem dX9_does_180 : decode cX9_does 180 = .ok (.isub, 1) := by decide +kernel
theorem dX9_does_181 : decode cX9_does 181 = .ok (.invokevirtual 159, 3) := by decide +kernel
theorem dX9_does_184 : decode cX9_does 184 = .ok (.ifCond .lt 7, 3) := by decide +kernel
theorem dX9_does_187 : decode cX9_does 187 = .ok (.iconst 1, 1) := by decide +kernel
theorem dX9_does_188 : decode cX9_does 188 = .ok (.goto 4, 3) := by decide +kernel
theorem dX9_does_191 : decode cX9_does 191 = .ok (.iconst 0, 1) := by decide +kernel
theorem dX9_does_192 : decode cX9_does 192 = .ok (.ireturn, 1) := by decide +kernel
theorem dX9_does_193 : decode cX9_does 193 = .ok (.iconst 0, 1) := by decide +kernel
theorem dX9_does_194 : decode cX9_does 194 = .ok (.istore 4, 2) := by decide +kernel
theorem dX9_does_196 : decode cX9_does 196 = .ok (.iload_n 3, 1) := by decide +kernel
theorem dX9_does_197 : decode cX9_does 197 = .ok (.istore 5, 2) := by decide +kernel
theorem dX9_does_199 : decode cX9_does 199 = .ok (.iload 5, 2) := by decide +kernel
theorem dX9_does_201 : decode cX9_does 201 = .ok (.iload_n 2, 1) := by decide +kernel
theorem dX9_does_202 : decode cX9_does 202 = .ok (.if_icmp .ge 28, 3) := by decide +kernel
theorem dX9_does_205 : decode cX9_does 205 = .ok (.iload 4, 2) := by decide +kernel
theorem dX9_does_207 : decode cX9_does 207 = .ok (.iconst 1, 1) := by decide +kernel
theorem dX9_does_208 : decode cX9_does 208 = .ok (.aload_n 0, 1) := by decide +kernel
theorem dX9_does_209 : decode cX9_does 209 = .ok (.getfield 52, 3) := by decide +kernel
theorem dX9_does_212 : decode cX9_does 212 = .ok (.iload 5, 2) := by decide +kernel
theorem dX9_does_214 : decode cX9_does 214 = .ok (.iconst 1, 1) := by decide +kernel
theorem dX9_does_215 : decode cX9_does 215 = .ok (.iadd, 1) := by decide +kernel
theorem dX9_does_216 : decode cX9_does 216 = .ok (.iaload, 1) := by decide +kernel
theorem dX9_does_217 : decode cX9_does 217 = .ok (.bipush 48, 2) := by decide +kernel
theorem dX9_does_219 : decode cX9_does 219 = .ok (.isub, 1) := by decide +kernel
theorem dX9_does_220 : decode cX9_does 220 = .ok (.ishl, 1) := by decide +kernel
theorem dX9_does_221 : decode cX9_does 221 = .ok (.ior, 1) := by decide +kernel
theorem dX9_does_222 : decode cX9_does 222 = .ok (.istore 4, 2) := by decide +kernel
theorem dX9_does_224 : decode cX9_does 224 = .ok (.iinc 5 2, 3) := by decide +kernel
theorem dX9_does_227 : decode cX9_does 227 = .ok (.goto (-28), 3) := by decide +kernel
theorem dX9_does_230 : decode cX9_does 230 = .ok (.aload_n 0, 1) := by decide +kernel
theorem dX9_does_231 : decode cX9_does 231 = .ok (.aload_n 0, 1) := by decide +kernel
theorem dX9_does_232 : decode cX9_does 232 = .ok (.iload_n 1, 1) := by decide +kernel
theorem dX9_does_233 : decode cX9_does 233 = .ok (.iconst 1, 1) := by decide +kernel
theorem dX9_does_234 : decode cX9_does 234 = .ok (.iadd, 1) := by decide +kernel
theorem dX9_does_235 : decode cX9_does 235 = .ok (.iload_n 3, 1) := by decide +kernel
theorem dX9_does_236 : decode cX9_does 236 = .ok (.invokevirtual 150, 3) := by decide +kernel
theorem dX9_does_239 : decode cX9_does 239 = .ok (.iload 4, 2) := by decide +kernel
theorem dX9_does_241 : decode cX9_does 241 = .ok (.invokevirtual 163, 3) := by decide +kernel
theorem dX9_does_244 : decode cX9_does 244 = .ok (.ifCond .lt 7, 3) := by decide +kernel
theorem dX9_does_247 : decode cX9_does 247 = .ok (.iconst 1, 1) := by decide +kernel
theorem dX9_does_248 : decode cX9_does 248 = .ok (.goto 4, 3) := by decide +kernel
theorem dX9_does_251 : decode cX9_does 251 = .ok (.iconst 0, 1) := by decide +kernel
theorem dX9_does_252 : decode cX9_does 252 = .ok (.ireturn, 1) := by decide +kernel
theorem dX9_read_0 : decode cX9_read 0 = .ok (.aload_n 0, 1) := by decide +kernel
theorem dX9_read_1 : decode cX9_read 1 = .ok (.invokevirtual 166, 3) := by decide +kernel
theorem dX9_read_4 : decode cX9_read 4 = .ok (.istore_n 1, 1) := by decide +kernel
theorem dX9_read_5 : decode cX9_read 5 = .ok (.iconst 0, 1) := by decide +kernel
theorem dX9_read_6 : decode cX9_read 6 = .ok (.istore_n 2, 1) := by decide +kernel
theorem dX9_read_7 : decode cX9_read 7 = .ok (.iconst 0, 1) := by decide +kernel
theorem dX9_read_8 : decode cX9_read 8 = .ok (.istore_n 3, 1) := by decide +kernel
theorem dX9_read_9 : decode cX9_read 9 = .ok (.iload_n 1, 1) := by decide +kernel
theorem dX9_read_10 : decode cX9_read 10 = .ok (.ifCond .ge 39, 3) := by decide +kernel
theorem dX9_read_13 : decode cX9_read 13 = .ok (.iload_n 3, 1) := by decide +kernel
theorem dX9_read_14 : decode cX9_read 14 = .ok (.aload_n 0, 1) := by decide +kernel
theorem dX9_read_15 : decode cX9_read 15 = .ok (.getfield 132, 3) := by decide +kernel
theorem dX9_read_18 : decode cX9_read 18 = .ok (.if_icmp .ge 31, 3) := by decide +kernel
theorem dX9_read_21 : decode cX9_read 21 = .ok (.aload_n 0, 1) := by decide +kernel
theorem dX9_read_22 : decode cX9_read 22 = .ok (.iload_n 3, 1) := by decide +kernel
theorem dX9_read_23 : decode cX9_read 23 = .ok (.invokevirtual 147, 3) := by decide +kernel
theorem dX9_read_26 : decode cX9_read 26 = .ok (.istore 4, 2) := by decide +kernel
theorem dX9_read_28 : decode cX9_read 28 = .ok (.aload_n 0, 1) := by decide +kernel
theorem dX9_read_29 : decode cX9_read 29 = .ok (.iload_n 3, 1) := by decide +kernel
theorem dX9_read_30 : decode cX9_read 30 = .ok (.iload 4, 2) := by decide +kernel
theorem dX9_read_32 : decode cX9_read 32 = .ok (.invokevirtual 169, 3) := by decide +kernel
theorem dX9_read_35 : decode cX9_read 35 = .ok (.ifCond .eq 6, 3) := by decide +kernel
theorem dX9_read_38 : decode cX9_read 38 = .ok (.iinc 2 1, 3) := by decide +kernel
theorem dX9_read_41 : decode cX9_read 41 = .ok (.iload 4, 2) := by decide +kernel
theorem dX9_read_43 : decode cX9_read 43 = .ok (.iconst 1, 1) := by decide +kernel
theorem dX9_read_44 : decode cX9_read 44 = .ok (.iadd, 1) := by decide +kernel
theorem dX9_read_45 : decode cX9_read 45 = .ok (.istore_n 3, 1) := by decide +kernel
theorem dX9_read_46 : decode cX9_read 46 = .ok (.goto (-37), 3) := by decide +kernel
theorem dX9_read_49 : decode cX9_read 49 = .ok (.aload_n 0, 1) := by decide +kernel
theorem dX9_read_50 : decode cX9_read 50 = .ok (.iconst 0, 1) := by decide +kernel
theorem dX9_read_51 : decode cX9_read 51 = .ok (.putfield 132, 3) := by decide +kernel
theorem dX9_read_54 : decode cX9_read 54 = .ok (.iload_n 1, 1) := by decide +kernel
theorem dX9_read_55 : decode cX9_read 55 = .ok (.ifCond .lt 10, 3) := by decide +kernel
theorem dX9_read_58 : decode cX9_read 58 = .ok (.bipush (-10), 2) := by decide +kernel
theorem dX9_read_60 : decode cX9_read 60 = .ok (.iload_n 1, 1) := by decide +kernel
theorem dX9_read_61 : decode cX9_read 61 = .ok (.isub, 1) := by decide +kernel
theorem dX9_read_62 : decode cX9_read 62 = .ok (.goto 4, 3) := by decide +kernel
theorem dX9_read_65 : decode cX9_read 65 = .ok (.iload_n 2, 1) := by decide +kernel
theorem dX9_read_66 : decode cX9_read 66 = .ok (.ireturn, 1) := by decide +kernel
theorem dX9_fallsBy_0 : decode cX9_fallsBy 0 = .ok (.aload_n 0, 1) := by decide +kernel
theorem dX9_fallsBy_1 : decode cX9_fallsBy 1 = .ok (.getfield 18, 3) := by decide +kernel
theorem dX9_fallsBy_4 : decode cX9_fallsBy 4 = .ok (.iload_n 1, 1) := by decide +kernel
theorem dX9_fallsBy_5 : decode cX9_fallsBy 5 = .ok (.iaload, 1) := by decide +kernel
theorem dX9_fallsBy_6 : decode cX9_fallsBy 6 = .ok (.ifCond .ne 21, 3) := by decide +kernel
theorem dX9_fallsBy_9 : decode cX9_fallsBy 9 = .ok (.iload_n 2, 1) := by decide +kernel
theorem dX9_fallsBy_10 : decode cX9_fallsBy 10 = .ok (.aload_n 0, 1) := by decide +kernel
theorem dX9_fallsBy_11 : decode cX9_fallsBy 11 = .ok (.getfield 24, 3) := by decide +kernel
theorem dX9_fallsBy_14 : decode cX9_fallsBy 14 = .ok (.iload_n 1, 1) := by decide +kernel
theorem dX9_fallsBy_15 : decode cX9_fallsBy 15 = .ok (.iaload, 1) := by decide +kernel
theorem dX9_fallsBy_16 : decode cX9_fallsBy 16 = .ok (.if_icmp .ne 7, 3) := by decide +kernel
theorem dX9_fallsBy_19 : decode cX9_fallsBy 19 = .ok (.iconst 1, 1) := by decide +kernel
theorem dX9_fallsBy_20 : decode cX9_fallsBy 20 = .ok (.goto 44, 3) := by decide +kernel
theorem dX9_fallsBy_23 : decode cX9_fallsBy 23 = .ok (.iconst 0, 1) := by decide +kernel
theorem dX9_fallsBy_24 : decode cX9_fallsBy 24 = .ok (.goto 40, 3) := by decide +kernel
theorem dX9_fallsBy_27 : decode cX9_fallsBy 27 = .ok (.aload_n 0, 1) := by decide +kernel
theorem dX9_fallsBy_28 : decode cX9_fallsBy 28 = .ok (.getfield 18, 3) := by decide +kernel
theorem dX9_fallsBy_31 : decode cX9_fallsBy 31 = .ok (.iload_n 1, 1) := by decide +kernel
theorem dX9_fallsBy_32 : decode cX9_fallsBy 32 = .ok (.iaload, 1) := by decide +kernel
theorem dX9_fallsBy_33 : decode cX9_fallsBy 33 = .ok (.iconst 1, 1) := by decide +kernel
theorem dX9_fallsBy_34 : decode cX9_fallsBy 34 = .ok (.if_icmp .ne 15, 3) := by decide +kernel
theorem dX9_fallsBy_37 : decode cX9_fallsBy 37 = .ok (.iload_n 2, 1) := by decide +kernel
theorem dX9_fallsBy_38 : decode cX9_fallsBy 38 = .ok (.ifCond .le 7, 3) := by decide +kernel
theorem dX9_fallsBy_41 : decode cX9_fallsBy 41 = .ok (.iconst 1, 1) := by decide +kernel
theorem dX9_fallsBy_42 : decode cX9_fallsBy 42 = .ok (.goto 22, 3) := by decide +kernel
theorem dX9_fallsBy_45 : decode cX9_fallsBy 45 = .ok (.iconst 0, 1) := by decide +kernel
theorem dX9_fallsBy_46 : decode cX9_fallsBy 46 = .ok (.goto 18, 3) := by decide +kernel
theorem dX9_fallsBy_49 : decode cX9_fallsBy 49 = .ok (.iload_n 2, 1) := by decide +kernel
theorem dX9_fallsBy_50 : decode cX9_fallsBy 50 = .ok (.aload_n 0, 1) := by decide +kernel
theorem dX9_fallsBy_51 : decode cX9_fallsBy 51 = .ok (.getfield 21, 3) := by decide +kernel
theorem dX9_fallsBy_54 : decode cX9_fallsBy 54 = .ok (.iload_n 1, 1) := by decide +kernel
theorem dX9_fallsBy_55 : decode cX9_fallsBy 55 = .ok (.iaload, 1) := by decide +kernel
theorem dX9_fallsBy_56 : decode cX9_fallsBy 56 = .ok (.if_icmp .lt 7, 3) := by decide +kernel
theorem dX9_fallsBy_59 : decode cX9_fallsBy 59 = .ok (.iconst 1, 1) := by decide +kernel
theorem dX9_fallsBy_60 : decode cX9_fallsBy 60 = .ok (.goto 4, 3) := by decide +kernel
theorem dX9_fallsBy_63 : decode cX9_fallsBy 63 = .ok (.iconst 0, 1) := by decide +kernel
theorem dX9_fallsBy_64 : decode cX9_fallsBy 64 = .ok (.ireturn, 1) := by decide +kernel
theorem dX9_fallsAt_0 : decode cX9_fallsAt 0 = .ok (.iconst 0, 1) := by decide +kernel
theorem dX9_fallsAt_1 : decode cX9_fallsAt 1 = .ok (.istore_n 3, 1) := by decide +kernel
theorem dX9_fallsAt_2 : decode cX9_fallsAt 2 = .ok (.iload_n 3, 1) := by decide +kernel
theorem dX9_fallsAt_3 : decode cX9_fallsAt 3 = .ok (.iload_n 1, 1) := by decide +kernel
theorem dX9_fallsAt_4 : decode cX9_fallsAt 4 = .ok (.if_icmp .gt 94, 3) := by decide +kernel
theorem dX9_fallsAt_7 : decode cX9_fallsAt 7 = .ok (.iconst 0, 1) := by decide +kernel
theorem dX9_fallsAt_8 : decode cX9_fallsAt 8 = .ok (.istore 4, 2) := by decide +kernel
theorem dX9_fallsAt_10 : decode cX9_fallsAt 10 = .ok (.iconst 0, 1) := by decide +kernel
theorem dX9_fallsAt_11 : decode cX9_fallsAt 11 = .ok (.istore 5, 2) := by decide +kernel
theorem dX9_fallsAt_13 : decode cX9_fallsAt 13 = .ok (.iload 5, 2) := by decide +kernel
theorem dX9_fallsAt_15 : decode cX9_fallsAt 15 = .ok (.aload_n 0, 1) := by decide +kernel
theorem dX9_fallsAt_16 : decode cX9_fallsAt 16 = .ok (.getfield 24, 3) := by decide +kernel
theorem dX9_fallsAt_19 : decode cX9_fallsAt 19 = .ok (.iload_n 3, 1) := by decide +kernel
theorem dX9_fallsAt_20 : decode cX9_fallsAt 20 = .ok (.iaload, 1) := by decide +kernel
theorem dX9_fallsAt_21 : decode cX9_fallsAt 21 = .ok (.if_icmp .ge 58, 3) := by decide +kernel
theorem dX9_fallsAt_24 : decode cX9_fallsAt 24 = .ok (.aload_n 0, 1) := by decide +kernel
theorem dX9_fallsAt_25 : decode cX9_fallsAt 25 = .ok (.getfield 27, 3) := by decide +kernel
theorem dX9_fallsAt_28 : decode cX9_fallsAt 28 = .ok (.iconst 4, 1) := by decide +kernel
theorem dX9_fallsAt_29 : decode cX9_fallsAt 29 = .ok (.iload_n 3, 1) := by decide +kernel
theorem dX9_fallsAt_30 : decode cX9_fallsAt 30 = .ok (.imul, 1) := by decide +kernel
theorem dX9_fallsAt_31 : decode cX9_fallsAt 31 = .ok (.iload 5, 2) := by decide +kernel
theorem dX9_fallsAt_33 : decode cX9_fallsAt 33 = .ok (.iadd, 1) := by decide +kernel
theorem dX9_fallsAt_34 : decode cX9_fallsAt 34 = .ok (.iaload, 1) := by decide +kernel
theorem dX9_fallsAt_35 : decode cX9_fallsAt 35 = .ok (.istore 6, 2) := by decide +kernel
theorem dX9_fallsAt_37 : decode cX9_fallsAt 37 = .ok (.iload 6, 2) := by decide +kernel
theorem dX9_fallsAt_39 : decode cX9_fallsAt 39 = .ok (.bipush 10, 2) := by decide +kernel
theorem dX9_fallsAt_41 : decode cX9_fallsAt 41 = .ok (.if_icmp .lt 19, 3) := by decide +kernel
theorem dX9_fallsAt_44 : decode cX9_fallsAt 44 = .ok (.aload_n 0, 1) := by decide +kernel
theorem dX9_fallsAt_45 : decode cX9_fallsAt 45 = .ok (.getfield 55, 3) := by decide +kernel
theorem dX9_fallsAt_48 : decode cX9_fallsAt 48 = .ok (.iload 6, 2) := by decide +kernel
theorem dX9_fallsAt_50 : decode cX9_fallsAt 50 = .ok (.bipush 10, 2) := by decide +kernel
theorem dX9_fallsAt_52 : decode cX9_fallsAt 52 = .ok (.isub, 1) := by decide +kernel
theorem dX9_fallsAt_53 : decode cX9_fallsAt 53 = .ok (.baload, 1) := by decide +kernel
theorem dX9_fallsAt_54 : decode cX9_fallsAt 54 = .ok (.ifCond .eq 19, 3) := by decide +kernel
theorem dX9_fallsAt_57 : decode cX9_fallsAt 57 = .ok (.goto 13, 3) := by decide +kernel
theorem dX9_fallsAt_60 : decode cX9_fallsAt 60 = .ok (.iload_n 2, 1) := by decide +kernel
theorem dX9_fallsAt_61 : decode cX9_fallsAt 61 = .ok (.iload 6, 2) := by decide +kernel
theorem dX9_fallsAt_63 : decode cX9_fallsAt 63 = .ok (.ishr, 1) := by decide +kernel
theorem dX9_fallsAt_64 : decode cX9_fallsAt 64 = .ok (.iconst 1, 1) := by decide +kernel
theorem dX9_fallsAt_65 : decode cX9_fallsAt 65 = .ok (.iand, 1) := by decide +kernel
theorem dX9_fallsAt_66 : decode cX9_fallsAt 66 = .ok (.iconst 1, 1) := by decide +kernel
theorem dX9_fallsAt_67 : decode cX9_fallsAt 67 = .ok (.if_icmp .ne 6, 3) := by decide +kernel
theorem dX9_fallsAt_70 : decode cX9_fallsAt 70 = .ok (.iinc 4 1, 3) := by decide +kernel
theorem dX9_fallsAt_73 : decode cX9_fallsAt 73 = .ok (.iinc 5 1, 3) := by decide +kernel
theorem dX9_fallsAt_76 : decode cX9_fallsAt 76 = .ok (.goto (-63), 3) := by decide +kernel
theorem dX9_fallsAt_79 : decode cX9_fallsAt 79 = .ok (.aload_n 0, 1) := by decide +kernel
theorem dX9_fallsAt_80 : decode cX9_fallsAt 80 = .ok (.getfield 55, 3) := by decide +kernel
theorem dX9_fallsAt_83 : decode cX9_fallsAt 83 = .ok (.iload_n 3, 1) := by decide +kernel
theorem dX9_fallsAt_84 : decode cX9_fallsAt 84 = .ok (.aload_n 0, 1) := by decide +kernel
theorem dX9_fallsAt_85 : decode cX9_fallsAt 85 = .ok (.iload_n 3, 1) := by decide +kernel
theorem dX9_fallsAt_86 : decode cX9_fallsAt 86 = .ok (.iload 4, 2) := by decide +kernel
theorem dX9_fallsAt_88 : decode cX9_fallsAt 88 = .ok (.invokevirtual 172, 3) := by decide +kernel
theorem dX9_fallsAt_91 : decode cX9_fallsAt 91 = .ok (.bastore, 1) := by decide +kernel
theorem dX9_fallsAt_92 : decode cX9_fallsAt 92 = .ok (.iinc 3 1, 3) := by decide +kernel
theorem dX9_fallsAt_95 : decode cX9_fallsAt 95 = .ok (.goto (-93), 3) := by decide +kernel
theorem dX9_fallsAt_98 : decode cX9_fallsAt 98 = .ok (.aload_n 0, 1) := by decide +kernel
theorem dX9_fallsAt_99 : decode cX9_fallsAt 99 = .ok (.getfield 55, 3) := by decide +kernel
theorem dX9_fallsAt_102 : decode cX9_fallsAt 102 = .ok (.iload_n 1, 1) := by decide +kernel
theorem dX9_fallsAt_103 : decode cX9_fallsAt 103 = .ok (.baload, 1) := by decide +kernel
theorem dX9_fallsAt_104 : decode cX9_fallsAt 104 = .ok (.ireturn, 1) := by decide +kernel
theorem dX9_isDown_0 : decode cX9_isDown 0 = .ok (.aload_n 0, 1) := by decide +kernel
theorem dX9_isDown_1 : decode cX9_isDown 1 = .ok (.aload_n 0, 1) := by decide +kernel
theorem dX9_isDown_2 : decode cX9_isDown 2 = .ok (.invokevirtual 114, 3) := by decide +kernel
theorem dX9_isDown_5 : decode cX9_isDown 5 = .ok (.iload_n 1, 1) := by decide +kernel
theorem dX9_isDown_6 : decode cX9_isDown 6 = .ok (.invokevirtual 175, 3) := by decide +kernel
theorem dX9_isDown_9 : decode cX9_isDown 9 = .ok (.ireturn, 1) := by decide +kernel
theorem dX9_fails_0 : decode cX9_fails 0 = .ok (.aload_n 0, 1) := by decide +kernel
theorem dX9_fails_1 : decode cX9_fails 1 = .ok (.getfield 97, 3) := by decide +kernel
theorem dX9_fails_4 : decode cX9_fails 4 = .ok (.ifCond .eq 16, 3) := by decide +kernel
theorem dX9_fails_7 : decode cX9_fails 7 = .ok (.iload_n 1, 1) := by decide +kernel
theorem dX9_fails_8 : decode cX9_fails 8 = .ok (.iconst (-1), 1) := by decide +kernel
theorem dX9_fails_9 : decode cX9_fails 9 = .ok (.if_icmp .eq 13, 3) := by decide +kernel
theorem dX9_fails_12 : decode cX9_fails 12 = .ok (.aload_n 0, 1) := by decide +kernel
theorem dX9_fails_13 : decode cX9_fails 13 = .ok (.iload_n 1, 1) := by decide +kernel
theorem dX9_fails_14 : decode cX9_fails 14 = .ok (.invokevirtual 108, 3) := by decide +kernel
theorem dX9_fails_17 : decode cX9_fails 17 = .ok (.ifCond .ne 5, 3) := by decide +kernel
theorem dX9_fails_20 : decode cX9_fails 20 = .ok (.iconst (-1), 1) := by decide +kernel
theorem dX9_fails_21 : decode cX9_fails 21 = .ok (.ireturn, 1) := by decide +kernel
theorem dX9_fails_22 : decode cX9_fails 22 = .ok (.aload_n 0, 1) := by decide +kernel
theorem dX9_fails_23 : decode cX9_fails 23 = .ok (.iload_n 2, 1) := by decide +kernel
theorem dX9_fails_24 : decode cX9_fails 24 = .ok (.invokevirtual 118, 3) := by decide +kernel
theorem dX9_fails_27 : decode cX9_fails 27 = .ok (.ifCond .ne 6, 3) := by decide +kernel
theorem dX9_fails_30 : decode cX9_fails 30 = .ok (.bipush (-2), 2) := by decide +kernel
theorem dX9_fails_32 : decode cX9_fails 32 = .ok (.ireturn, 1) := by decide +kernel
theorem dX9_fails_33 : decode cX9_fails 33 = .ok (.aload_n 0, 1) := by decide +kernel
theorem dX9_fails_34 : decode cX9_fails 34 = .ok (.iload_n 1, 1) := by decide +kernel
theorem dX9_fails_35 : decode cX9_fails 35 = .ok (.iconst (-1), 1) := by decide +kernel
theorem dX9_fails_36 : decode cX9_fails 36 = .ok (.if_icmp .ne 10, 3) := by decide +kernel
theorem dX9_fails_39 : decode cX9_fails 39 = .ok (.aload_n 0, 1) := by decide +kernel
theorem dX9_fails_40 : decode cX9_fails 40 = .ok (.invokevirtual 114, 3) := by decide +kernel
theorem dX9_fails_43 : decode cX9_fails 43 = .ok (.goto 4, 3) := by decide +kernel
theorem dX9_fails_46 : decode cX9_fails 46 = .ok (.iload_n 1, 1) := by decide +kernel
theorem dX9_fails_47 : decode cX9_fails 47 = .ok (.iload_n 2, 1) := by decide +kernel
theorem dX9_fails_48 : decode cX9_fails 48 = .ok (.invokevirtual 175, 3) := by decide +kernel
theorem dX9_fails_51 : decode cX9_fails 51 = .ok (.ifCond .eq 7, 3) := by decide +kernel
theorem dX9_fails_54 : decode cX9_fails 54 = .ok (.iconst 1, 1) := by decide +kernel
theorem dX9_fails_55 : decode cX9_fails 55 = .ok (.goto 4, 3) := by decide +kernel
theorem dX9_fails_58 : decode cX9_fails 58 = .ok (.iconst 0, 1) := by decide +kernel
theorem dX9_fails_59 : decode cX9_fails 59 = .ok (.ireturn, 1) := by decide +kernel
theorem dX9_goes_0 : decode cX9_goes 0 = .ok (.aload_n 0, 1) := by decide +kernel
theorem dX9_goes_1 : decode cX9_goes 1 = .ok (.getfield 15, 3) := by decide +kernel
theorem dX9_goes_4 : decode cX9_goes 4 = .ok (.iload_n 1, 1) := by decide +kernel
theorem dX9_goes_5 : decode cX9_goes 5 = .ok (.iaload, 1) := by decide +kernel
theorem dX9_goes_6 : decode cX9_goes 6 = .ok (.istore_n 3, 1) := by decide +kernel
theorem dX9_goes_7 : decode cX9_goes 7 = .ok (.iload_n 1, 1) := by decide +kernel
theorem dX9_goes_8 : decode cX9_goes 8 = .ok (.istore 4, 2) := by decide +kernel
theorem dX9_goes_10 : decode cX9_goes 10 = .ok (.iload 4, 2) := by decide +kernel
theorem dX9_goes_12 : decode cX9_goes 12 = .ok (.iload_n 2, 1) := by decide +kernel
theorem dX9_goes_13 : decode cX9_goes 13 = .ok (.if_icmp .ge 25, 3) := by decide +kernel
theorem dX9_goes_16 : decode cX9_goes 16 = .ok (.aload_n 0, 1) := by decide +kernel
theorem dX9_goes_17 : decode cX9_goes 17 = .ok (.getfield 15, 3) := by decide +kernel
theorem dX9_goes_20 : decode cX9_goes 20 = .ok (.iload 4, 2) := by decide +kernel
theorem dX9_goes_22 : decode cX9_goes 22 = .ok (.aload_n 0, 1) := by decide +kernel
theorem dX9_goes_23 : decode cX9_goes 23 = .ok (.getfield 15, 3) := by decide +kernel
theorem dX9_goes_26 : decode cX9_goes 26 = .ok (.iload 4, 2) := by decide +kernel
theorem dX9_goes_28 : decode cX9_goes 28 = .ok (.iconst 1, 1) := by decide +kernel
theorem dX9_goes_29 : decode cX9_goes 29 = .ok (.iadd, 1) := by decide +kernel
theorem dX9_goes_30 : decode cX9_goes 30 = .ok (.iaload, 1) := by decide +kernel
theorem dX9_goes_31 : decode cX9_goes 31 = .ok (.iastore, 1) := by decide +kernel
theorem dX9_goes_32 : decode cX9_goes 32 = .ok (.iinc 4 1, 3) := by decide +kernel
theorem dX9_goes_35 : decode cX9_goes 35 = .ok (.goto (-25), 3) := by decide +kernel
theorem dX9_goes_38 : decode cX9_goes 38 = .ok (.iload_n 1, 1) := by decide +kernel
theorem dX9_goes_39 : decode cX9_goes 39 = .ok (.istore 4, 2) := by decide +kernel
theorem dX9_goes_41 : decode cX9_goes 41 = .ok (.iload 4, 2) := by decide +kernel
theorem dX9_goes_43 : decode cX9_goes 43 = .ok (.iload_n 2, 1) := by decide +kernel
theorem dX9_goes_44 : decode cX9_goes 44 = .ok (.if_icmp .le 25, 3) := by decide +kernel
theorem dX9_goes_47 : decode cX9_goes 47 = .ok (.aload_n 0, 1) := by decide +kernel
theorem dX9_goes_48 : decode cX9_goes 48 = .ok (.getfield 15, 3) := by decide +kernel
theorem dX9_goes_51 : decode cX9_goes 51 = .ok (.iload 4, 2) := by decide +kernel
theorem dX9_goes_53 : decode cX9_goes 53 = .ok (.aload_n 0, 1) := by decide +kernel
