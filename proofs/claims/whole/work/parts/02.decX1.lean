theorem dX3_ifFails_14 : decode cX3_ifFails 14 = .ok (.lload_n 0, 1) := by decide +kernel
theorem dX3_ifFails_15 : decode cX3_ifFails 15 = .ok (.getstatic 90, 3) := by decide +kernel
theorem dX3_ifFails_18 : decode cX3_ifFails 18 = .ok (.iload_n 2, 1) := by decide +kernel
theorem dX3_ifFails_19 : decode cX3_ifFails 19 = .ok (.laload, 1) := by decide +kernel
theorem dX3_ifFails_20 : decode cX3_ifFails 20 = .ok (.land, 1) := by decide +kernel
theorem dX3_ifFails_21 : decode cX3_ifFails 21 = .ok (.lstore_n 3, 1) := by decide +kernel
theorem dX3_ifFails_22 : decode cX3_ifFails 22 = .ok (.lload_n 3, 1) := by decide +kernel
theorem dX3_ifFails_23 : decode cX3_ifFails 23 = .ok (.lload_n 3, 1) := by decide +kernel
theorem dX3_ifFails_24 : decode cX3_ifFails 24 = .ok (.iconst 1, 1) := by decide +kernel
theorem dX3_ifFails_25 : decode cX3_ifFails 25 = .ok (.iload_n 2, 1) := by decide +kernel
theorem dX3_ifFails_26 : decode cX3_ifFails 26 = .ok (.ishl, 1) := by decide +kernel
theorem dX3_ifFails_27 : decode cX3_ifFails 27 = .ok (.lushr, 1) := by decide +kernel
theorem dX3_ifFails_28 : decode cX3_ifFails 28 = .ok (.lor, 1) := by decide +kernel
theorem dX3_ifFails_29 : decode cX3_ifFails 29 = .ok (.lreturn, 1) := by decide +kernel
theorem dX3_copyFrom_0 : decode cX3_copyFrom 0 = .ok (.aload_n 1, 1) := by decide +kernel
theorem dX3_copyFrom_1 : decode cX3_copyFrom 1 = .ok (.getfield 9, 3) := by decide +kernel
theorem dX3_copyFrom_4 : decode cX3_copyFrom 4 = .ok (.iconst 0, 1) := by decide +kernel
theorem dX3_copyFrom_5 : decode cX3_copyFrom 5 = .ok (.aload_n 0, 1) := by decide +kernel
theorem dX3_copyFrom_6 : decode cX3_copyFrom 6 = .ok (.getfield 9, 3) := by decide +kernel
theorem dX3_copyFrom_9 : decode cX3_copyFrom 9 = .ok (.iconst 0, 1) := by decide +kernel
theorem dX3_copyFrom_10 : decode cX3_copyFrom 10 = .ok (.bipush 6, 2) := by decide +kernel
theorem dX3_copyFrom_12 : decode cX3_copyFrom 12 = .ok (.invokestatic 93, 3) := by decide +kernel
theorem dX3_copyFrom_15 : decode cX3_copyFrom 15 = .ok (.aload_n 1, 1) := by decide +kernel
theorem dX3_copyFrom_16 : decode cX3_copyFrom 16 = .ok (.getfield 15, 3) := by decide +kernel
theorem dX3_copyFrom_19 : decode cX3_copyFrom 19 = .ok (.iconst 0, 1) := by decide +kernel
theorem dX3_copyFrom_20 : decode cX3_copyFrom 20 = .ok (.aload_n 0, 1) := by decide +kernel
theorem dX3_copyFrom_21 : decode cX3_copyFrom 21 = .ok (.getfield 15, 3) := by decide +kernel
theorem dX3_copyFrom_24 : decode cX3_copyFrom 24 = .ok (.iconst 0, 1) := by decide +kernel
theorem dX3_copyFrom_25 : decode cX3_copyFrom 25 = .ok (.bipush 6, 2) := by decide +kernel
theorem dX3_copyFrom_27 : decode cX3_copyFrom 27 = .ok (.invokestatic 93, 3) := by decide +kernel
theorem dX3_copyFrom_30 : decode cX3_copyFrom 30 = .ok (.aload_n 0, 1) := by decide +kernel
theorem dX3_copyFrom_31 : decode cX3_copyFrom 31 = .ok (.aload_n 1, 1) := by decide +kernel
theorem dX3_copyFrom_32 : decode cX3_copyFrom 32 = .ok (.getfield 47, 3) := by decide +kernel
theorem dX3_copyFrom_35 : decode cX3_copyFrom 35 = .ok (.putfield 47, 3) := by decide +kernel
theorem dX3_copyFrom_38 : decode cX3_copyFrom 38 = .ok (.aload_n 1, 1) := by decide +kernel
theorem dX3_copyFrom_39 : decode cX3_copyFrom 39 = .ok (.getfield 18, 3) := by decide +kernel
theorem dX3_copyFrom_42 : decode cX3_copyFrom 42 = .ok (.iconst 0, 1) := by decide +kernel
theorem dX3_copyFrom_43 : decode cX3_copyFrom 43 = .ok (.aload_n 0, 1) := by decide +kernel
theorem dX3_copyFrom_44 : decode cX3_copyFrom 44 = .ok (.getfield 18, 3) := by decide +kernel
theorem dX3_copyFrom_47 : decode cX3_copyFrom 47 = .ok (.iconst 0, 1) := by decide +kernel
theorem dX3_copyFrom_48 : decode cX3_copyFrom 48 = .ok (.bipush 8, 2) := by decide +kernel
theorem dX3_copyFrom_50 : decode cX3_copyFrom 50 = .ok (.invokestatic 93, 3) := by decide +kernel
theorem dX3_copyFrom_53 : decode cX3_copyFrom 53 = .ok (.aload_n 1, 1) := by decide +kernel
theorem dX3_copyFrom_54 : decode cX3_copyFrom 54 = .ok (.getfield 21, 3) := by decide +kernel
theorem dX3_copyFrom_57 : decode cX3_copyFrom 57 = .ok (.iconst 0, 1) := by decide +kernel
theorem dX3_copyFrom_58 : decode cX3_copyFrom 58 = .ok (.aload_n 0, 1) := by decide +kernel
theorem dX3_copyFrom_59 : decode cX3_copyFrom 59 = .ok (.getfield 21, 3) := by decide +kernel
theorem dX3_copyFrom_62 : decode cX3_copyFrom 62 = .ok (.iconst 0, 1) := by decide +kernel
theorem dX3_copyFrom_63 : decode cX3_copyFrom 63 = .ok (.bipush 8, 2) := by decide +kernel
theorem dX3_copyFrom_65 : decode cX3_copyFrom 65 = .ok (.invokestatic 93, 3) := by decide +kernel
theorem dX3_copyFrom_68 : decode cX3_copyFrom 68 = .ok (.aload_n 1, 1) := by decide +kernel
theorem dX3_copyFrom_69 : decode cX3_copyFrom 69 = .ok (.getfield 24, 3) := by decide +kernel
theorem dX3_copyFrom_72 : decode cX3_copyFrom 72 = .ok (.iconst 0, 1) := by decide +kernel
theorem dX3_copyFrom_73 : decode cX3_copyFrom 73 = .ok (.aload_n 0, 1) := by decide +kernel
theorem dX3_copyFrom_74 : decode cX3_copyFrom 74 = .ok (.getfield 24, 3) := by decide +kernel
theorem dX3_copyFrom_77 : decode cX3_copyFrom 77 = .ok (.iconst 0, 1) := by decide +kernel
theorem dX3_copyFrom_78 : decode cX3_copyFrom 78 = .ok (.bipush 32, 2) := by decide +kernel
theorem dX3_copyFrom_80 : decode cX3_copyFrom 80 = .ok (.invokestatic 93, 3) := by decide +kernel
theorem dX3_copyFrom_83 : decode cX3_copyFrom 83 = .ok (.aload_n 1, 1) := by decide +kernel
theorem dX3_copyFrom_84 : decode cX3_copyFrom 84 = .ok (.getfield 27, 3) := by decide +kernel
theorem dX3_copyFrom_87 : decode cX3_copyFrom 87 = .ok (.iconst 0, 1) := by decide +kernel
theorem dX3_copyFrom_88 : decode cX3_copyFrom 88 = .ok (.aload_n 0, 1) := by decide +kernel
theorem dX3_copyFrom_89 : decode cX3_copyFrom 89 = .ok (.getfield 27, 3) := by decide +kernel
theorem dX3_copyFrom_92 : decode cX3_copyFrom 92 = .ok (.iconst 0, 1) := by decide +kernel
theorem dX3_copyFrom_93 : decode cX3_copyFrom 93 = .ok (.bipush 8, 2) := by decide +kernel
theorem dX3_copyFrom_95 : decode cX3_copyFrom 95 = .ok (.invokestatic 93, 3) := by decide +kernel
theorem dX3_copyFrom_98 : decode cX3_copyFrom 98 = .ok (.aload_n 0, 1) := by decide +kernel
theorem dX3_copyFrom_99 : decode cX3_copyFrom 99 = .ok (.aload_n 1, 1) := by decide +kernel
theorem dX3_copyFrom_100 : decode cX3_copyFrom 100 = .ok (.getfield 54, 3) := by decide +kernel
theorem dX3_copyFrom_103 : decode cX3_copyFrom 103 = .ok (.putfield 54, 3) := by decide +kernel
theorem dX3_copyFrom_106 : decode cX3_copyFrom 106 = .ok (.aload_n 0, 1) := by decide +kernel
theorem dX3_copyFrom_107 : decode cX3_copyFrom 107 = .ok (.aload_n 1, 1) := by decide +kernel
theorem dX3_copyFrom_108 : decode cX3_copyFrom 108 = .ok (.getfield 30, 3) := by decide +kernel
theorem dX3_copyFrom_111 : decode cX3_copyFrom 111 = .ok (.putfield 30, 3) := by decide +kernel
theorem dX3_copyFrom_114 : decode cX3_copyFrom 114 = .ok (.aload_n 1, 1) := by decide +kernel
theorem dX3_copyFrom_115 : decode cX3_copyFrom 115 = .ok (.getfield 34, 3) := by decide +kernel
theorem dX3_copyFrom_118 : decode cX3_copyFrom 118 = .ok (.iconst 0, 1) := by decide +kernel
theorem dX3_copyFrom_119 : decode cX3_copyFrom 119 = .ok (.aload_n 0, 1) := by decide +kernel
theorem dX3_copyFrom_120 : decode cX3_copyFrom 120 = .ok (.getfield 34, 3) := by decide +kernel
theorem dX3_copyFrom_123 : decode cX3_copyFrom 123 = .ok (.iconst 0, 1) := by decide +kernel
theorem dX3_copyFrom_124 : decode cX3_copyFrom 124 = .ok (.iconst 3, 1) := by decide +kernel
theorem dX3_copyFrom_125 : decode cX3_copyFrom 125 = .ok (.invokestatic 93, 3) := by decide +kernel
theorem dX3_copyFrom_128 : decode cX3_copyFrom 128 = .ok (.aload_n 1, 1) := by decide +kernel
theorem dX3_copyFrom_129 : decode cX3_copyFrom 129 = .ok (.getfield 37, 3) := by decide +kernel
theorem dX3_copyFrom_132 : decode cX3_copyFrom 132 = .ok (.iconst 0, 1) := by decide +kernel
theorem dX3_copyFrom_133 : decode cX3_copyFrom 133 = .ok (.aload_n 0, 1) := by decide +kernel
theorem dX3_copyFrom_134 : decode cX3_copyFrom 134 = .ok (.getfield 37, 3) := by decide +kernel
theorem dX3_copyFrom_137 : decode cX3_copyFrom 137 = .ok (.iconst 0, 1) := by decide +kernel
theorem dX3_copyFrom_138 : decode cX3_copyFrom 138 = .ok (.iconst 3, 1) := by decide +kernel
theorem dX3_copyFrom_139 : decode cX3_copyFrom 139 = .ok (.invokestatic 93, 3) := by decide +kernel
theorem dX3_copyFrom_142 : decode cX3_copyFrom 142 = .ok (.aload_n 0, 1) := by decide +kernel
theorem dX3_copyFrom_143 : decode cX3_copyFrom 143 = .ok (.aload_n 1, 1) := by decide +kernel
theorem dX3_copyFrom_144 : decode cX3_copyFrom 144 = .ok (.getfield 57, 3) := by decide +kernel
theorem dX3_copyFrom_147 : decode cX3_copyFrom 147 = .ok (.putfield 57, 3) := by decide +kernel
theorem dX3_copyFrom_150 : decode cX3_copyFrom 150 = .ok (.return_, 1) := by decide +kernel
theorem dX4_init_0 : decode cX4_init 0 = .ok (.aload_n 0, 1) := by decide +kernel
theorem dX4_init_1 : decode cX4_init 1 = .ok (.invokespecial 3, 3) := by decide +kernel
theorem dX4_init_4 : decode cX4_init 4 = .ok (.iload_n 1, 1) := by decide +kernel
theorem dX4_init_5 : decode cX4_init 5 = .ok (.iconst 0, 1) := by decide +kernel
theorem dX4_init_6 : decode cX4_init 6 = .ok (.invokestatic 9, 3) := by decide +kernel
theorem dX4_init_9 : decode cX4_init 9 = .ok (.istore_n 2, 1) := by decide +kernel
theorem dX4_init_10 : decode cX4_init 10 = .ok (.aload_n 0, 1) := by decide +kernel
theorem dX4_init_11 : decode cX4_init 11 = .ok (.iload_n 2, 1) := by decide +kernel
theorem dX4_init_12 : decode cX4_init 12 = .ok (.newarray .int, 2) := by decide +kernel
theorem dX4_init_14 : decode cX4_init 14 = .ok (.putfield 15, 3) := by decide +kernel
theorem dX4_init_17 : decode cX4_init 17 = .ok (.aload_n 0, 1) := by decide +kernel
theorem dX4_init_18 : decode cX4_init 18 = .ok (.iload_n 2, 1) := by decide +kernel
theorem dX4_init_19 : decode cX4_init 19 = .ok (.newarray .int, 2) := by decide +kernel
theorem dX4_init_21 : decode cX4_init 21 = .ok (.putfield 21, 3) := by decide +kernel
theorem dX4_init_24 : decode cX4_init 24 = .ok (.return_, 1) := by decide +kernel
theorem dX4_add_0 : decode cX4_add 0 = .ok (.aload_n 0, 1) := by decide +kernel
theorem dX4_add_1 : decode cX4_add 1 = .ok (.getfield 24, 3) := by decide +kernel
theorem dX4_add_4 : decode cX4_add 4 = .ok (.aload_n 0, 1) := by decide +kernel
theorem dX4_add_5 : decode cX4_add 5 = .ok (.getfield 15, 3) := by decide +kernel
theorem dX4_add_8 : decode cX4_add 8 = .ok (.arraylength, 1) := by decide +kernel
theorem dX4_add_9 : decode cX4_add 9 = .ok (.if_icmp .lt 6, 3) := by decide +kernel
theorem dX4_add_12 : decode cX4_add 12 = .ok (.bipush (-4), 2) := by decide +kernel
theorem dX4_add_14 : decode cX4_add 14 = .ok (.ireturn, 1) := by decide +kernel
theorem dX4_add_15 : decode cX4_add 15 = .ok (.aload_n 0, 1) := by decide +kernel
theorem dX4_add_16 : decode cX4_add 16 = .ok (.getfield 15, 3) := by decide +kernel
theorem dX4_add_19 : decode cX4_add 19 = .ok (.aload_n 0, 1) := by decide +kernel
theorem dX4_add_20 : decode cX4_add 20 = .ok (.getfield 24, 3) := by decide +kernel
theorem dX4_add_23 : decode cX4_add 23 = .ok (.iload_n 1, 1) := by decide +kernel
theorem dX4_add_24 : decode cX4_add 24 = .ok (.iastore, 1) := by decide +kernel
theorem dX4_add_25 : decode cX4_add 25 = .ok (.aload_n 0, 1) := by decide +kernel
theorem dX4_add_26 : decode cX4_add 26 = .ok (.getfield 21, 3) := by decide +kernel
theorem dX4_add_29 : decode cX4_add 29 = .ok (.aload_n 0, 1) := by decide +kernel
theorem dX4_add_30 : decode cX4_add 30 = .ok (.getfield 24, 3) := by decide +kernel
theorem dX4_add_33 : decode cX4_add 33 = .ok (.iload_n 2, 1) := by decide +kernel
theorem dX4_add_34 : decode cX4_add 34 = .ok (.iastore, 1) := by decide +kernel
theorem dX4_add_35 : decode cX4_add 35 = .ok (.aload_n 0, 1) := by decide +kernel
theorem dX4_add_36 : decode cX4_add 36 = .ok (.dup, 1) := by decide +kernel
theorem dX4_add_37 : decode cX4_add 37 = .ok (.getfield 24, 3) := by decide +kernel
theorem dX4_add_40 : decode cX4_add 40 = .ok (.iconst 1, 1) := by decide +kernel
theorem dX4_add_41 : decode cX4_add 41 = .ok (.iadd, 1) := by decide +kernel
theorem dX4_add_42 : decode cX4_add 42 = .ok (.putfield 24, 3) := by decide +kernel
theorem dX4_add_45 : decode cX4_add 45 = .ok (.aload_n 0, 1) := by decide +kernel
theorem dX4_add_46 : decode cX4_add 46 = .ok (.getfield 24, 3) := by decide +kernel
theorem dX4_add_49 : decode cX4_add 49 = .ok (.ireturn, 1) := by decide +kernel
theorem dX4_empty_0 : decode cX4_empty 0 = .ok (.aload_n 0, 1) := by decide +kernel
theorem dX4_empty_1 : decode cX4_empty 1 = .ok (.iconst 0, 1) := by decide +kernel
theorem dX4_empty_2 : decode cX4_empty 2 = .ok (.putfield 24, 3) := by decide +kernel
theorem dX4_empty_5 : decode cX4_empty 5 = .ok (.iconst 0, 1) := by decide +kernel
theorem dX4_empty_6 : decode cX4_empty 6 = .ok (.ireturn, 1) := by decide +kernel
theorem dX4_copyFrom_0 : decode cX4_copyFrom 0 = .ok (.aload_n 0, 1) := by decide +kernel
theorem dX4_copyFrom_1 : decode cX4_copyFrom 1 = .ok (.aload_n 1, 1) := by decide +kernel
theorem dX4_copyFrom_2 : decode cX4_copyFrom 2 = .ok (.getfield 24, 3) := by decide +kernel
theorem dX4_copyFrom_5 : decode cX4_copyFrom 5 = .ok (.aload_n 0, 1) := by decide +kernel
theorem dX4_copyFrom_6 : decode cX4_copyFrom 6 = .ok (.getfield 15, 3) := by decide +kernel
theorem dX4_copyFrom_9 : decode cX4_copyFrom 9 = .ok (.arraylength, 1) := by decide +kernel
theorem dX4_copyFrom_10 : decode cX4_copyFrom 10 = .ok (.invokestatic 28, 3) := by decide +kernel
theorem dX4_copyFrom_13 : decode cX4_copyFrom 13 = .ok (.putfield 24, 3) := by decide +kernel
theorem dX4_copyFrom_16 : decode cX4_copyFrom 16 = .ok (.aload_n 1, 1) := by decide +kernel
theorem dX4_copyFrom_17 : decode cX4_copyFrom 17 = .ok (.getfield 15, 3) := by decide +kernel
theorem dX4_copyFrom_20 : decode cX4_copyFrom 20 = .ok (.iconst 0, 1) := by decide +kernel
theorem dX4_copyFrom_21 : decode cX4_copyFrom 21 = .ok (.aload_n 0, 1) := by decide +kernel
theorem dX4_copyFrom_22 : decode cX4_copyFrom 22 = .ok (.getfield 15, 3) := by decide +kernel
theorem dX4_copyFrom_25 : decode cX4_copyFrom 25 = .ok (.iconst 0, 1) := by decide +kernel
theorem dX4_copyFrom_26 : decode cX4_copyFrom 26 = .ok (.aload_n 0, 1) := by decide +kernel
theorem dX4_copyFrom_27 : decode cX4_copyFrom 27 = .ok (.getfield 24, 3) := by decide +kernel
theorem dX4_copyFrom_30 : decode cX4_copyFrom 30 = .ok (.invokestatic 31, 3) := by decide +kernel
theorem dX4_copyFrom_33 : decode cX4_copyFrom 33 = .ok (.aload_n 1, 1) := by decide +kernel
theorem dX4_copyFrom_34 : decode cX4_copyFrom 34 = .ok (.getfield 21, 3) := by decide +kernel
theorem dX4_copyFrom_37 : decode cX4_copyFrom 37 = .ok (.iconst 0, 1) := by decide +kernel
theorem dX4_copyFrom_38 : decode cX4_copyFrom 38 = .ok (.aload_n 0, 1) := by decide +kernel
theorem dX4_copyFrom_39 : decode cX4_copyFrom 39 = .ok (.getfield 21, 3) := by decide +kernel
theorem dX4_copyFrom_42 : decode cX4_copyFrom 42 = .ok (.iconst 0, 1) := by decide +kernel
theorem dX4_copyFrom_43 : decode cX4_copyFrom 43 = .ok (.aload_n 0, 1) := by decide +kernel
theorem dX4_copyFrom_44 : decode cX4_copyFrom 44 = .ok (.getfield 24, 3) := by decide +kernel
theorem dX4_copyFrom_47 : decode cX4_copyFrom 47 = .ok (.invokestatic 31, 3) := by decide +kernel
theorem dX4_copyFrom_50 : decode cX4_copyFrom 50 = .ok (.return_, 1) := by decide +kernel
theorem dX5_init_0 : decode cX5_init 0 = .ok (.aload_n 0, 1) := by decide +kernel
theorem dX5_init_1 : decode cX5_init 1 = .ok (.invokespecial 3, 3) := by decide +kernel
theorem dX5_init_4 : decode cX5_init 4 = .ok (.aload_n 0, 1) := by decide +kernel
theorem dX5_init_5 : decode cX5_init 5 = .ok (.bipush 16, 2) := by decide +kernel
theorem dX5_init_7 : decode cX5_init 7 = .ok (.newarray .int, 2) := by decide +kernel
theorem dX5_init_9 : decode cX5_init 9 = .ok (.putfield 11, 3) := by decide +kernel
theorem dX5_init_12 : decode cX5_init 12 = .ok (.aload_n 0, 1) := by decide +kernel
theorem dX5_init_13 : decode cX5_init 13 = .ok (.bipush 16, 2) := by decide +kernel
theorem dX5_init_15 : decode cX5_init 15 = .ok (.newarray .int, 2) := by decide +kernel
theorem dX5_init_17 : decode cX5_init 17 = .ok (.putfield 15, 3) := by decide +kernel
theorem dX5_init_20 : decode cX5_init 20 = .ok (.aload_n 0, 1) := by decide +kernel
theorem dX5_init_21 : decode cX5_init 21 = .ok (.bipush 16, 2) := by decide +kernel
theorem dX5_init_23 : decode cX5_init 23 = .ok (.newarray .int, 2) := by decide +kernel
theorem dX5_init_25 : decode cX5_init 25 = .ok (.putfield 18, 3) := by decide +kernel
theorem dX5_init_28 : decode cX5_init 28 = .ok (.aload_n 0, 1) := by decide +kernel
theorem dX5_init_29 : decode cX5_init 29 = .ok (.bipush 100, 2) := by decide +kernel
theorem dX5_init_31 : decode cX5_init 31 = .ok (.newarray .byte, 2) := by decide +kernel
theorem dX5_init_33 : decode cX5_init 33 = .ok (.putfield 21, 3) := by decide +kernel
theorem dX5_init_36 : decode cX5_init 36 = .ok (.return_, 1) := by decide +kernel
theorem dX5_addSign_0 : decode cX5_addSign 0 = .ok (.aload_n 0, 1) := by decide +kernel
theorem dX5_addSign_1 : decode cX5_addSign 1 = .ok (.getfield 25, 3) := by decide +kernel
theorem dX5_addSign_4 : decode cX5_addSign 4 = .ok (.bipush 100, 2) := by decide +kernel
theorem dX5_addSign_6 : decode cX5_addSign 6 = .ok (.if_icmp .lt 6, 3) := by decide +kernel
theorem dX5_addSign_9 : decode cX5_addSign 9 = .ok (.bipush (-4), 2) := by decide +kernel
theorem dX5_addSign_11 : decode cX5_addSign 11 = .ok (.ireturn, 1) := by decide +kernel
theorem dX5_addSign_12 : decode cX5_addSign 12 = .ok (.aload_n 0, 1) := by decide +kernel
theorem dX5_addSign_13 : decode cX5_addSign 13 = .ok (.getfield 21, 3) := by decide +kernel
theorem dX5_addSign_16 : decode cX5_addSign 16 = .ok (.aload_n 0, 1) := by decide +kernel
theorem dX5_addSign_17 : decode cX5_addSign 17 = .ok (.getfield 25, 3) := by decide +kernel
theorem dX5_addSign_20 : decode cX5_addSign 20 = .ok (.iload_n 1, 1) := by decide +kernel
theorem dX5_addSign_21 : decode cX5_addSign 21 = .ok (.i2b, 1) := by decide +kernel
theorem dX5_addSign_22 : decode cX5_addSign 22 = .ok (.bastore, 1) := by decide +kernel
theorem dX5_addSign_23 : decode cX5_addSign 23 = .ok (.aload_n 0, 1) := by decide +kernel
theorem dX5_addSign_24 : decode cX5_addSign 24 = .ok (.dup, 1) := by decide +kernel
theorem dX5_addSign_25 : decode cX5_addSign 25 = .ok (.getfield 25, 3) := by decide +kernel
theorem dX5_addSign_28 : decode cX5_addSign 28 = .ok (.iconst 1, 1) := by decide +kernel
theorem dX5_addSign_29 : decode cX5_addSign 29 = .ok (.iadd, 1) := by decide +kernel
theorem dX5_addSign_30 : decode cX5_addSign 30 = .ok (.putfield 25, 3) := by decide +kernel
theorem dX5_addSign_33 : decode cX5_addSign 33 = .ok (.aload_n 0, 1) := by decide +kernel
theorem dX5_addSign_34 : decode cX5_addSign 34 = .ok (.getfield 25, 3) := by decide +kernel
theorem dX5_addSign_37 : decode cX5_addSign 37 = .ok (.ireturn, 1) := by decide +kernel
theorem dX5_parse_0 : decode cX5_parse 0 = .ok (.aload_n 0, 1) := by decide +kernel
theorem dX5_parse_1 : decode cX5_parse 1 = .ok (.iconst 0, 1) := by decide +kernel
theorem dX5_parse_2 : decode cX5_parse 2 = .ok (.putfield 29, 3) := by decide +kernel
theorem dX5_parse_5 : decode cX5_parse 5 = .ok (.aload_n 0, 1) := by decide +kernel
theorem dX5_parse_6 : decode cX5_parse 6 = .ok (.iconst 0, 1) := by decide +kernel
theorem dX5_parse_7 : decode cX5_parse 7 = .ok (.putfield 32, 3) := by decide +kernel
theorem dX5_parse_10 : decode cX5_parse 10 = .ok (.iconst 0, 1) := by decide +kernel
theorem dX5_parse_11 : decode cX5_parse 11 = .ok (.istore_n 1, 1) := by decide +kernel
theorem dX5_parse_12 : decode cX5_parse 12 = .ok (.iload_n 1, 1) := by decide +kernel
theorem dX5_parse_13 : decode cX5_parse 13 = .ok (.bipush 16, 2) := by decide +kernel
theorem dX5_parse_15 : decode cX5_parse 15 = .ok (.if_icmp .ge 48, 3) := by decide +kernel
theorem dX5_parse_18 : decode cX5_parse 18 = .ok (.aload_n 0, 1) := by decide +kernel
theorem dX5_parse_19 : decode cX5_parse 19 = .ok (.invokevirtual 35, 3) := by decide +kernel
theorem dX5_parse_22 : decode cX5_parse 22 = .ok (.ifCond .ne 5, 3) := by decide +kernel
theorem dX5_parse_25 : decode cX5_parse 25 = .ok (.iconst 0, 1) := by decide +kernel
theorem dX5_parse_26 : decode cX5_parse 26 = .ok (.ireturn, 1) := by decide +kernel
theorem dX5_parse_27 : decode cX5_parse 27 = .ok (.aload_n 0, 1) := by decide +kernel
theorem dX5_parse_28 : decode cX5_parse 28 = .ok (.getfield 29, 3) := by decide +kernel
theorem dX5_parse_31 : decode cX5_parse 31 = .ok (.aload_n 0, 1) := by decide +kernel
theorem dX5_parse_32 : decode cX5_parse 32 = .ok (.getfield 25, 3) := by decide +kernel
theorem dX5_parse_35 : decode cX5_parse 35 = .ok (.if_icmp .lt 5, 3) := by decide +kernel
theorem dX5_parse_38 : decode cX5_parse 38 = .ok (.iconst 1, 1) := by decide +kernel
theorem dX5_parse_39 : decode cX5_parse 39 = .ok (.ireturn, 1) := by decide +kernel
theorem dX5_parse_40 : decode cX5_parse 40 = .ok (.iload_n 1, 1) := by decide +kernel
theorem dX5_parse_41 : decode cX5_parse 41 = .ok (.bipush 15, 2) := by decide +kernel
theorem dX5_parse_43 : decode cX5_parse 43 = .ok (.if_icmp .eq 12, 3) := by decide +kernel
theorem dX5_parse_46 : decode cX5_parse 46 = .ok (.aload_n 0, 1) := by decide +kernel
theorem dX5_parse_47 : decode cX5_parse 47 = .ok (.bipush 59, 2) := by decide +kernel
theorem dX5_parse_49 : decode cX5_parse 49 = .ok (.invokevirtual 39, 3) := by decide +kernel
theorem dX5_parse_52 : decode cX5_parse 52 = .ok (.ifCond .ne 5, 3) := by decide +kernel
theorem dX5_parse_55 : decode cX5_parse 55 = .ok (.iconst 0, 1) := by decide +kernel
theorem dX5_parse_56 : decode cX5_parse 56 = .ok (.ireturn, 1) := by decide +kernel
theorem dX5_parse_57 : decode cX5_parse 57 = .ok (.iinc 1 1, 3) := by decide +kernel
theorem dX5_parse_60 : decode cX5_parse 60 = .ok (.goto (-48), 3) := by decide +kernel
theorem dX5_parse_63 : decode cX5_parse 63 = .ok (.iconst 0, 1) := by decide +kernel
theorem dX5_parse_64 : decode cX5_parse 64 = .ok (.ireturn, 1) := by decide +kernel
theorem dX5_parseClause_0 : decode cX5_parseClause 0 = .ok (.aload_n 0, 1) := by decide +kernel
theorem dX5_parseClause_1 : decode cX5_parseClause 1 = .ok (.bipush 112, 2) := by decide +kernel
theorem dX5_parseClause_3 : decode cX5_parseClause 3 = .ok (.invokevirtual 39, 3) := by decide +kernel
theorem dX5_parseClause_6 : decode cX5_parseClause 6 = .ok (.ifCond .eq 15, 3) := by decide +kernel
theorem dX5_parseClause_9 : decode cX5_parseClause 9 = .ok (.aload_n 0, 1) := by decide +kernel
theorem dX5_parseClause_10 : decode cX5_parseClause 10 = .ok (.iconst 0, 1) := by decide +kernel
theorem dX5_parseClause_11 : decode cX5_parseClause 11 = .ok (.aload_n 0, 1) := by decide +kernel
theorem dX5_parseClause_12 : decode cX5_parseClause 12 = .ok (.iconst 3, 1) := by decide +kernel
theorem dX5_parseClause_13 : decode cX5_parseClause 13 = .ok (.invokevirtual 43, 3) := by decide +kernel
theorem dX5_parseClause_16 : decode cX5_parseClause 16 = .ok (.iconst 0, 1) := by decide +kernel
theorem dX5_parseClause_17 : decode cX5_parseClause 17 = .ok (.invokevirtual 47, 3) := by decide +kernel
theorem dX5_parseClause_20 : decode cX5_parseClause 20 = .ok (.ireturn, 1) := by decide +kernel
theorem dX5_parseClause_21 : decode cX5_parseClause 21 = .ok (.aload_n 0, 1) := by decide +kernel
theorem dX5_parseClause_22 : decode cX5_parseClause 22 = .ok (.bipush 97, 2) := by decide +kernel
theorem dX5_parseClause_24 : decode cX5_parseClause 24 = .ok (.invokevirtual 39, 3) := by decide +kernel
theorem dX5_parseClause_27 : decode cX5_parseClause 27 = .ok (.ifCond .eq 11, 3) := by decide +kernel
theorem dX5_parseClause_30 : decode cX5_parseClause 30 = .ok (.aload_n 0, 1) := by decide +kernel
theorem dX5_parseClause_31 : decode cX5_parseClause 31 = .ok (.iconst 1, 1) := by decide +kernel
theorem dX5_parseClause_32 : decode cX5_parseClause 32 = .ok (.iconst 0, 1) := by decide +kernel
theorem dX5_parseClause_33 : decode cX5_parseClause 33 = .ok (.iconst 0, 1) := by decide +kernel
theorem dX5_parseClause_34 : decode cX5_parseClause 34 = .ok (.invokevirtual 47, 3) := by decide +kernel
theorem dX5_parseClause_37 : decode cX5_parseClause 37 = .ok (.ireturn, 1) := by decide +kernel
theorem dX5_parseClause_38 : decode cX5_parseClause 38 = .ok (.aload_n 0, 1) := by decide +kernel
theorem dX5_parseClause_39 : decode cX5_parseClause 39 = .ok (.bipush 111, 2) := by decide +kernel
theorem dX5_parseClause_41 : decode cX5_parseClause 41 = .ok (.invokevirtual 39, 3) := by decide +kernel
theorem dX5_parseClause_44 : decode cX5_parseClause 44 = .ok (.ifCond .eq 11, 3) := by decide +kernel
theorem dX5_parseClause_47 : decode cX5_parseClause 47 = .ok (.aload_n 0, 1) := by decide +kernel
theorem dX5_parseClause_48 : decode cX5_parseClause 48 = .ok (.iconst 1, 1) := by decide +kernel
theorem dX5_parseClause_49 : decode cX5_parseClause 49 = .ok (.iconst 1, 1) := by decide +kernel
theorem dX5_parseClause_50 : decode cX5_parseClause 50 = .ok (.iconst 0, 1) := by decide +kernel
theorem dX5_parseClause_51 : decode cX5_parseClause 51 = .ok (.invokevirtual 47, 3) := by decide +kernel
theorem dX5_parseClause_54 : decode cX5_parseClause 54 = .ok (.ireturn, 1) := by decide +kernel
theorem dX5_parseClause_55 : decode cX5_parseClause 55 = .ok (.aload_n 0, 1) := by decide +kernel
theorem dX5_parseClause_56 : decode cX5_parseClause 56 = .ok (.bipush 115, 2) := by decide +kernel
theorem dX5_parseClause_58 : decode cX5_parseClause 58 = .ok (.invokevirtual 39, 3) := by decide +kernel
theorem dX5_parseClause_61 : decode cX5_parseClause 61 = .ok (.ifCond .eq 15, 3) := by decide +kernel
theorem dX5_parseClause_64 : decode cX5_parseClause 64 = .ok (.aload_n 0, 1) := by decide +kernel
theorem dX5_parseClause_65 : decode cX5_parseClause 65 = .ok (.iconst 1, 1) := by decide +kernel
theorem dX5_parseClause_66 : decode cX5_parseClause 66 = .ok (.iconst 2, 1) := by decide +kernel
theorem dX5_parseClause_67 : decode cX5_parseClause 67 = .ok (.aload_n 0, 1) := by decide +kernel
theorem dX5_parseClause_68 : decode cX5_parseClause 68 = .ok (.iconst 1, 1) := by decide +kernel
theorem dX5_parseClause_69 : decode cX5_parseClause 69 = .ok (.invokevirtual 43, 3) := by decide +kernel
theorem dX5_parseClause_72 : decode cX5_parseClause 72 = .ok (.invokevirtual 47, 3) := by decide +kernel
theorem dX5_parseClause_75 : decode cX5_parseClause 75 = .ok (.ireturn, 1) := by decide +kernel
theorem dX5_parseClause_76 : decode cX5_parseClause 76 = .ok (.aload_n 0, 1) := by decide +kernel
theorem dX5_parseClause_77 : decode cX5_parseClause 77 = .ok (.bipush 106, 2) := by decide +kernel
theorem dX5_parseClause_79 : decode cX5_parseClause 79 = .ok (.invokevirtual 39, 3) := by decide +kernel
theorem dX5_parseClause_82 : decode cX5_parseClause 82 = .ok (.ifCond .eq 8, 3) := by decide +kernel
theorem dX5_parseClause_85 : decode cX5_parseClause 85 = .ok (.aload_n 0, 1) := by decide +kernel
theorem dX5_parseClause_86 : decode cX5_parseClause 86 = .ok (.invokevirtual 51, 3) := by decide +kernel
theorem dX5_parseClause_89 : decode cX5_parseClause 89 = .ok (.ireturn, 1) := by decide +kernel
theorem dX5_parseClause_90 : decode cX5_parseClause 90 = .ok (.aload_n 0, 1) := by decide +kernel
theorem dX5_parseClause_91 : decode cX5_parseClause 91 = .ok (.bipush 99, 2) := by decide +kernel
theorem dX5_parseClause_93 : decode cX5_parseClause 93 = .ok (.invokevirtual 39, 3) := by decide +kernel
theorem dX5_parseClause_96 : decode cX5_parseClause 96 = .ok (.ifCond .eq 14, 3) := by decide +kernel
theorem dX5_parseClause_99 : decode cX5_parseClause 99 = .ok (.aload_n 0, 1) := by decide +kernel
theorem dX5_parseClause_100 : decode cX5_parseClause 100 = .ok (.invokevirtual 54, 3) := by decide +kernel
theorem dX5_parseClause_103 : decode cX5_parseClause 103 = .ok (.ifCond .eq 7, 3) := by decide +kernel
theorem dX5_parseClause_106 : decode cX5_parseClause 106 = .ok (.iconst 1, 1) := by decide +kernel
theorem dX5_parseClause_107 : decode cX5_parseClause 107 = .ok (.goto 4, 3) := by decide +kernel
theorem dX5_parseClause_110 : decode cX5_parseClause 110 = .ok (.iconst 0, 1) := by decide +kernel
theorem dX5_parseClause_111 : decode cX5_parseClause 111 = .ok (.ireturn, 1) := by decide +kernel
theorem dX5_parseInput_0 : decode cX5_parseInput 0 = .ok (.aload_n 0, 1) := by decide +kernel
theorem dX5_parseInput_1 : decode cX5_parseInput 1 = .ok (.iconst 1, 1) := by decide +kernel
theorem dX5_parseInput_2 : decode cX5_parseInput 2 = .ok (.invokevirtual 43, 3) := by decide +kernel
theorem dX5_parseInput_5 : decode cX5_parseInput 5 = .ok (.istore_n 1, 1) := by decide +kernel
theorem dX5_parseInput_6 : decode cX5_parseInput 6 = .ok (.iload_n 1, 1) := by decide +kernel
theorem dX5_parseInput_7 : decode cX5_parseInput 7 = .ok (.ifCond .ge 5, 3) := by decide +kernel
theorem dX5_parseInput_10 : decode cX5_parseInput 10 = .ok (.iconst 0, 1) := by decide +kernel
theorem dX5_parseInput_11 : decode cX5_parseInput 11 = .ok (.ireturn, 1) := by decide +kernel
theorem dX5_parseInput_12 : decode cX5_parseInput 12 = .ok (.aload_n 0, 1) := by decide +kernel
theorem dX5_parseInput_13 : decode cX5_parseInput 13 = .ok (.bipush 112, 2) := by decide +kernel
theorem dX5_parseInput_15 : decode cX5_parseInput 15 = .ok (.invokevirtual 39, 3) := by decide +kernel
theorem dX5_parseInput_18 : decode cX5_parseInput 18 = .ok (.ifCond .eq 15, 3) := by decide +kernel
theorem dX5_parseInput_21 : decode cX5_parseInput 21 = .ok (.aload_n 0, 1) := by decide +kernel
theorem dX5_parseInput_22 : decode cX5_parseInput 22 = .ok (.iconst 2, 1) := by decide +kernel
theorem dX5_parseInput_23 : decode cX5_parseInput 23 = .ok (.iload_n 1, 1) := by decide +kernel
theorem dX5_parseInput_24 : decode cX5_parseInput 24 = .ok (.aload_n 0, 1) := by decide +kernel
theorem dX5_parseInput_25 : decode cX5_parseInput 25 = .ok (.iconst 1, 1) := by decide +kernel
theorem dX5_parseInput_26 : decode cX5_parseInput 26 = .ok (.invokevirtual 43, 3) := by decide +kernel
theorem dX5_parseInput_29 : decode cX5_parseInput 29 = .ok (.invokevirtual 47, 3) := by decide +kernel
theorem dX5_parseInput_32 : decode cX5_parseInput 32 = .ok (.ireturn, 1) := by decide +kernel
theorem dX5_parseInput_33 : decode cX5_parseInput 33 = .ok (.aload_n 0, 1) := by decide +kernel
theorem dX5_parseInput_34 : decode cX5_parseInput 34 = .ok (.bipush 103, 2) := by decide +kernel
theorem dX5_parseInput_36 : decode cX5_parseInput 36 = .ok (.invokevirtual 39, 3) := by decide +kernel
theorem dX5_parseInput_39 : decode cX5_parseInput 39 = .ok (.ifCond .eq 21, 3) := by decide +kernel
theorem dX5_parseInput_42 : decode cX5_parseInput 42 = .ok (.aload_n 0, 1) := by decide +kernel
theorem dX5_parseInput_43 : decode cX5_parseInput 43 = .ok (.iconst 3, 1) := by decide +kernel
theorem dX5_parseInput_44 : decode cX5_parseInput 44 = .ok (.iload_n 1, 1) := by decide +kernel
theorem dX5_parseInput_45 : decode cX5_parseInput 45 = .ok (.aload_n 0, 1) := by decide +kernel
theorem dX5_parseInput_46 : decode cX5_parseInput 46 = .ok (.iconst 1, 1) := by decide +kernel
theorem dX5_parseInput_47 : decode cX5_parseInput 47 = .ok (.invokevirtual 43, 3) := by decide +kernel
theorem dX5_parseInput_50 : decode cX5_parseInput 50 = .ok (.invokevirtual 47, 3) := by decide +kernel
theorem dX5_parseInput_53 : decode cX5_parseInput 53 = .ok (.ifCond .eq 7, 3) := by decide +kernel
theorem dX5_parseInput_56 : decode cX5_parseInput 56 = .ok (.iconst 1, 1) := by decide +kernel
theorem dX5_parseInput_57 : decode cX5_parseInput 57 = .ok (.goto 4, 3) := by decide +kernel
theorem dX5_parseInput_60 : decode cX5_parseInput 60 = .ok (.iconst 0, 1) := by decide +kernel
theorem dX5_parseInput_61 : decode cX5_parseInput 61 = .ok (.ireturn, 1) := by decide +kernel
theorem dX5_parseCause_0 : decode cX5_parseCause 0 = .ok (.aload_n 0, 1) := by decide +kernel
theorem dX5_parseCause_1 : decode cX5_parseCause 1 = .ok (.iconst 3, 1) := by decide +kernel
theorem dX5_parseCause_2 : decode cX5_parseCause 2 = .ok (.invokevirtual 43, 3) := by decide +kernel
theorem dX5_parseCause_5 : decode cX5_parseCause 5 = .ok (.istore_n 1, 1) := by decide +kernel
theorem dX5_parseCause_6 : decode cX5_parseCause 6 = .ok (.iload_n 1, 1) := by decide +kernel
theorem dX5_parseCause_7 : decode cX5_parseCause 7 = .ok (.ifCond .ge 5, 3) := by decide +kernel
theorem dX5_parseCause_10 : decode cX5_parseCause 10 = .ok (.iconst 0, 1) := by decide +kernel
theorem dX5_parseCause_11 : decode cX5_parseCause 11 = .ok (.ireturn, 1) := by decide +kernel
theorem dX5_parseCause_12 : decode cX5_parseCause 12 = .ok (.iconst 0, 1) := by decide +kernel
theorem dX5_parseCause_13 : decode cX5_parseCause 13 = .ok (.istore_n 2, 1) := by decide +kernel
theorem dX5_parseCause_14 : decode cX5_parseCause 14 = .ok (.iconst 0, 1) := by decide +kernel
theorem dX5_parseCause_15 : decode cX5_parseCause 15 = .ok (.istore_n 3, 1) := by decide +kernel
theorem dX5_parseCause_16 : decode cX5_parseCause 16 = .ok (.iload_n 3, 1) := by decide +kernel
theorem dX5_parseCause_17 : decode cX5_parseCause 17 = .ok (.iconst 4, 1) := by decide +kernel
theorem dX5_parseCause_18 : decode cX5_parseCause 18 = .ok (.if_icmp .ge 39, 3) := by decide +kernel
theorem dX5_parseCause_21 : decode cX5_parseCause 21 = .ok (.aload_n 0, 1) := by decide +kernel
theorem dX5_parseCause_22 : decode cX5_parseCause 22 = .ok (.bipush 112, 2) := by decide +kernel
theorem dX5_parseCause_24 : decode cX5_parseCause 24 = .ok (.invokevirtual 39, 3) := by decide +kernel
theorem dX5_parseCause_27 : decode cX5_parseCause 27 = .ok (.ifCond .eq 30, 3) := by decide +kernel
theorem dX5_parseCause_30 : decode cX5_parseCause 30 = .ok (.aload_n 0, 1) := by decide +kernel
theorem dX5_parseCause_31 : decode cX5_parseCause 31 = .ok (.iconst 1, 1) := by decide +kernel
theorem dX5_parseCause_32 : decode cX5_parseCause 32 = .ok (.invokevirtual 43, 3) := by decide +kernel
theorem dX5_parseCause_35 : decode cX5_parseCause 35 = .ok (.istore 4, 2) := by decide +kernel
theorem dX5_parseCause_37 : decode cX5_parseCause 37 = .ok (.iload 4, 2) := by decide +kernel
theorem dX5_parseCause_39 : decode cX5_parseCause 39 = .ok (.ifCond .ge 5, 3) := by decide +kernel
theorem dX5_parseCause_42 : decode cX5_parseCause 42 = .ok (.iconst 0, 1) := by decide +kernel
theorem dX5_parseCause_43 : decode cX5_parseCause 43 = .ok (.ireturn, 1) := by decide +kernel
theorem dX5_parseCause_44 : decode cX5_parseCause 44 = .ok (.iload_n 2, 1) := by decide +kernel
theorem dX5_parseCause_45 : decode cX5_parseCause 45 = .ok (.iconst 1, 1) := by decide +kernel
theorem dX5_parseCause_46 : decode cX5_parseCause 46 = .ok (.iload 4, 2) := by decide +kernel
theorem dX5_parseCause_48 : decode cX5_parseCause 48 = .ok (.ishl, 1) := by decide +kernel
theorem dX5_parseCause_49 : decode cX5_parseCause 49 = .ok (.ior, 1) := by decide +kernel
theorem dX5_parseCause_50 : decode cX5_parseCause 50 = .ok (.istore_n 2, 1) := by decide +kernel
theorem dX5_parseCause_51 : decode cX5_parseCause 51 = .ok (.iinc 3 1, 3) := by decide +kernel
theorem dX5_parseCause_54 : decode cX5_parseCause 54 = .ok (.goto (-38), 3) := by decide +kernel
theorem dX5_parseCause_57 : decode cX5_parseCause 57 = .ok (.iload_n 2, 1) := by decide +kernel
theorem dX5_parseCause_58 : decode cX5_parseCause 58 = .ok (.ifCond .eq 17, 3) := by decide +kernel
theorem dX5_parseCause_61 : decode cX5_parseCause 61 = .ok (.aload_n 0, 1) := by decide +kernel
theorem dX5_parseCause_62 : decode cX5_parseCause 62 = .ok (.iconst 4, 1) := by decide +kernel
theorem dX5_parseCause_63 : decode cX5_parseCause 63 = .ok (.iload_n 1, 1) := by decide +kernel
theorem dX5_parseCause_64 : decode cX5_parseCause 64 = .ok (.iload_n 2, 1) := by decide +kernel
theorem dX5_parseCause_65 : decode cX5_parseCause 65 = .ok (.invokevirtual 47, 3) := by decide +kernel
theorem dX5_parseCause_68 : decode cX5_parseCause 68 = .ok (.ifCond .eq 7, 3) := by decide +kernel
theorem dX5_parseCause_71 : decode cX5_parseCause 71 = .ok (.iconst 1, 1) := by decide +kernel
theorem dX5_parseCause_72 : decode cX5_parseCause 72 = .ok (.goto 4, 3) := by decide +kernel
theorem dX5_parseCause_75 : decode cX5_parseCause 75 = .ok (.iconst 0, 1) := by decide +kernel
theorem dX5_parseCause_76 : decode cX5_parseCause 76 = .ok (.ireturn, 1) := by decide +kernel
theorem dX5_passes_0 : decode cX5_passes 0 = .ok (.aload_n 0, 1) := by decide +kernel
theorem dX5_passes_1 : decode cX5_passes 1 = .ok (.getfield 29, 3) := by decide +kernel
theorem dX5_passes_4 : decode cX5_passes 4 = .ok (.aload_n 0, 1) := by decide +kernel
theorem dX5_passes_5 : decode cX5_passes 5 = .ok (.getfield 25, 3) := by decide +kernel
theorem dX5_passes_8 : decode cX5_passes 8 = .ok (.if_icmp .ge 16, 3) := by decide +kernel
theorem dX5_passes_11 : decode cX5_passes 11 = .ok (.aload_n 0, 1) := by decide +kernel
theorem dX5_passes_12 : decode cX5_passes 12 = .ok (.getfield 21, 3) := by decide +kernel
theorem dX5_passes_15 : decode cX5_passes 15 = .ok (.aload_n 0, 1) := by decide +kernel
theorem dX5_passes_16 : decode cX5_passes 16 = .ok (.getfield 29, 3) := by decide +kernel
theorem dX5_passes_19 : decode cX5_passes 19 = .ok (.baload, 1) := by decide +kernel
theorem dX5_passes_20 : decode cX5_passes 20 = .ok (.iload_n 1, 1) := by decide +kernel
theorem dX5_passes_21 : decode cX5_passes 21 = .ok (.if_icmp .eq 5, 3) := by decide +kernel
theorem dX5_passes_24 : decode cX5_passes 24 = .ok (.iconst 0, 1) := by decide +kernel
theorem dX5_passes_25 : decode cX5_passes 25 = .ok (.ireturn, 1) := by decide +kernel
theorem dX5_passes_26 : decode cX5_passes 26 = .ok (.aload_n 0, 1) := by decide +kernel
theorem dX5_passes_27 : decode cX5_passes 27 = .ok (.dup, 1) := by decide +kernel
theorem dX5_passes_28 : decode cX5_passes 28 = .ok (.getfield 29, 3) := by decide +kernel
theorem dX5_passes_31 : decode cX5_passes 31 = .ok (.iconst 1, 1) := by decide +kernel
theorem dX5_passes_32 : decode cX5_passes 32 = .ok (.iadd, 1) := by decide +kernel
theorem dX5_passes_33 : decode cX5_passes 33 = .ok (.putfield 29, 3) := by decide +kernel
theorem dX5_passes_36 : decode cX5_passes 36 = .ok (.iconst 1, 1) := by decide +kernel
theorem dX5_passes_37 : decode cX5_passes 37 = .ok (.ireturn, 1) := by decide +kernel
theorem dX5_digits_0 : decode cX5_digits 0 = .ok (.iconst (-1), 1) := by decide +kernel
theorem dX5_digits_1 : decode cX5_digits 1 = .ok (.istore_n 2, 1) := by decide +kernel
theorem dX5_digits_2 : decode cX5_digits 2 = .ok (.iconst 0, 1) := by decide +kernel
theorem dX5_digits_3 : decode cX5_digits 3 = .ok (.istore_n 3, 1) := by decide +kernel
theorem dX5_digits_4 : decode cX5_digits 4 = .ok (.iload_n 3, 1) := by decide +kernel
theorem dX5_digits_5 : decode cX5_digits 5 = .ok (.iload_n 1, 1) := by decide +kernel
theorem dX5_digits_6 : decode cX5_digits 6 = .ok (.if_icmp .ge 67, 3) := by decide +kernel
theorem dX5_digits_9 : decode cX5_digits 9 = .ok (.aload_n 0, 1) := by decide +kernel
theorem dX5_digits_10 : decode cX5_digits 10 = .ok (.getfield 29, 3) := by decide +kernel
theorem dX5_digits_13 : decode cX5_digits 13 = .ok (.aload_n 0, 1) := by decide +kernel
theorem dX5_digits_14 : decode cX5_digits 14 = .ok (.getfield 25, 3) := by decide +kernel
theorem dX5_digits_17 : decode cX5_digits 17 = .ok (.if_icmp .ge 56, 3) := by decide +kernel
theorem dX5_digits_20 : decode cX5_digits 20 = .ok (.aload_n 0, 1) := by decide +kernel
theorem dX5_digits_21 : decode cX5_digits 21 = .ok (.getfield 21, 3) := by decide +kernel
theorem dX5_digits_24 : decode cX5_digits 24 = .ok (.aload_n 0, 1) := by decide +kernel
theorem dX5_digits_25 : decode cX5_digits 25 = .ok (.getfield 29, 3) := by decide +kernel
theorem dX5_digits_28 : decode cX5_digits 28 = .ok (.baload, 1) := by decide +kernel
theorem dX5_digits_29 : decode cX5_digits 29 = .ok (.invokestatic 57, 3) := by decide +kernel
theorem dX5_digits_32 : decode cX5_digits 32 = .ok (.ifCond .eq 41, 3) := by decide +kernel
theorem dX5_digits_35 : decode cX5_digits 35 = .ok (.iload_n 2, 1) := by decide +kernel
theorem dX5_digits_36 : decode cX5_digits 36 = .ok (.iconst 0, 1) := by decide +kernel
theorem dX5_digits_37 : decode cX5_digits 37 = .ok (.invokestatic 60, 3) := by decide +kernel
theorem dX5_digits_40 : decode cX5_digits 40 = .ok (.bipush 10, 2) := by decide +kernel
theorem dX5_digits_42 : decode cX5_digits 42 = .ok (.imul, 1) := by decide +kernel
theorem dX5_digits_43 : decode cX5_digits 43 = .ok (.aload_n 0, 1) := by decide +kernel
theorem dX5_digits_44 : decode cX5_digits 44 = .ok (.getfield 21, 3) := by decide +kernel
theorem dX5_digits_47 : decode cX5_digits 47 = .ok (.aload_n 0, 1) := by decide +kernel
theorem dX5_digits_48 : decode cX5_digits 48 = .ok (.getfield 29, 3) := by decide +kernel
theorem dX5_digits_51 : decode cX5_digits 51 = .ok (.baload, 1) := by decide +kernel
theorem dX5_digits_52 : decode cX5_digits 52 = .ok (.iadd, 1) := by decide +kernel
theorem dX5_digits_53 : decode cX5_digits 53 = .ok (.bipush 48, 2) := by decide +kernel
theorem dX5_digits_55 : decode cX5_digits 55 = .ok (.isub, 1) := by decide +kernel
theorem dX5_digits_56 : decode cX5_digits 56 = .ok (.istore_n 2, 1) := by decide +kernel
theorem dX5_digits_57 : decode cX5_digits 57 = .ok (.aload_n 0, 1) := by decide +kernel
theorem dX5_digits_58 : decode cX5_digits 58 = .ok (.dup, 1) := by decide +kernel
theorem dX5_digits_59 : decode cX5_digits 59 = .ok (.getfield 29, 3) := by decide +kernel
theorem dX5_digits_62 : decode cX5_digits 62 = .ok (.iconst 1, 1) := by decide +kernel
theorem dX5_digits_63 : decode cX5_digits 63 = .ok (.iadd, 1) := by decide +kernel
theorem dX5_digits_64 : decode cX5_digits 64 = .ok (.putfield 29, 3) := by decide +kernel
theorem dX5_digits_67 : decode cX5_digits 67 = .ok (.iinc 3 1, 3) := by decide +kernel
theorem dX5_digits_70 : decode cX5_digits 70 = .ok (.goto (-66), 3) := by decide +kernel
theorem dX5_digits_73 : decode cX5_digits 73 = .ok (.iload_n 2, 1) := by decide +kernel
theorem dX5_digits_74 : decode cX5_digits 74 = .ok (.ireturn, 1) := by decide +kernel
theorem dX5_isDigit_0 : decode cX5_isDigit 0 = .ok (.iload_n 0, 1) := by decide +kernel
theorem dX5_isDigit_1 : decode cX5_isDigit 1 = .ok (.bipush 48, 2) := by decide +kernel
theorem dX5_isDigit_3 : decode cX5_isDigit 3 = .ok (.if_icmp .lt 13, 3) := by decide +kernel
theorem dX5_isDigit_6 : decode cX5_isDigit 6 = .ok (.iload_n 0, 1) := by decide +kernel
theorem dX5_isDigit_7 : decode cX5_isDigit 7 = .ok (.bipush 57, 2) := by decide +kernel
theorem dX5_isDigit_9 : decode cX5_isDigit 9 = .ok (.if_icmp .gt 7, 3) := by decide +kernel
theorem dX5_isDigit_12 : decode cX5_isDigit 12 = .ok (.iconst 1, 1) := by decide +kernel
theorem dX5_isDigit_13 : decode cX5_isDigit 13 = .ok (.goto 4, 3) := by decide +kernel
theorem dX5_isDigit_16 : decode cX5_isDigit 16 = .ok (.iconst 0, 1) := by decide +kernel
theorem dX5_isDigit_17 : decode cX5_isDigit 17 = .ok (.ireturn, 1) := by decide +kernel
theorem dX5_keep_0 : decode cX5_keep 0 = .ok (.iload_n 2, 1) := by decide +kernel
theorem dX5_keep_1 : decode cX5_keep 1 = .ok (.ifCond .lt 16, 3) := by decide +kernel
theorem dX5_keep_4 : decode cX5_keep 4 = .ok (.iload_n 3, 1) := by decide +kernel
theorem dX5_keep_5 : decode cX5_keep 5 = .ok (.ifCond .lt 12, 3) := by decide +kernel
theorem dX5_keep_8 : decode cX5_keep 8 = .ok (.aload_n 0, 1) := by decide +kernel
theorem dX5_keep_9 : decode cX5_keep 9 = .ok (.getfield 32, 3) := by decide +kernel
theorem dX5_keep_12 : decode cX5_keep 12 = .ok (.bipush 16, 2) := by decide +kernel
theorem dX5_keep_14 : decode cX5_keep 14 = .ok (.if_icmp .lt 5, 3) := by decide +kernel
theorem dX5_keep_17 : decode cX5_keep 17 = .ok (.iconst 0, 1) := by decide +kernel
theorem dX5_keep_18 : decode cX5_keep 18 = .ok (.ireturn, 1) := by decide +kernel
theorem dX5_keep_19 : decode cX5_keep 19 = .ok (.aload_n 0, 1) := by decide +kernel
theorem dX5_keep_20 : decode cX5_keep 20 = .ok (.getfield 11, 3) := by decide +kernel
theorem dX5_keep_23 : decode cX5_keep 23 = .ok (.aload_n 0, 1) := by decide +kernel
theorem dX5_keep_24 : decode cX5_keep 24 = .ok (.getfield 32, 3) := by decide +kernel
theorem dX5_keep_27 : decode cX5_keep 27 = .ok (.iload_n 1, 1) := by decide +kernel
theorem dX5_keep_28 : decode cX5_keep 28 = .ok (.iastore, 1) := by decide +kernel
theorem dX5_keep_29 : decode cX5_keep 29 = .ok (.aload_n 0, 1) := by decide +kernel
theorem dX5_keep_30 : decode cX5_keep 30 = .ok (.getfield 15, 3) := by decide +kernel
theorem dX5_keep_33 : decode cX5_keep 33 = .ok (.aload_n 0, 1) := by decide +kernel
theorem dX5_keep_34 : decode cX5_keep 34 = .ok (.getfield 32, 3) := by decide +kernel
theorem dX5_keep_37 : decode cX5_keep 37 = .ok (.iload_n 2, 1) := by decide +kernel
theorem dX5_keep_38 : decode cX5_keep 38 = .ok (.iastore, 1) := by decide +kernel
theorem dX5_keep_39 : decode cX5_keep 39 = .ok (.aload_n 0, 1) := by decide +kernel
theorem dX5_keep_40 : decode cX5_keep 40 = .ok (.getfield 18, 3) := by decide +kernel
theorem dX5_keep_43 : decode cX5_keep 43 = .ok (.aload_n 0, 1) := by decide +kernel
theorem dX5_keep_44 : decode cX5_keep 44 = .ok (.getfield 32, 3) := by decide +kernel
theorem dX5_keep_47 : decode cX5_keep 47 = .ok (.iload_n 3, 1) := by decide +kernel
theorem dX5_keep_48 : decode cX5_keep 48 = .ok (.iastore, 1) := by decide +kernel
theorem dX5_keep_49 : decode cX5_keep 49 = .ok (.aload_n 0, 1) := by decide +kernel
theorem dX5_keep_50 : decode cX5_keep 50 = .ok (.dup, 1) := by decide +kernel
theorem dX5_keep_51 : decode cX5_keep 51 = .ok (.getfield 32, 3) := by decide +kernel
theorem dX5_keep_54 : decode cX5_keep 54 = .ok (.iconst 1, 1) := by decide +kernel
theorem dX5_keep_55 : decode cX5_keep 55 = .ok (.iadd, 1) := by decide +kernel
theorem dX5_keep_56 : decode cX5_keep 56 = .ok (.putfield 32, 3) := by decide +kernel
theorem dX5_keep_59 : decode cX5_keep 59 = .ok (.iconst 1, 1) := by decide +kernel
theorem dX5_keep_60 : decode cX5_keep 60 = .ok (.ireturn, 1) := by decide +kernel
theorem dX6_init_0 : decode cX6_init 0 = .ok (.aload_n 0, 1) := by decide +kernel
theorem dX6_init_1 : decode cX6_init 1 = .ok (.invokespecial 3, 3) := by decide +kernel
theorem dX6_init_4 : decode cX6_init 4 = .ok (.aload_n 0, 1) := by decide +kernel
theorem dX6_init_5 : decode cX6_init 5 = .ok (.new 9, 3) := by decide +kernel
theorem dX6_init_8 : decode cX6_init 8 = .ok (.dup, 1) := by decide +kernel
theorem dX6_init_9 : decode cX6_init 9 = .ok (.invokespecial 11, 3) := by decide +kernel
theorem dX6_init_12 : decode cX6_init 12 = .ok (.putfield 12, 3) := by decide +kernel
theorem dX6_init_15 : decode cX6_init 15 = .ok (.aload_n 0, 1) := by decide +kernel
theorem dX6_init_16 : decode cX6_init 16 = .ok (.new 18, 3) := by decide +kernel
theorem dX6_init_19 : decode cX6_init 19 = .ok (.dup, 1) := by decide +kernel
theorem dX6_init_20 : decode cX6_init 20 = .ok (.bipush 6, 2) := by decide +kernel
theorem dX6_init_22 : decode cX6_init 22 = .ok (.invokespecial 20, 3) := by decide +kernel
theorem dX6_init_25 : decode cX6_init 25 = .ok (.putfield 23, 3) := by decide +kernel
theorem dX6_init_28 : decode cX6_init 28 = .ok (.aload_n 0, 1) := by decide +kernel
theorem dX6_init_29 : decode cX6_init 29 = .ok (.new 18, 3) := by decide +kernel
theorem dX6_init_32 : decode cX6_init 32 = .ok (.dup, 1) := by decide +kernel
theorem dX6_init_33 : decode cX6_init 33 = .ok (.bipush 8, 2) := by decide +kernel
theorem dX6_init_35 : decode cX6_init 35 = .ok (.invokespecial 20, 3) := by decide +kernel
theorem dX6_init_38 : decode cX6_init 38 = .ok (.putfield 27, 3) := by decide +kernel
theorem dX6_init_41 : decode cX6_init 41 = .ok (.aload_n 0, 1) := by decide +kernel
theorem dX6_init_42 : decode cX6_init 42 = .ok (.new 18, 3) := by decide +kernel
theorem dX6_init_45 : decode cX6_init 45 = .ok (.dup, 1) := by decide +kernel
theorem dX6_init_46 : decode cX6_init 46 = .ok (.bipush 8, 2) := by decide +kernel
theorem dX6_init_48 : decode cX6_init 48 = .ok (.invokespecial 20, 3) := by decide +kernel
theorem dX6_init_51 : decode cX6_init 51 = .ok (.putfield 30, 3) := by decide +kernel
theorem dX6_init_54 : decode cX6_init 54 = .ok (.return_, 1) := by decide +kernel
theorem dX6_copyFrom_0 : decode cX6_copyFrom 0 = .ok (.aload_n 0, 1) := by decide +kernel
theorem dX6_copyFrom_1 : decode cX6_copyFrom 1 = .ok (.getfield 12, 3) := by decide +kernel
theorem dX6_copyFrom_4 : decode cX6_copyFrom 4 = .ok (.aload_n 1, 1) := by decide +kernel
theorem dX6_copyFrom_5 : decode cX6_copyFrom 5 = .ok (.getfield 12, 3) := by decide +kernel
theorem dX6_copyFrom_8 : decode cX6_copyFrom 8 = .ok (.invokevirtual 33, 3) := by decide +kernel
theorem dX6_copyFrom_11 : decode cX6_copyFrom 11 = .ok (.aload_n 0, 1) := by decide +kernel
theorem dX6_copyFrom_12 : decode cX6_copyFrom 12 = .ok (.getfield 23, 3) := by decide +kernel
theorem dX6_copyFrom_15 : decode cX6_copyFrom 15 = .ok (.aload_n 1, 1) := by decide +kernel
theorem dX6_copyFrom_16 : decode cX6_copyFrom 16 = .ok (.getfield 23, 3) := by decide +kernel
theorem dX6_copyFrom_19 : decode cX6_copyFrom 19 = .ok (.invokevirtual 37, 3) := by decide +kernel
theorem dX6_copyFrom_22 : decode cX6_copyFrom 22 = .ok (.aload_n 0, 1) := by decide +kernel
theorem dX6_copyFrom_23 : decode cX6_copyFrom 23 = .ok (.getfield 27, 3) := by decide +kernel
theorem dX6_copyFrom_26 : decode cX6_copyFrom 26 = .ok (.aload_n 1, 1) := by decide +kernel
theorem dX6_copyFrom_27 : decode cX6_copyFrom 27 = .ok (.getfield 27, 3) := by decide +kernel
theorem dX6_copyFrom_30 : decode cX6_copyFrom 30 = .ok (.invokevirtual 37, 3) := by decide +kernel
theorem dX6_copyFrom_33 : decode cX6_copyFrom 33 = .ok (.aload_n 0, 1) := by decide +kernel
theorem dX6_copyFrom_34 : decode cX6_copyFrom 34 = .ok (.getfield 30, 3) := by decide +kernel
theorem dX6_copyFrom_37 : decode cX6_copyFrom 37 = .ok (.aload_n 1, 1) := by decide +kernel
theorem dX6_copyFrom_38 : decode cX6_copyFrom 38 = .ok (.getfield 30, 3) := by decide +kernel
theorem dX6_copyFrom_41 : decode cX6_copyFrom 41 = .ok (.invokevirtual 37, 3) := by decide +kernel
theorem dX6_copyFrom_44 : decode cX6_copyFrom 44 = .ok (.return_, 1) := by decide +kernel
theorem dX7_init_0 : decode cX7_init 0 = .ok (.aload_n 0, 1) := by decide +kernel
theorem dX7_init_1 : decode cX7_init 1 = .ok (.invokespecial 1, 3) := by decide +kernel
theorem dX7_init_4 : decode cX7_init 4 = .ok (.aload_n 0, 1) := by decide +kernel
theorem dX7_init_5 : decode cX7_init 5 = .ok (.iconst (-1), 1) := by decide +kernel
theorem dX7_init_6 : decode cX7_init 6 = .ok (.putfield 9, 3) := by decide +kernel
theorem dX7_init_9 : decode cX7_init 9 = .ok (.aload_n 0, 1) := by decide +kernel
theorem dX7_init_10 : decode cX7_init 10 = .ok (.bipush 60, 2) := by decide +kernel
theorem dX7_init_12 : decode cX7_init 12 = .ok (.newarray .long, 2) := by decide +kernel
theorem dX7_init_14 : decode cX7_init 14 = .ok (.putfield 13, 3) := by decide +kernel
theorem dX7_init_17 : decode cX7_init 17 = .ok (.return_, 1) := by decide +kernel
theorem dX7_become_0 : decode cX7_become 0 = .ok (.aload_n 0, 1) := by decide +kernel
theorem dX7_become_1 : decode cX7_become 1 = .ok (.iload_n 1, 1) := by decide +kernel
theorem dX7_become_2 : decode cX7_become 2 = .ok (.putfield 9, 3) := by decide +kernel
theorem dX7_become_5 : decode cX7_become 5 = .ok (.aload_n 0, 1) := by decide +kernel
theorem dX7_become_6 : decode cX7_become 6 = .ok (.iload_n 2, 1) := by decide +kernel
theorem dX7_become_7 : decode cX7_become 7 = .ok (.putfield 17, 3) := by decide +kernel
theorem dX7_become_10 : decode cX7_become 10 = .ok (.iconst 0, 1) := by decide +kernel
theorem dX7_become_11 : decode cX7_become 11 = .ok (.istore_n 3, 1) := by decide +kernel
theorem dX7_become_12 : decode cX7_become 12 = .ok (.iload_n 3, 1) := by decide +kernel
theorem dX7_become_13 : decode cX7_become 13 = .ok (.bipush 60, 2) := by decide +kernel
theorem dX7_become_15 : decode cX7_become 15 = .ok (.if_icmp .ge 16, 3) := by decide +kernel
theorem dX7_become_18 : decode cX7_become 18 = .ok (.aload_n 0, 1) := by decide +kernel
theorem dX7_become_19 : decode cX7_become 19 = .ok (.getfield 13, 3) := by decide +kernel
theorem dX7_become_22 : decode cX7_become 22 = .ok (.iload_n 3, 1) := by decide +kernel
theorem dX7_become_23 : decode cX7_become 23 = .ok (.lconst 0, 1) := by decide +kernel
theorem dX7_become_24 : decode cX7_become 24 = .ok (.lastore, 1) := by decide +kernel
theorem dX7_become_25 : decode cX7_become 25 = .ok (.iinc 3 1, 3) := by decide +kernel
theorem dX7_become_28 : decode cX7_become 28 = .ok (.goto (-16), 3) := by decide +kernel
theorem dX7_become_31 : decode cX7_become 31 = .ok (.return_, 1) := by decide +kernel
theorem dX7_hasPlace_0 : decode cX7_hasPlace 0 = .ok (.iload_n 1, 1) := by decide +kernel
theorem dX7_hasPlace_1 : decode cX7_hasPlace 1 = .ok (.ifCond .lt 15, 3) := by decide +kernel
theorem dX7_hasPlace_4 : decode cX7_hasPlace 4 = .ok (.iload_n 1, 1) := by decide +kernel
theorem dX7_hasPlace_5 : decode cX7_hasPlace 5 = .ok (.aload_n 0, 1) := by decide +kernel
theorem dX7_hasPlace_6 : decode cX7_hasPlace 6 = .ok (.getfield 17, 3) := by decide +kernel
theorem dX7_hasPlace_9 : decode cX7_hasPlace 9 = .ok (.if_icmp .ge 7, 3) := by decide +kernel
theorem dX7_hasPlace_12 : decode cX7_hasPlace 12 = .ok (.iconst 1, 1) := by decide +kernel
theorem dX7_hasPlace_13 : decode cX7_hasPlace 13 = .ok (.goto 4, 3) := by decide +kernel
theorem dX7_hasPlace_16 : decode cX7_hasPlace 16 = .ok (.iconst 0, 1) := by decide +kernel
theorem dX7_hasPlace_17 : decode cX7_hasPlace 17 = .ok (.ireturn, 1) := by decide +kernel
theorem dX7_hasRun_0 : decode cX7_hasRun 0 = .ok (.iload_n 1, 1) := by decide +kernel
theorem dX7_hasRun_1 : decode cX7_hasRun 1 = .ok (.ifCond .lt 29, 3) := by decide +kernel
theorem dX7_hasRun_4 : decode cX7_hasRun 4 = .ok (.iload_n 2, 1) := by decide +kernel
theorem dX7_hasRun_5 : decode cX7_hasRun 5 = .ok (.ifCond .lt 25, 3) := by decide +kernel
theorem dX7_hasRun_8 : decode cX7_hasRun 8 = .ok (.iload_n 2, 1) := by decide +kernel
theorem dX7_hasRun_9 : decode cX7_hasRun 9 = .ok (.aload_n 0, 1) := by decide +kernel
theorem dX7_hasRun_10 : decode cX7_hasRun 10 = .ok (.getfield 17, 3) := by decide +kernel
theorem dX7_hasRun_13 : decode cX7_hasRun 13 = .ok (.if_icmp .gt 17, 3) := by decide +kernel
theorem dX7_hasRun_16 : decode cX7_hasRun 16 = .ok (.iload_n 1, 1) := by decide +kernel
theorem dX7_hasRun_17 : decode cX7_hasRun 17 = .ok (.aload_n 0, 1) := by decide +kernel
theorem dX7_hasRun_18 : decode cX7_hasRun 18 = .ok (.getfield 17, 3) := by decide +kernel
theorem dX7_hasRun_21 : decode cX7_hasRun 21 = .ok (.iload_n 2, 1) := by decide +kernel
theorem dX7_hasRun_22 : decode cX7_hasRun 22 = .ok (.isub, 1) := by decide +kernel
theorem dX7_hasRun_23 : decode cX7_hasRun 23 = .ok (.if_icmp .gt 7, 3) := by decide +kernel
theorem dX7_hasRun_26 : decode cX7_hasRun 26 = .ok (.iconst 1, 1) := by decide +kernel
theorem dX7_hasRun_27 : decode cX7_hasRun 27 = .ok (.goto 4, 3) := by decide +kernel
theorem dX7_hasRun_30 : decode cX7_hasRun 30 = .ok (.iconst 0, 1) := by decide +kernel
theorem dX7_hasRun_31 : decode cX7_hasRun 31 = .ok (.ireturn, 1) := by decide +kernel
theorem dX7_asItem_0 : decode cX7_asItem 0 = .ok (.aload_n 0, 1) := by decide +kernel
theorem dX7_asItem_1 : decode cX7_asItem 1 = .ok (.getfield 9, 3) := by decide +kernel
theorem dX7_asItem_4 : decode cX7_asItem 4 = .ok (.tableswitch 48 0 3 #[32, 37, 42, 46], 32) := by decide +kernel
theorem dX7_asItem_36 : decode cX7_asItem 36 = .ok (.lload_n 1, 1) := by decide +kernel
theorem dX7_asItem_37 : decode cX7_asItem 37 = .ok (.l2i, 1) := by decide +kernel
theorem dX7_asItem_38 : decode cX7_asItem 38 = .ok (.i2b, 1) := by decide +kernel
theorem dX7_asItem_39 : decode cX7_asItem 39 = .ok (.i2l, 1) := by decide +kernel
theorem dX7_asItem_40 : decode cX7_asItem 40 = .ok (.lreturn, 1) := by decide +kernel
theorem dX7_asItem_41 : decode cX7_asItem 41 = .ok (.lload_n 1, 1) := by decide +kernel
theorem dX7_asItem_42 : decode cX7_asItem 42 = .ok (.l2i, 1) := by decide +kernel
theorem dX7_asItem_43 : decode cX7_asItem 43 = .ok (.i2s, 1) := by decide +kernel
theorem dX7_asItem_44 : decode cX7_asItem 44 = .ok (.i2l, 1) := by decide +kernel
theorem dX7_asItem_45 : decode cX7_asItem 45 = .ok (.lreturn, 1) := by decide +kernel
theorem dX7_asItem_46 : decode cX7_asItem 46 = .ok (.lload_n 1, 1) := by decide +kernel
theorem dX7_asItem_47 : decode cX7_asItem 47 = .ok (.l2i, 1) := by decide +kernel
theorem dX7_asItem_48 : decode cX7_asItem 48 = .ok (.i2l, 1) := by decide +kernel
theorem dX7_asItem_49 : decode cX7_asItem 49 = .ok (.lreturn, 1) := by decide +kernel
theorem dX7_asItem_50 : decode cX7_asItem 50 = .ok (.lload_n 1, 1) := by decide +kernel
theorem dX7_asItem_51 : decode cX7_asItem 51 = .ok (.lreturn, 1) := by decide +kernel
theorem dX7_asItem_52 : decode cX7_asItem 52 = .ok (.lload_n 1, 1) := by decide +kernel
theorem dX7_asItem_53 : decode cX7_asItem 53 = .ok (.lconst 0, 1) := by decide +kernel
theorem dX7_asItem_54 : decode cX7_asItem 54 = .ok (.lcmp, 1) := by decide +kernel
theorem dX7_asItem_55 : decode cX7_asItem 55 = .ok (.ifCond .eq 7, 3) := by decide +kernel
theorem dX7_asItem_58 : decode cX7_asItem 58 = .ok (.lconst 1, 1) := by decide +kernel
theorem dX7_asItem_59 : decode cX7_asItem 59 = .ok (.goto 4, 3) := by decide +kernel
theorem dX7_asItem_62 : decode cX7_asItem 62 = .ok (.lconst 0, 1) := by decide +kernel
theorem dX7_asItem_63 : decode cX7_asItem 63 = .ok (.lreturn, 1) := by decide +kernel
theorem dX8_init_0 : decode cX8_init 0 = .ok (.aload_n 0, 1) := by decide +kernel
theorem dX8_init_1 : decode cX8_init 1 = .ok (.invokespecial 5, 3) := by decide +kernel
theorem dX8_init_4 : decode cX8_init 4 = .ok (.aload_n 0, 1) := by decide +kernel
theorem dX8_init_5 : decode cX8_init 5 = .ok (.new 11, 3) := by decide +kernel
theorem dX8_init_8 : decode cX8_init 8 = .ok (.dup, 1) := by decide +kernel
theorem dX8_init_9 : decode cX8_init 9 = .ok (.invokespecial 13, 3) := by decide +kernel
theorem dX8_init_12 : decode cX8_init 12 = .ok (.putfield 14, 3) := by decide +kernel
theorem dX8_init_15 : decode cX8_init 15 = .ok (.aload_n 0, 1) := by decide +kernel
theorem dX8_init_16 : decode cX8_init 16 = .ok (.new 11, 3) := by decide +kernel
theorem dX8_init_19 : decode cX8_init 19 = .ok (.dup, 1) := by decide +kernel
theorem dX8_init_20 : decode cX8_init 20 = .ok (.invokespecial 13, 3) := by decide +kernel
theorem dX8_init_23 : decode cX8_init 23 = .ok (.putfield 18, 3) := by decide +kernel
theorem dX8_init_26 : decode cX8_init 26 = .ok (.aload_n 0, 1) := by decide +kernel
theorem dX8_init_27 : decode cX8_init 27 = .ok (.new 21, 3) := by decide +kernel
theorem dX8_init_30 : decode cX8_init 30 = .ok (.dup, 1) := by decide +kernel
theorem dX8_init_31 : decode cX8_init 31 = .ok (.invokespecial 23, 3) := by decide +kernel
theorem dX8_init_34 : decode cX8_init 34 = .ok (.putfield 24, 3) := by decide +kernel
theorem dX8_init_37 : decode cX8_init 37 = .ok (.aload_n 0, 1) := by decide +kernel
theorem dX8_init_38 : decode cX8_init 38 = .ok (.new 28, 3) := by decide +kernel
theorem dX8_init_41 : decode cX8_init 41 = .ok (.dup, 1) := by decide +kernel
theorem dX8_init_42 : decode cX8_init 42 = .ok (.invokespecial 30, 3) := by decide +kernel
theorem dX8_init_45 : decode cX8_init 45 = .ok (.putfield 31, 3) := by decide +kernel
theorem dX8_init_48 : decode cX8_init 48 = .ok (.aload_n 0, 1) := by decide +kernel
theorem dX8_init_49 : decode cX8_init 49 = .ok (.new 35, 3) := by decide +kernel
theorem dX8_init_52 : decode cX8_init 52 = .ok (.dup, 1) := by decide +kernel
theorem dX8_init_53 : decode cX8_init 53 = .ok (.invokespecial 37, 3) := by decide +kernel
theorem dX8_init_56 : decode cX8_init 56 = .ok (.putfield 38, 3) := by decide +kernel
theorem dX8_init_59 : decode cX8_init 59 = .ok (.aload_n 0, 1) := by decide +kernel
theorem dX8_init_60 : decode cX8_init 60 = .ok (.new 42, 3) := by decide +kernel
theorem dX8_init_63 : decode cX8_init 63 = .ok (.dup, 1) := by decide +kernel
theorem dX8_init_64 : decode cX8_init 64 = .ok (.invokespecial 44, 3) := by decide +kernel
theorem dX8_init_67 : decode cX8_init 67 = .ok (.putfield 45, 3) := by decide +kernel
theorem dX8_init_70 : decode cX8_init 70 = .ok (.aload_n 0, 1) := by decide +kernel
theorem dX8_init_71 : decode cX8_init 71 = .ok (.new 49, 3) := by decide +kernel
theorem dX8_init_74 : decode cX8_init 74 = .ok (.dup, 1) := by decide +kernel
theorem dX8_init_75 : decode cX8_init 75 = .ok (.invokespecial 51, 3) := by decide +kernel
theorem dX8_init_78 : decode cX8_init 78 = .ok (.putfield 52, 3) := by decide +kernel
theorem dX8_init_81 : decode cX8_init 81 = .ok (.aload_n 0, 1) := by decide +kernel
theorem dX8_init_82 : decode cX8_init 82 = .ok (.bipush 6, 2) := by decide +kernel
theorem dX8_init_84 : decode cX8_init 84 = .ok (.anewarray 56, 3) := by decide +kernel
theorem dX8_init_87 : decode cX8_init 87 = .ok (.putfield 58, 3) := by decide +kernel
theorem dX8_init_90 : decode cX8_init 90 = .ok (.iconst 0, 1) := by decide +kernel
theorem dX8_init_91 : decode cX8_init 91 = .ok (.istore_n 1, 1) := by decide +kernel
theorem dX8_init_92 : decode cX8_init 92 = .ok (.iload_n 1, 1) := by decide +kernel
theorem dX8_init_93 : decode cX8_init 93 = .ok (.bipush 6, 2) := by decide +kernel
theorem dX8_init_95 : decode cX8_init 95 = .ok (.if_icmp .ge 22, 3) := by decide +kernel
theorem dX8_init_98 : decode cX8_init 98 = .ok (.aload_n 0, 1) := by decide +kernel
theorem dX8_init_99 : decode cX8_init 99 = .ok (.getfield 58, 3) := by decide +kernel
theorem dX8_init_102 : decode cX8_init 102 = .ok (.iload_n 1, 1) := by decide +kernel
theorem dX8_init_103 : decode cX8_init 103 = .ok (.new 56, 3) := by decide +kernel
theorem dX8_init_106 : decode cX8_init 106 = .ok (.dup, 1) := by decide +kernel
theorem dX8_init_107 : decode cX8_init 107 = .ok (.invokespecial 62, 3) := by decide +kernel
theorem dX8_init_110 : decode cX8_init 110 = .ok (.aastore, 1) := by decide +kernel
theorem dX8_init_111 : decode cX8_init 111 = .ok (.iinc 1 1, 3) := by decide +kernel
theorem dX8_init_114 : decode cX8_init 114 = .ok (.goto (-22), 3) := by decide +kernel
theorem dX8_init_117 : decode cX8_init 117 = .ok (.return_, 1) := by decide +kernel
theorem dX8_part_0 : decode cX8_part 0 = .ok (.iload_n 1, 1) := by decide +kernel
theorem dX8_part_1 : decode cX8_part 1 = .ok (.invokestatic 63, 3) := by decide +kernel
theorem dX8_part_4 : decode cX8_part 4 = .ok (.ifCond .ne 6, 3) := by decide +kernel
theorem dX8_part_7 : decode cX8_part 7 = .ok (.bipush (-2), 2) := by decide +kernel
theorem dX8_part_9 : decode cX8_part 9 = .ok (.ireturn, 1) := by decide +kernel
theorem dX8_part_10 : decode cX8_part 10 = .ok (.aload_n 0, 1) := by decide +kernel
theorem dX8_part_11 : decode cX8_part 11 = .ok (.getfield 14, 3) := by decide +kernel
theorem dX8_part_14 : decode cX8_part 14 = .ok (.getfield 67, 3) := by decide +kernel
theorem dX8_part_17 : decode cX8_part 17 = .ok (.iload_n 1, 1) := by decide +kernel
theorem dX8_part_18 : decode cX8_part 18 = .ok (.invokevirtual 70, 3) := by decide +kernel
theorem dX8_part_21 : decode cX8_part 21 = .ok (.ireturn, 1) := by decide +kernel
theorem dX8_gate_0 : decode cX8_gate 0 = .ok (.iload_n 1, 1) := by decide +kernel
theorem dX8_gate_1 : decode cX8_gate 1 = .ok (.invokestatic 74, 3) := by decide +kernel
theorem dX8_gate_4 : decode cX8_gate 4 = .ok (.ifCond .eq 10, 3) := by decide +kernel
theorem dX8_gate_7 : decode cX8_gate 7 = .ok (.iload_n 2, 1) := by decide +kernel
theorem dX8_gate_8 : decode cX8_gate 8 = .ok (.invokestatic 77, 3) := by decide +kernel
theorem dX8_gate_11 : decode cX8_gate 11 = .ok (.ifCond .ne 6, 3) := by decide +kernel
theorem dX8_gate_14 : decode cX8_gate 14 = .ok (.bipush (-2), 2) := by decide +kernel
theorem dX8_gate_16 : decode cX8_gate 16 = .ok (.ireturn, 1) := by decide +kernel
theorem dX8_gate_17 : decode cX8_gate 17 = .ok (.aload_n 0, 1) := by decide +kernel
theorem dX8_gate_18 : decode cX8_gate 18 = .ok (.getfield 14, 3) := by decide +kernel
theorem dX8_gate_21 : decode cX8_gate 21 = .ok (.getfield 67, 3) := by decide +kernel
theorem dX8_gate_24 : decode cX8_gate 24 = .ok (.iload_n 1, 1) := by decide +kernel
theorem dX8_gate_25 : decode cX8_gate 25 = .ok (.iload_n 2, 1) := by decide +kernel
theorem dX8_gate_26 : decode cX8_gate 26 = .ok (.invokevirtual 80, 3) := by decide +kernel
theorem dX8_gate_29 : decode cX8_gate 29 = .ok (.ireturn, 1) := by decide +kernel
theorem dX8_turn_0 : decode cX8_turn 0 = .ok (.aload_n 0, 1) := by decide +kernel
theorem dX8_turn_1 : decode cX8_turn 1 = .ok (.getfield 14, 3) := by decide +kernel
theorem dX8_turn_4 : decode cX8_turn 4 = .ok (.getfield 67, 3) := by decide +kernel
theorem dX8_turn_7 : decode cX8_turn 7 = .ok (.astore 4, 2) := by decide +kernel
theorem dX8_turn_9 : decode cX8_turn 9 = .ok (.aload 4, 2) := by decide +kernel
theorem dX8_turn_11 : decode cX8_turn 11 = .ok (.iload_n 1, 1) := by decide +kernel
theorem dX8_turn_12 : decode cX8_turn 12 = .ok (.invokevirtual 84, 3) := by decide +kernel
theorem dX8_turn_15 : decode cX8_turn 15 = .ok (.ifCond .ne 5, 3) := by decide +kernel
theorem dX8_turn_18 : decode cX8_turn 18 = .ok (.iconst (-1), 1) := by decide +kernel
theorem dX8_turn_19 : decode cX8_turn 19 = .ok (.ireturn, 1) := by decide +kernel
theorem dX8_turn_20 : decode cX8_turn 20 = .ok (.iload_n 2, 1) := by decide +kernel
theorem dX8_turn_21 : decode cX8_turn 21 = .ok (.invokestatic 74, 3) := by decide +kernel
theorem dX8_turn_24 : decode cX8_turn 24 = .ok (.ifCond .eq 10, 3) := by decide +kernel
theorem dX8_turn_27 : decode cX8_turn 27 = .ok (.iload_n 3, 1) := by decide +kernel
theorem dX8_turn_28 : decode cX8_turn 28 = .ok (.invokestatic 77, 3) := by decide +kernel
theorem dX8_turn_31 : decode cX8_turn 31 = .ok (.ifCond .ne 6, 3) := by decide +kernel
theorem dX8_turn_34 : decode cX8_turn 34 = .ok (.bipush (-2), 2) := by decide +kernel
theorem dX8_turn_36 : decode cX8_turn 36 = .ok (.ireturn, 1) := by decide +kernel
theorem dX8_turn_37 : decode cX8_turn 37 = .ok (.bipush 10, 2) := by decide +kernel
theorem dX8_turn_39 : decode cX8_turn 39 = .ok (.aload 4, 2) := by decide +kernel
theorem dX8_turn_41 : decode cX8_turn 41 = .ok (.getfield 87, 3) := by decide +kernel
theorem dX8_turn_44 : decode cX8_turn 44 = .ok (.iload_n 1, 1) := by decide +kernel
theorem dX8_turn_45 : decode cX8_turn 45 = .ok (.iaload, 1) := by decide +kernel
theorem dX8_turn_46 : decode cX8_turn 46 = .ok (.imul, 1) := by decide +kernel
theorem dX8_turn_47 : decode cX8_turn 47 = .ok (.aload 4, 2) := by decide +kernel
theorem dX8_turn_49 : decode cX8_turn 49 = .ok (.getfield 91, 3) := by decide +kernel
theorem dX8_turn_52 : decode cX8_turn 52 = .ok (.iload_n 1, 1) := by decide +kernel
theorem dX8_turn_53 : decode cX8_turn 53 = .ok (.iaload, 1) := by decide +kernel
theorem dX8_turn_54 : decode cX8_turn 54 = .ok (.iadd, 1) := by decide +kernel
theorem dX8_turn_55 : decode cX8_turn 55 = .ok (.istore 5, 2) := by decide +kernel
theorem dX8_turn_57 : decode cX8_turn 57 = .ok (.aload 4, 2) := by decide +kernel
theorem dX8_turn_59 : decode cX8_turn 59 = .ok (.getfield 87, 3) := by decide +kernel
theorem dX8_turn_62 : decode cX8_turn 62 = .ok (.iload_n 1, 1) := by decide +kernel
theorem dX8_turn_63 : decode cX8_turn 63 = .ok (.iload_n 2, 1) := by decide +kernel
theorem dX8_turn_64 : decode cX8_turn 64 = .ok (.iastore, 1) := by decide +kernel
theorem dX8_turn_65 : decode cX8_turn 65 = .ok (.aload 4, 2) := by decide +kernel
theorem dX8_turn_67 : decode cX8_turn 67 = .ok (.getfield 91, 3) := by decide +kernel
theorem dX8_turn_70 : decode cX8_turn 70 = .ok (.iload_n 1, 1) := by decide +kernel
theorem dX8_turn_71 : decode cX8_turn 71 = .ok (.iload_n 3, 1) := by decide +kernel
theorem dX8_turn_72 : decode cX8_turn 72 = .ok (.iastore, 1) := by decide +kernel
theorem dX8_turn_73 : decode cX8_turn 73 = .ok (.iload 5, 2) := by decide +kernel
theorem dX8_turn_75 : decode cX8_turn 75 = .ok (.ireturn, 1) := by decide +kernel
theorem dX8_join_0 : decode cX8_join 0 = .ok (.aload_n 0, 1) := by decide +kernel
theorem dX8_join_1 : decode cX8_join 1 = .ok (.getfield 14, 3) := by decide +kernel
theorem dX8_join_4 : decode cX8_join 4 = .ok (.getfield 67, 3) := by decide +kernel
theorem dX8_join_7 : decode cX8_join 7 = .ok (.astore 4, 2) := by decide +kernel
theorem dX8_join_9 : decode cX8_join 9 = .ok (.aload 4, 2) := by decide +kernel
theorem dX8_join_11 : decode cX8_join 11 = .ok (.iload_n 1, 1) := by decide +kernel
theorem dX8_join_12 : decode cX8_join 12 = .ok (.invokevirtual 84, 3) := by decide +kernel
theorem dX8_join_15 : decode cX8_join 15 = .ok (.ifCond .ne 5, 3) := by decide +kernel
theorem dX8_join_18 : decode cX8_join 18 = .ok (.iconst (-1), 1) := by decide +kernel
theorem dX8_join_19 : decode cX8_join 19 = .ok (.ireturn, 1) := by decide +kernel
theorem dX8_join_20 : decode cX8_join 20 = .ok (.iload_n 2, 1) := by decide +kernel
theorem dX8_join_21 : decode cX8_join 21 = .ok (.ifCond .eq 24, 3) := by decide +kernel
theorem dX8_join_24 : decode cX8_join 24 = .ok (.aload 4, 2) := by decide +kernel
theorem dX8_join_26 : decode cX8_join 26 = .ok (.iload_n 3, 1) := by decide +kernel
theorem dX8_join_27 : decode cX8_join 27 = .ok (.invokevirtual 94, 3) := by decide +kernel
theorem dX8_join_30 : decode cX8_join 30 = .ok (.ifCond .eq 13, 3) := by decide +kernel
theorem dX8_join_33 : decode cX8_join 33 = .ok (.aload 4, 2) := by decide +kernel
theorem dX8_join_35 : decode cX8_join 35 = .ok (.iload_n 1, 1) := by decide +kernel
theorem dX8_join_36 : decode cX8_join 36 = .ok (.iload_n 3, 1) := by decide +kernel
theorem dX8_join_37 : decode cX8_join 37 = .ok (.invokevirtual 97, 3) := by decide +kernel
theorem dX8_join_40 : decode cX8_join 40 = .ok (.goto 4, 3) := by decide +kernel
theorem dX8_join_43 : decode cX8_join 43 = .ok (.iconst (-1), 1) := by decide +kernel
theorem dX8_join_44 : decode cX8_join 44 = .ok (.ireturn, 1) := by decide +kernel
theorem dX8_join_45 : decode cX8_join 45 = .ok (.aload 4, 2) := by decide +kernel
theorem dX8_join_47 : decode cX8_join 47 = .ok (.iload_n 3, 1) := by decide +kernel
theorem dX8_join_48 : decode cX8_join 48 = .ok (.invokevirtual 84, 3) := by decide +kernel
theorem dX8_join_51 : decode cX8_join 51 = .ok (.ifCond .ne 5, 3) := by decide +kernel
theorem dX8_join_54 : decode cX8_join 54 = .ok (.iconst (-1), 1) := by decide +kernel
theorem dX8_join_55 : decode cX8_join 55 = .ok (.ireturn, 1) := by decide +kernel
theorem dX8_join_56 : decode cX8_join 56 = .ok (.iload_n 3, 1) := by decide +kernel
theorem dX8_join_57 : decode cX8_join 57 = .ok (.iload_n 1, 1) := by decide +kernel
theorem dX8_join_58 : decode cX8_join 58 = .ok (.if_icmp .lt 6, 3) := by decide +kernel
theorem dX8_join_61 : decode cX8_join 61 = .ok (.bipush (-3), 2) := by decide +kernel
theorem dX8_join_63 : decode cX8_join 63 = .ok (.ireturn, 1) := by decide +kernel
theorem dX8_join_64 : decode cX8_join 64 = .ok (.aload 4, 2) := by decide +kernel
theorem dX8_join_66 : decode cX8_join 66 = .ok (.iload_n 1, 1) := by decide +kernel
theorem dX8_join_67 : decode cX8_join 67 = .ok (.bipush 10, 2) := by decide +kernel
theorem dX8_join_69 : decode cX8_join 69 = .ok (.iload_n 3, 1) := by decide +kernel
theorem dX8_join_70 : decode cX8_join 70 = .ok (.iadd, 1) := by decide +kernel
theorem dX8_join_71 : decode cX8_join 71 = .ok (.invokevirtual 97, 3) := by decide +kernel
theorem dX8_join_74 : decode cX8_join 74 = .ok (.ireturn, 1) := by decide +kernel
theorem dX8_drop_0 : decode cX8_drop 0 = .ok (.aload_n 0, 1) := by decide +kernel
theorem dX8_drop_1 : decode cX8_drop 1 = .ok (.getfield 14, 3) := by decide +kernel
theorem dX8_drop_4 : decode cX8_drop 4 = .ok (.getfield 67, 3) := by decide +kernel
theorem dX8_drop_7 : decode cX8_drop 7 = .ok (.astore_n 2, 1) := by decide +kernel
theorem dX8_drop_8 : decode cX8_drop 8 = .ok (.aload_n 2, 1) := by decide +kernel
theorem dX8_drop_9 : decode cX8_drop 9 = .ok (.iload_n 1, 1) := by decide +kernel
theorem dX8_drop_10 : decode cX8_drop 10 = .ok (.invokevirtual 84, 3) := by decide +kernel
theorem dX8_drop_13 : decode cX8_drop 13 = .ok (.ifCond .ne 5, 3) := by decide +kernel
theorem dX8_drop_16 : decode cX8_drop 16 = .ok (.iconst (-1), 1) := by decide +kernel
theorem dX8_drop_17 : decode cX8_drop 17 = .ok (.ireturn, 1) := by decide +kernel
theorem dX8_drop_18 : decode cX8_drop 18 = .ok (.aload_n 2, 1) := by decide +kernel
theorem dX8_drop_19 : decode cX8_drop 19 = .ok (.getfield 100, 3) := by decide +kernel
theorem dX8_drop_22 : decode cX8_drop 22 = .ok (.iload_n 1, 1) := by decide +kernel
theorem dX8_drop_23 : decode cX8_drop 23 = .ok (.iaload, 1) := by decide +kernel
theorem dX8_drop_24 : decode cX8_drop 24 = .ok (.ifCond .ne 6, 3) := by decide +kernel
theorem dX8_drop_27 : decode cX8_drop 27 = .ok (.bipush (-3), 2) := by decide +kernel
theorem dX8_drop_29 : decode cX8_drop 29 = .ok (.ireturn, 1) := by decide +kernel
theorem dX8_drop_30 : decode cX8_drop 30 = .ok (.aload_n 2, 1) := by decide +kernel
theorem dX8_drop_31 : decode cX8_drop 31 = .ok (.getfield 100, 3) := by decide +kernel
theorem dX8_drop_34 : decode cX8_drop 34 = .ok (.iload_n 1, 1) := by decide +kernel
theorem dX8_drop_35 : decode cX8_drop 35 = .ok (.dup2, 1) := by decide +kernel
theorem dX8_drop_36 : decode cX8_drop 36 = .ok (.iaload, 1) := by decide +kernel
theorem dX8_drop_37 : decode cX8_drop 37 = .ok (.iconst 1, 1) := by decide +kernel
theorem dX8_drop_38 : decode cX8_drop 38 = .ok (.isub, 1) := by decide +kernel
theorem dX8_drop_39 : decode cX8_drop 39 = .ok (.iastore, 1) := by decide +kernel
theorem dX8_drop_40 : decode cX8_drop 40 = .ok (.aload_n 2, 1) := by decide +kernel
theorem dX8_drop_41 : decode cX8_drop 41 = .ok (.getfield 100, 3) := by decide +kernel
theorem dX8_drop_44 : decode cX8_drop 44 = .ok (.iload_n 1, 1) := by decide +kernel
theorem dX8_drop_45 : decode cX8_drop 45 = .ok (.iaload, 1) := by decide +kernel
theorem dX8_drop_46 : decode cX8_drop 46 = .ok (.ireturn, 1) := by decide +kernel
theorem dX8_top_0 : decode cX8_top 0 = .ok (.aload_n 0, 1) := by decide +kernel
theorem dX8_top_1 : decode cX8_top 1 = .ok (.getfield 14, 3) := by decide +kernel
theorem dX8_top_4 : decode cX8_top 4 = .ok (.getfield 67, 3) := by decide +kernel
theorem dX8_top_7 : decode cX8_top 7 = .ok (.astore_n 2, 1) := by decide +kernel
theorem dX8_top_8 : decode cX8_top 8 = .ok (.iload_n 1, 1) := by decide +kernel
theorem dX8_top_9 : decode cX8_top 9 = .ok (.iconst (-1), 1) := by decide +kernel
theorem dX8_top_10 : decode cX8_top 10 = .ok (.if_icmp .eq 13, 3) := by decide +kernel
theorem dX8_top_13 : decode cX8_top 13 = .ok (.aload_n 2, 1) := by decide +kernel
theorem dX8_top_14 : decode cX8_top 14 = .ok (.iload_n 1, 1) := by decide +kernel
theorem dX8_top_15 : decode cX8_top 15 = .ok (.invokevirtual 84, 3) := by decide +kernel
theorem dX8_top_18 : decode cX8_top 18 = .ok (.ifCond .ne 5, 3) := by decide +kernel
theorem dX8_top_21 : decode cX8_top 21 = .ok (.iconst (-1), 1) := by decide +kernel
theorem dX8_top_22 : decode cX8_top 22 = .ok (.ireturn, 1) := by decide +kernel
theorem dX8_top_23 : decode cX8_top 23 = .ok (.aload_n 2, 1) := by decide +kernel
theorem dX8_top_24 : decode cX8_top 24 = .ok (.invokevirtual 103, 3) := by decide +kernel
theorem dX8_top_27 : decode cX8_top 27 = .ok (.istore_n 3, 1) := by decide +kernel
theorem dX8_top_28 : decode cX8_top 28 = .ok (.aload_n 2, 1) := by decide +kernel
theorem dX8_top_29 : decode cX8_top 29 = .ok (.iload_n 1, 1) := by decide +kernel
theorem dX8_top_30 : decode cX8_top 30 = .ok (.putfield 107, 3) := by decide +kernel
theorem dX8_top_33 : decode cX8_top 33 = .ok (.iload_n 3, 1) := by decide +kernel
theorem dX8_top_34 : decode cX8_top 34 = .ok (.ireturn, 1) := by decide +kernel
theorem dX8_cause_0 : decode cX8_cause 0 = .ok (.iload_n 1, 1) := by decide +kernel
theorem dX8_cause_1 : decode cX8_cause 1 = .ok (.invokestatic 63, 3) := by decide +kernel
theorem dX8_cause_4 : decode cX8_cause 4 = .ok (.ifCond .eq 17, 3) := by decide +kernel
theorem dX8_cause_7 : decode cX8_cause 7 = .ok (.aload_n 0, 1) := by decide +kernel
theorem dX8_cause_8 : decode cX8_cause 8 = .ok (.getfield 14, 3) := by decide +kernel
theorem dX8_cause_11 : decode cX8_cause 11 = .ok (.getfield 67, 3) := by decide +kernel
theorem dX8_cause_14 : decode cX8_cause 14 = .ok (.iload_n 2, 1) := by decide +kernel
theorem dX8_cause_15 : decode cX8_cause 15 = .ok (.invokevirtual 111, 3) := by decide +kernel
theorem dX8_cause_18 : decode cX8_cause 18 = .ok (.ifCond .ne 6, 3) := by decide +kernel
theorem dX8_cause_21 : decode cX8_cause 21 = .ok (.bipush (-2), 2) := by decide +kernel
theorem dX8_cause_23 : decode cX8_cause 23 = .ok (.ireturn, 1) := by decide +kernel
theorem dX8_cause_24 : decode cX8_cause 24 = .ok (.aload_n 0, 1) := by decide +kernel
theorem dX8_cause_25 : decode cX8_cause 25 = .ok (.getfield 14, 3) := by decide +kernel
theorem dX8_cause_28 : decode cX8_cause 28 = .ok (.getfield 67, 3) := by decide +kernel
theorem dX8_cause_31 : decode cX8_cause 31 = .ok (.iload_n 1, 1) := by decide +kernel
theorem dX8_cause_32 : decode cX8_cause 32 = .ok (.iload_n 2, 1) := by decide +kernel
theorem dX8_cause_33 : decode cX8_cause 33 = .ok (.invokevirtual 114, 3) := by decide +kernel
theorem dX8_cause_36 : decode cX8_cause 36 = .ok (.ireturn, 1) := by decide +kernel
theorem dX8_odds_0 : decode cX8_odds 0 = .ok (.aload_n 0, 1) := by decide +kernel
theorem dX8_odds_1 : decode cX8_odds 1 = .ok (.getfield 14, 3) := by decide +kernel
theorem dX8_odds_4 : decode cX8_odds 4 = .ok (.getfield 67, 3) := by decide +kernel
theorem dX8_odds_7 : decode cX8_odds 7 = .ok (.astore 4, 2) := by decide +kernel
theorem dX8_odds_9 : decode cX8_odds 9 = .ok (.iload_n 1, 1) := by decide +kernel
theorem dX8_odds_10 : decode cX8_odds 10 = .ok (.ifCond .ne 16, 3) := by decide +kernel
theorem dX8_odds_13 : decode cX8_odds 13 = .ok (.aload 4, 2) := by decide +kernel
theorem dX8_odds_15 : decode cX8_odds 15 = .ok (.iload_n 2, 1) := by decide +kernel
theorem dX8_odds_16 : decode cX8_odds 16 = .ok (.invokevirtual 94, 3) := by decide +kernel
theorem dX8_odds_19 : decode cX8_odds 19 = .ok (.ifCond .eq 7, 3) := by decide +kernel
theorem dX8_odds_22 : decode cX8_odds 22 = .ok (.iconst 1, 1) := by decide +kernel
theorem dX8_odds_23 : decode cX8_odds 23 = .ok (.goto 4, 3) := by decide +kernel
theorem dX8_odds_26 : decode cX8_odds 26 = .ok (.iconst 0, 1) := by decide +kernel
theorem dX8_odds_27 : decode cX8_odds 27 = .ok (.istore 5, 2) := by decide +kernel
theorem dX8_odds_29 : decode cX8_odds 29 = .ok (.iload_n 1, 1) := by decide +kernel
theorem dX8_odds_30 : decode cX8_odds 30 = .ok (.iconst 1, 1) := by decide +kernel
theorem dX8_odds_31 : decode cX8_odds 31 = .ok (.if_icmp .ne 16, 3) := by decide +kernel
theorem dX8_odds_34 : decode cX8_odds 34 = .ok (.aload 4, 2) := by decide +kernel
theorem dX8_odds_36 : decode cX8_odds 36 = .ok (.iload_n 2, 1) := by decide +kernel
theorem dX8_odds_37 : decode cX8_odds 37 = .ok (.invokevirtual 117, 3) := by decide +kernel
theorem dX8_odds_40 : decode cX8_odds 40 = .ok (.ifCond .eq 7, 3) := by decide +kernel
theorem dX8_odds_43 : decode cX8_odds 43 = .ok (.iconst 1, 1) := by decide +kernel
theorem dX8_odds_44 : decode cX8_odds 44 = .ok (.goto 4, 3) := by decide +kernel
theorem dX8_odds_47 : decode cX8_odds 47 = .ok (.iconst 0, 1) := by decide +kernel
theorem dX8_odds_48 : decode cX8_odds 48 = .ok (.istore 6, 2) := by decide +kernel
theorem dX8_odds_50 : decode cX8_odds 50 = .ok (.iload 5, 2) := by decide +kernel
theorem dX8_odds_52 : decode cX8_odds 52 = .ok (.ifCond .ne 10, 3) := by decide +kernel
theorem dX8_odds_55 : decode cX8_odds 55 = .ok (.iload 6, 2) := by decide +kernel
theorem dX8_odds_57 : decode cX8_odds 57 = .ok (.ifCond .ne 5, 3) := by decide +kernel
theorem dX8_odds_60 : decode cX8_odds 60 = .ok (.iconst (-1), 1) := by decide +kernel
theorem dX8_odds_61 : decode cX8_odds 61 = .ok (.ireturn, 1) := by decide +kernel
theorem dX8_odds_62 : decode cX8_odds 62 = .ok (.iload_n 3, 1) := by decide +kernel
theorem dX8_odds_63 : decode cX8_odds 63 = .ok (.invokestatic 63, 3) := by decide +kernel
theorem dX8_odds_66 : decode cX8_odds 66 = .ok (.ifCond .ne 6, 3) := by decide +kernel
theorem dX8_odds_69 : decode cX8_odds 69 = .ok (.bipush (-2), 2) := by decide +kernel
theorem dX8_odds_71 : decode cX8_odds 71 = .ok (.ireturn, 1) := by decide +kernel
theorem dX8_odds_72 : decode cX8_odds 72 = .ok (.iload 5, 2) := by decide +kernel
theorem dX8_odds_74 : decode cX8_odds 74 = .ok (.ifCond .eq 11, 3) := by decide +kernel
theorem dX8_odds_77 : decode cX8_odds 77 = .ok (.aload 4, 2) := by decide +kernel
theorem dX8_odds_79 : decode cX8_odds 79 = .ok (.getfield 120, 3) := by decide +kernel
theorem dX8_odds_82 : decode cX8_odds 82 = .ok (.goto 8, 3) := by decide +kernel
theorem dX8_odds_85 : decode cX8_odds 85 = .ok (.aload 4, 2) := by decide +kernel
theorem dX8_odds_87 : decode cX8_odds 87 = .ok (.getfield 123, 3) := by decide +kernel
theorem dX8_odds_90 : decode cX8_odds 90 = .ok (.astore 7, 2) := by decide +kernel
theorem dX8_odds_92 : decode cX8_odds 92 = .ok (.aload 7, 2) := by decide +kernel
theorem dX8_odds_94 : decode cX8_odds 94 = .ok (.iload_n 2, 1) := by decide +kernel
theorem dX8_odds_95 : decode cX8_odds 95 = .ok (.iaload, 1) := by decide +kernel
theorem dX8_odds_96 : decode cX8_odds 96 = .ok (.istore 8, 2) := by decide +kernel
theorem dX8_odds_98 : decode cX8_odds 98 = .ok (.aload 7, 2) := by decide +kernel
theorem dX8_odds_100 : decode cX8_odds 100 = .ok (.iload_n 2, 1) := by decide +kernel
theorem dX8_odds_101 : decode cX8_odds 101 = .ok (.iload_n 3, 1) := by decide +kernel
theorem dX8_odds_102 : decode cX8_odds 102 = .ok (.iastore, 1) := by decide +kernel
theorem dX8_odds_103 : decode cX8_odds 103 = .ok (.iload 8, 2) := by decide +kernel
theorem dX8_odds_105 : decode cX8_odds 105 = .ok (.ireturn, 1) := by decide +kernel
theorem dX8_of_0 : decode cX8_of 0 = .ok (.iload_n 1, 1) := by decide +kernel
theorem dX8_of_1 : decode cX8_of 1 = .ok (.tableswitch 66 0 2 #[27, 40, 53], 27) := by decide +kernel
theorem dX8_of_28 : decode cX8_of 28 = .ok (.aload_n 0, 1) := by decide +kernel
theorem dX8_of_29 : decode cX8_of 29 = .ok (.getfield 14, 3) := by decide +kernel
theorem dX8_of_32 : decode cX8_of 32 = .ok (.getfield 67, 3) := by decide +kernel
theorem dX8_of_35 : decode cX8_of 35 = .ok (.iload_n 2, 1) := by decide +kernel
theorem dX8_of_36 : decode cX8_of 36 = .ok (.iload_n 3, 1) := by decide +kernel
theorem dX8_of_37 : decode cX8_of 37 = .ok (.invokevirtual 126, 3) := by decide +kernel
theorem dX8_of_40 : decode cX8_of 40 = .ok (.ireturn, 1) := by decide +kernel
theorem dX8_of_41 : decode cX8_of 41 = .ok (.aload_n 0, 1) := by decide +kernel
theorem dX8_of_42 : decode cX8_of 42 = .ok (.getfield 14, 3) := by decide +kernel
theorem dX8_of_45 : decode cX8_of 45 = .ok (.getfield 67, 3) := by decide +kernel
theorem dX8_of_48 : decode cX8_of 48 = .ok (.iload_n 2, 1) := by decide +kernel
theorem dX8_of_49 : decode cX8_of 49 = .ok (.iload_n 3, 1) := by decide +kernel
theorem dX8_of_50 : decode cX8_of 50 = .ok (.invokevirtual 129, 3) := by decide +kernel
theorem dX8_of_53 : decode cX8_of 53 = .ok (.ireturn, 1) := by decide +kernel
theorem dX8_of_54 : decode cX8_of 54 = .ok (.aload_n 0, 1) := by decide +kernel
theorem dX8_of_55 : decode cX8_of 55 = .ok (.getfield 14, 3) := by decide +kernel
theorem dX8_of_58 : decode cX8_of 58 = .ok (.getfield 67, 3) := by decide +kernel
theorem dX8_of_61 : decode cX8_of 61 = .ok (.iload_n 2, 1) := by decide +kernel
theorem dX8_of_62 : decode cX8_of 62 = .ok (.iload_n 3, 1) := by decide +kernel
theorem dX8_of_63 : decode cX8_of 63 = .ok (.invokevirtual 132, 3) := by decide +kernel
theorem dX8_of_66 : decode cX8_of 66 = .ok (.ireturn, 1) := by decide +kernel
theorem dX8_of_67 : decode cX8_of 67 = .ok (.iconst (-1), 1) := by decide +kernel
theorem dX8_of_68 : decode cX8_of 68 = .ok (.ireturn, 1) := by decide +kernel
theorem dX8_feed_0 : decode cX8_feed 0 = .ok (.iload_n 1, 1) := by decide +kernel
theorem dX8_feed_1 : decode cX8_feed 1 = .ok (.ifCond .lt 9, 3) := by decide +kernel
theorem dX8_feed_4 : decode cX8_feed 4 = .ok (.iload_n 1, 1) := by decide +kernel
theorem dX8_feed_5 : decode cX8_feed 5 = .ok (.bipush 127, 2) := by decide +kernel
theorem dX8_feed_7 : decode cX8_feed 7 = .ok (.if_icmp .le 6, 3) := by decide +kernel
theorem dX8_feed_10 : decode cX8_feed 10 = .ok (.bipush (-2), 2) := by decide +kernel
theorem dX8_feed_12 : decode cX8_feed 12 = .ok (.ireturn, 1) := by decide +kernel
theorem dX8_feed_13 : decode cX8_feed 13 = .ok (.aload_n 0, 1) := by decide +kernel
theorem dX8_feed_14 : decode cX8_feed 14 = .ok (.getfield 52, 3) := by decide +kernel
theorem dX8_feed_17 : decode cX8_feed 17 = .ok (.iload_n 1, 1) := by decide +kernel
theorem dX8_feed_18 : decode cX8_feed 18 = .ok (.invokevirtual 135, 3) := by decide +kernel
theorem dX8_feed_21 : decode cX8_feed 21 = .ok (.ireturn, 1) := by decide +kernel
theorem dX8_read_0 : decode cX8_read 0 = .ok (.aload_n 0, 1) := by decide +kernel
theorem dX8_read_1 : decode cX8_read 1 = .ok (.getfield 52, 3) := by decide +kernel
theorem dX8_read_4 : decode cX8_read 4 = .ok (.invokevirtual 138, 3) := by decide +kernel
theorem dX8_read_7 : decode cX8_read 7 = .ok (.istore_n 1, 1) := by decide +kernel
theorem dX8_read_8 : decode cX8_read 8 = .ok (.aload_n 0, 1) := by decide +kernel
theorem dX8_read_9 : decode cX8_read 9 = .ok (.getfield 52, 3) := by decide +kernel
theorem dX8_read_12 : decode cX8_read 12 = .ok (.iconst 0, 1) := by decide +kernel
theorem dX8_read_13 : decode cX8_read 13 = .ok (.putfield 142, 3) := by decide +kernel
theorem dX8_read_16 : decode cX8_read 16 = .ok (.iload_n 1, 1) := by decide +kernel
theorem dX8_read_17 : decode cX8_read 17 = .ok (.ifCond .ne 14, 3) := by decide +kernel
theorem dX8_read_20 : decode cX8_read 20 = .ok (.bipush (-10), 2) := by decide +kernel
theorem dX8_read_22 : decode cX8_read 22 = .ok (.aload_n 0, 1) := by decide +kernel
theorem dX8_read_23 : decode cX8_read 23 = .ok (.getfield 52, 3) := by decide +kernel
theorem dX8_read_26 : decode cX8_read 26 = .ok (.getfield 145, 3) := by decide +kernel
theorem dX8_read_29 : decode cX8_read 29 = .ok (.isub, 1) := by decide +kernel
theorem dX8_read_30 : decode cX8_read 30 = .ok (.ireturn, 1) := by decide +kernel
theorem dX8_read_31 : decode cX8_read 31 = .ok (.iconst 0, 1) := by decide +kernel
theorem dX8_read_32 : decode cX8_read 32 = .ok (.istore_n 2, 1) := by decide +kernel
theorem dX8_read_33 : decode cX8_read 33 = .ok (.iconst 0, 1) := by decide +kernel
theorem dX8_read_34 : decode cX8_read 34 = .ok (.istore_n 3, 1) := by decide +kernel
theorem dX8_read_35 : decode cX8_read 35 = .ok (.iload_n 3, 1) := by decide +kernel
theorem dX8_read_36 : decode cX8_read 36 = .ok (.aload_n 0, 1) := by decide +kernel
theorem dX8_read_37 : decode cX8_read 37 = .ok (.getfield 52, 3) := by decide +kernel
theorem dX8_read_40 : decode cX8_read 40 = .ok (.getfield 148, 3) := by decide +kernel
theorem dX8_read_43 : decode cX8_read 43 = .ok (.if_icmp .ge 20, 3) := by decide +kernel
theorem dX8_read_46 : decode cX8_read 46 = .ok (.aload_n 0, 1) := by decide +kernel
theorem dX8_read_47 : decode cX8_read 47 = .ok (.iload_n 3, 1) := by decide +kernel
theorem dX8_read_48 : decode cX8_read 48 = .ok (.invokevirtual 151, 3) := by decide +kernel
theorem dX8_read_51 : decode cX8_read 51 = .ok (.ifCond .lt 6, 3) := by decide +kernel
theorem dX8_read_54 : decode cX8_read 54 = .ok (.iinc 2 1, 3) := by decide +kernel
theorem dX8_read_57 : decode cX8_read 57 = .ok (.iinc 3 1, 3) := by decide +kernel
theorem dX8_read_60 : decode cX8_read 60 = .ok (.goto (-25), 3) := by decide +kernel
theorem dX8_read_63 : decode cX8_read 63 = .ok (.iload_n 2, 1) := by decide +kernel
theorem dX8_read_64 : decode cX8_read 64 = .ok (.ireturn, 1) := by decide +kernel
theorem dX8_obey_0 : decode cX8_obey 0 = .ok (.aload_n 0, 1) := by decide +kernel
theorem dX8_obey_1 : decode cX8_obey 1 = .ok (.getfield 52, 3) := by decide +kernel
theorem dX8_obey_4 : decode cX8_obey 4 = .ok (.getfield 154, 3) := by decide +kernel
theorem dX8_obey_7 : decode cX8_obey 7 = .ok (.iload_n 1, 1) := by decide +kernel
theorem dX8_obey_8 : decode cX8_obey 8 = .ok (.iaload, 1) := by decide +kernel
theorem dX8_obey_9 : decode cX8_obey 9 = .ok (.istore_n 2, 1) := by decide +kernel
theorem dX8_obey_10 : decode cX8_obey 10 = .ok (.aload_n 0, 1) := by decide +kernel
theorem dX8_obey_11 : decode cX8_obey 11 = .ok (.getfield 52, 3) := by decide +kernel
theorem dX8_obey_14 : decode cX8_obey 14 = .ok (.getfield 157, 3) := by decide +kernel
theorem dX8_obey_17 : decode cX8_obey 17 = .ok (.iload_n 1, 1) := by decide +kernel
theorem dX8_obey_18 : decode cX8_obey 18 = .ok (.iaload, 1) := by decide +kernel
theorem dX8_obey_19 : decode cX8_obey 19 = .ok (.istore_n 3, 1) := by decide +kernel
theorem dX8_obey_20 : decode cX8_obey 20 = .ok (.aload_n 0, 1) := by decide +kernel
theorem dX8_obey_21 : decode cX8_obey 21 = .ok (.getfield 52, 3) := by decide +kernel
theorem dX8_obey_24 : decode cX8_obey 24 = .ok (.getfield 160, 3) := by decide +kernel
theorem dX8_obey_27 : decode cX8_obey 27 = .ok (.iload_n 1, 1) := by decide +kernel
theorem dX8_obey_28 : decode cX8_obey 28 = .ok (.iaload, 1) := by decide +kernel
theorem dX8_obey_29 : decode cX8_obey 29 = .ok (.tableswitch 71 0 4 #[35, 41, 48, 56, 64], 35) := by decide +kernel
theorem dX8_obey_64 : decode cX8_obey 64 = .ok (.aload_n 0, 1) := by decide +kernel
theorem dX8_obey_65 : decode cX8_obey 65 = .ok (.iload_n 2, 1) := by decide +kernel
theorem dX8_obey_66 : decode cX8_obey 66 = .ok (.invokevirtual 163, 3) := by decide +kernel
theorem dX8_obey_69 : decode cX8_obey 69 = .ok (.ireturn, 1) := by decide +kernel
theorem dX8_obey_70 : decode cX8_obey 70 = .ok (.aload_n 0, 1) := by decide +kernel
theorem dX8_obey_71 : decode cX8_obey 71 = .ok (.iload_n 2, 1) := by decide +kernel
theorem dX8_obey_72 : decode cX8_obey 72 = .ok (.iload_n 3, 1) := by decide +kernel
theorem dX8_obey_73 : decode cX8_obey 73 = .ok (.invokevirtual 166, 3) := by decide +kernel
theorem dX8_obey_76 : decode cX8_obey 76 = .ok (.ireturn, 1) := by decide +kernel
theorem dX8_obey_77 : decode cX8_obey 77 = .ok (.aload_n 0, 1) := by decide +kernel
theorem dX8_obey_78 : decode cX8_obey 78 = .ok (.iload_n 2, 1) := by decide +kernel
theorem dX8_obey_79 : decode cX8_obey 79 = .ok (.iconst 1, 1) := by decide +kernel
theorem dX8_obey_80 : decode cX8_obey 80 = .ok (.iload_n 3, 1) := by decide +kernel
theorem dX8_obey_81 : decode cX8_obey 81 = .ok (.invokevirtual 169, 3) := by decide +kernel
theorem dX8_obey_84 : decode cX8_obey 84 = .ok (.ireturn, 1) := by decide +kernel
theorem dX8_obey_85 : decode cX8_obey 85 = .ok (.aload_n 0, 1) := by decide +kernel
theorem dX8_obey_86 : decode cX8_obey 86 = .ok (.iload_n 2, 1) := by decide +kernel
theorem dX8_obey_87 : decode cX8_obey 87 = .ok (.iconst 0, 1) := by decide +kernel
theorem dX8_obey_88 : decode cX8_obey 88 = .ok (.iload_n 3, 1) := by decide +kernel
theorem dX8_obey_89 : decode cX8_obey 89 = .ok (.invokevirtual 169, 3) := by decide +kernel
theorem dX8_obey_92 : decode cX8_obey 92 = .ok (.ireturn, 1) := by decide +kernel
theorem dX8_obey_93 : decode cX8_obey 93 = .ok (.aload_n 0, 1) := by decide +kernel
theorem dX8_obey_94 : decode cX8_obey 94 = .ok (.iload_n 2, 1) := by decide +kernel
theorem dX8_obey_95 : decode cX8_obey 95 = .ok (.iload_n 3, 1) := by decide +kernel
theorem dX8_obey_96 : decode cX8_obey 96 = .ok (.invokevirtual 173, 3) := by decide +kernel
theorem dX8_obey_99 : decode cX8_obey 99 = .ok (.ireturn, 1) := by decide +kernel
theorem dX8_obey_100 : decode cX8_obey 100 = .ok (.iconst (-1), 1) := by decide +kernel
theorem dX8_obey_101 : decode cX8_obey 101 = .ok (.ireturn, 1) := by decide +kernel
theorem dX8_fails_0 : decode cX8_fails 0 = .ok (.aload_n 0, 1) := by decide +kernel
theorem dX8_fails_1 : decode cX8_fails 1 = .ok (.getfield 14, 3) := by decide +kernel
theorem dX8_fails_4 : decode cX8_fails 4 = .ok (.getfield 67, 3) := by decide +kernel
theorem dX8_fails_7 : decode cX8_fails 7 = .ok (.astore_n 3, 1) := by decide +kernel
theorem dX8_fails_8 : decode cX8_fails 8 = .ok (.iload_n 1, 1) := by decide +kernel
theorem dX8_fails_9 : decode cX8_fails 9 = .ok (.iconst (-1), 1) := by decide +kernel
theorem dX8_fails_10 : decode cX8_fails 10 = .ok (.if_icmp .ne 10, 3) := by decide +kernel
theorem dX8_fails_13 : decode cX8_fails 13 = .ok (.aload_n 3, 1) := by decide +kernel
theorem dX8_fails_14 : decode cX8_fails 14 = .ok (.invokevirtual 103, 3) := by decide +kernel
theorem dX8_fails_17 : decode cX8_fails 17 = .ok (.goto 4, 3) := by decide +kernel
theorem dX8_fails_20 : decode cX8_fails 20 = .ok (.iload_n 1, 1) := by decide +kernel
theorem dX8_fails_21 : decode cX8_fails 21 = .ok (.istore 4, 2) := by decide +kernel
theorem dX8_fails_23 : decode cX8_fails 23 = .ok (.aload_n 3, 1) := by decide +kernel
theorem dX8_fails_24 : decode cX8_fails 24 = .ok (.iload 4, 2) := by decide +kernel
theorem dX8_fails_26 : decode cX8_fails 26 = .ok (.invokevirtual 84, 3) := by decide +kernel
theorem dX8_fails_29 : decode cX8_fails 29 = .ok (.ifCond .ne 5, 3) := by decide +kernel
theorem dX8_fails_32 : decode cX8_fails 32 = .ok (.iconst (-1), 1) := by decide +kernel
theorem dX8_fails_33 : decode cX8_fails 33 = .ok (.ireturn, 1) := by decide +kernel
theorem dX8_fails_34 : decode cX8_fails 34 = .ok (.aload_n 3, 1) := by decide +kernel
theorem dX8_fails_35 : decode cX8_fails 35 = .ok (.iload_n 2, 1) := by decide +kernel
theorem dX8_fails_36 : decode cX8_fails 36 = .ok (.invokevirtual 111, 3) := by decide +kernel
theorem dX8_fails_39 : decode cX8_fails 39 = .ok (.ifCond .ne 6, 3) := by decide +kernel
theorem dX8_fails_42 : decode cX8_fails 42 = .ok (.bipush (-2), 2) := by decide +kernel
theorem dX8_fails_44 : decode cX8_fails 44 = .ok (.ireturn, 1) := by decide +kernel
theorem dX8_fails_45 : decode cX8_fails 45 = .ok (.aload_n 3, 1) := by decide +kernel
theorem dX8_fails_46 : decode cX8_fails 46 = .ok (.iload 4, 2) := by decide +kernel
theorem dX8_fails_48 : decode cX8_fails 48 = .ok (.invokevirtual 176, 3) := by decide +kernel
theorem dX8_fails_51 : decode cX8_fails 51 = .ok (.iload_n 2, 1) := by decide +kernel
theorem dX8_fails_52 : decode cX8_fails 52 = .ok (.invokestatic 180, 3) := by decide +kernel
theorem dX8_fails_55 : decode cX8_fails 55 = .ok (.ifCond .eq 7, 3) := by decide +kernel
theorem dX8_fails_58 : decode cX8_fails 58 = .ok (.iconst 1, 1) := by decide +kernel
theorem dX8_fails_59 : decode cX8_fails 59 = .ok (.goto 4, 3) := by decide +kernel
theorem dX8_fails_62 : decode cX8_fails 62 = .ok (.iconst 0, 1) := by decide +kernel
theorem dX8_fails_63 : decode cX8_fails 63 = .ok (.ireturn, 1) := by decide +kernel
theorem dX8_move_0 : decode cX8_move 0 = .ok (.aload_n 0, 1) := by decide +kernel
theorem dX8_move_1 : decode cX8_move 1 = .ok (.getfield 14, 3) := by decide +kernel
theorem dX8_move_4 : decode cX8_move 4 = .ok (.getfield 67, 3) := by decide +kernel
theorem dX8_move_7 : decode cX8_move 7 = .ok (.astore_n 3, 1) := by decide +kernel
theorem dX8_move_8 : decode cX8_move 8 = .ok (.aload_n 3, 1) := by decide +kernel
theorem dX8_move_9 : decode cX8_move 9 = .ok (.iload_n 1, 1) := by decide +kernel
theorem dX8_move_10 : decode cX8_move 10 = .ok (.invokevirtual 94, 3) := by decide +kernel
theorem dX8_move_13 : decode cX8_move 13 = .ok (.ifCond .ne 5, 3) := by decide +kernel
theorem dX8_move_16 : decode cX8_move 16 = .ok (.iconst (-1), 1) := by decide +kernel
theorem dX8_move_17 : decode cX8_move 17 = .ok (.ireturn, 1) := by decide +kernel
theorem dX8_move_18 : decode cX8_move 18 = .ok (.aload_n 3, 1) := by decide +kernel
theorem dX8_move_19 : decode cX8_move 19 = .ok (.iload_n 2, 1) := by decide +kernel
theorem dX8_move_20 : decode cX8_move 20 = .ok (.invokevirtual 184, 3) := by decide +kernel
theorem dX8_move_23 : decode cX8_move 23 = .ok (.ifCond .ne 6, 3) := by decide +kernel
theorem dX8_move_26 : decode cX8_move 26 = .ok (.bipush (-2), 2) := by decide +kernel
theorem dX8_move_28 : decode cX8_move 28 = .ok (.ireturn, 1) := by decide +kernel
theorem dX8_move_29 : decode cX8_move 29 = .ok (.aload_n 3, 1) := by decide +kernel
theorem dX8_move_30 : decode cX8_move 30 = .ok (.iload_n 1, 1) := by decide +kernel
theorem dX8_move_31 : decode cX8_move 31 = .ok (.iload_n 2, 1) := by decide +kernel
theorem dX8_move_32 : decode cX8_move 32 = .ok (.invokevirtual 187, 3) := by decide +kernel
theorem dX8_move_35 : decode cX8_move 35 = .ok (.ireturn, 1) := by decide +kernel
theorem dX8_sift_0 : decode cX8_sift 0 = .ok (.aload_n 0, 1) := by decide +kernel
theorem dX8_sift_1 : decode cX8_sift 1 = .ok (.getfield 14, 3) := by decide +kernel
theorem dX8_sift_4 : decode cX8_sift 4 = .ok (.getfield 67, 3) := by decide +kernel
theorem dX8_sift_7 : decode cX8_sift 7 = .ok (.astore_n 2, 1) := by decide +kernel
theorem dX8_sift_8 : decode cX8_sift 8 = .ok (.aload_n 2, 1) := by decide +kernel
theorem dX8_sift_9 : decode cX8_sift 9 = .ok (.iload_n 1, 1) := by decide +kernel
theorem dX8_sift_10 : decode cX8_sift 10 = .ok (.invokevirtual 94, 3) := by decide +kernel
theorem dX8_sift_13 : decode cX8_sift 13 = .ok (.ifCond .ne 5, 3) := by decide +kernel
theorem dX8_sift_16 : decode cX8_sift 16 = .ok (.iconst (-1), 1) := by decide +kernel
theorem dX8_sift_17 : decode cX8_sift 17 = .ok (.ireturn, 1) := by decide +kernel
theorem dX8_sift_18 : decode cX8_sift 18 = .ok (.aload_n 2, 1) := by decide +kernel
theorem dX8_sift_19 : decode cX8_sift 19 = .ok (.getfield 190, 3) := by decide +kernel
theorem dX8_sift_22 : decode cX8_sift 22 = .ok (.ifCond .ne 6, 3) := by decide +kernel
theorem dX8_sift_25 : decode cX8_sift 25 = .ok (.bipush (-3), 2) := by decide +kernel
theorem dX8_sift_27 : decode cX8_sift 27 = .ok (.ireturn, 1) := by decide +kernel
theorem dX8_sift_28 : decode cX8_sift 28 = .ok (.aload_n 0, 1) := by decide +kernel
theorem dX8_sift_29 : decode cX8_sift 29 = .ok (.iload_n 1, 1) := by decide +kernel
theorem dX8_sift_30 : decode cX8_sift 30 = .ok (.invokevirtual 193, 3) := by decide +kernel
theorem dX8_sift_33 : decode cX8_sift 33 = .ok (.istore_n 3, 1) := by decide +kernel
theorem dX8_sift_34 : decode cX8_sift 34 = .ok (.aload_n 2, 1) := by decide +kernel
theorem dX8_sift_35 : decode cX8_sift 35 = .ok (.iload_n 1, 1) := by decide +kernel
theorem dX8_sift_36 : decode cX8_sift 36 = .ok (.iload_n 3, 1) := by decide +kernel
theorem dX8_sift_37 : decode cX8_sift 37 = .ok (.invokevirtual 187, 3) := by decide +kernel
theorem dX8_sift_40 : decode cX8_sift 40 = .ok (.pop, 1) := by decide +kernel
theorem dX8_sift_41 : decode cX8_sift 41 = .ok (.iload_n 3, 1) := by decide +kernel
theorem dX8_sift_42 : decode cX8_sift 42 = .ok (.ireturn, 1) := by decide +kernel
theorem dX8_sifted_0 : decode cX8_sifted 0 = .ok (.aload_n 0, 1) := by decide +kernel
theorem dX8_sifted_1 : decode cX8_sifted 1 = .ok (.getfield 24, 3) := by decide +kernel
theorem dX8_sifted_4 : decode cX8_sifted 4 = .ok (.aload_n 0, 1) := by decide +kernel
theorem dX8_sifted_5 : decode cX8_sifted 5 = .ok (.getfield 14, 3) := by decide +kernel
theorem dX8_sifted_8 : decode cX8_sifted 8 = .ok (.getfield 67, 3) := by decide +kernel
theorem dX8_sifted_11 : decode cX8_sifted 11 = .ok (.invokevirtual 196, 3) := by decide +kernel
theorem dX8_sifted_14 : decode cX8_sifted 14 = .ok (.aload_n 0, 1) := by decide +kernel
theorem dX8_sifted_15 : decode cX8_sifted 15 = .ok (.getfield 24, 3) := by decide +kernel
theorem dX8_sifted_18 : decode cX8_sifted 18 = .ok (.invokevirtual 200, 3) := by decide +kernel
theorem dX8_sifted_21 : decode cX8_sifted 21 = .ok (.lstore_n 2, 1) := by decide +kernel
theorem dX8_sifted_22 : decode cX8_sifted 22 = .ok (.iconst 0, 1) := by decide +kernel
theorem dX8_sifted_23 : decode cX8_sifted 23 = .ok (.istore 4, 2) := by decide +kernel
theorem dX8_sifted_25 : decode cX8_sifted 25 = .ok (.bipush 65, 2) := by decide +kernel
theorem dX8_sifted_27 : decode cX8_sifted 27 = .ok (.istore 5, 2) := by decide +kernel
theorem dX8_sifted_29 : decode cX8_sifted 29 = .ok (.iconst 0, 1) := by decide +kernel
theorem dX8_sifted_30 : decode cX8_sifted 30 = .ok (.istore 6, 2) := by decide +kernel
theorem dX8_sifted_32 : decode cX8_sifted 32 = .ok (.iload 6, 2) := by decide +kernel
theorem dX8_sifted_34 : decode cX8_sifted 34 = .ok (.aload_n 0, 1) := by decide +kernel
theorem dX8_sifted_35 : decode cX8_sifted 35 = .ok (.getfield 24, 3) := by decide +kernel
theorem dX8_sifted_38 : decode cX8_sifted 38 = .ok (.getfield 204, 3) := by decide +kernel
theorem dX8_sifted_41 : decode cX8_sifted 41 = .ok (.if_icmp .ge 49, 3) := by decide +kernel
theorem dX8_sifted_44 : decode cX8_sifted 44 = .ok (.aload_n 0, 1) := by decide +kernel
theorem dX8_sifted_45 : decode cX8_sifted 45 = .ok (.getfield 24, 3) := by decide +kernel
theorem dX8_sifted_48 : decode cX8_sifted 48 = .ok (.iload_n 1, 1) := by decide +kernel
theorem dX8_sifted_49 : decode cX8_sifted 49 = .ok (.iload 6, 2) := by decide +kernel
theorem dX8_sifted_51 : decode cX8_sifted 51 = .ok (.invokevirtual 187, 3) := by decide +kernel
theorem dX8_sifted_54 : decode cX8_sifted 54 = .ok (.pop, 1) := by decide +kernel
theorem dX8_sifted_55 : decode cX8_sifted 55 = .ok (.aload_n 0, 1) := by decide +kernel
theorem dX8_sifted_56 : decode cX8_sifted 56 = .ok (.getfield 31, 3) := by decide +kernel
theorem dX8_sifted_59 : decode cX8_sifted 59 = .ok (.aload_n 0, 1) := by decide +kernel
theorem dX8_sifted_60 : decode cX8_sifted 60 = .ok (.getfield 24, 3) := by decide +kernel
theorem dX8_sifted_63 : decode cX8_sifted 63 = .ok (.lload_n 2, 1) := by decide +kernel
theorem dX8_sifted_64 : decode cX8_sifted 64 = .ok (.invokevirtual 207, 3) := by decide +kernel
theorem dX8_sifted_67 : decode cX8_sifted 67 = .ok (.istore 7, 2) := by decide +kernel
theorem dX8_sifted_69 : decode cX8_sifted 69 = .ok (.iload 7, 2) := by decide +kernel
theorem dX8_sifted_71 : decode cX8_sifted 71 = .ok (.iload 5, 2) := by decide +kernel
theorem dX8_sifted_73 : decode cX8_sifted 73 = .ok (.if_icmp .ge 11, 3) := by decide +kernel
theorem dX8_sifted_76 : decode cX8_sifted 76 = .ok (.iload 7, 2) := by decide +kernel
theorem dX8_sifted_78 : decode cX8_sifted 78 = .ok (.istore 5, 2) := by decide +kernel
theorem dX8_sifted_80 : decode cX8_sifted 80 = .ok (.iload 6, 2) := by decide +kernel
theorem dX8_sifted_82 : decode cX8_sifted 82 = .ok (.istore 4, 2) := by decide +kernel
theorem dX8_sifted_84 : decode cX8_sifted 84 = .ok (.iinc 6 1, 3) := by decide +kernel
theorem dX8_sifted_87 : decode cX8_sifted 87 = .ok (.goto (-55), 3) := by decide +kernel
theorem dX8_sifted_90 : decode cX8_sifted 90 = .ok (.iload 4, 2) := by decide +kernel
theorem dX8_sifted_92 : decode cX8_sifted 92 = .ok (.ireturn, 1) := by decide +kernel
theorem dX8_at_0 : decode cX8_at 0 = .ok (.aload_n 0, 1) := by decide +kernel
theorem dX8_at_1 : decode cX8_at 1 = .ok (.getfield 14, 3) := by decide +kernel
theorem dX8_at_4 : decode cX8_at 4 = .ok (.getfield 67, 3) := by decide +kernel
theorem dX8_at_7 : decode cX8_at 7 = .ok (.iload_n 1, 1) := by decide +kernel
theorem dX8_at_8 : decode cX8_at 8 = .ok (.invokevirtual 184, 3) := by decide +kernel
theorem dX8_at_11 : decode cX8_at 11 = .ok (.ifCond .eq 18, 3) := by decide +kernel
theorem dX8_at_14 : decode cX8_at 14 = .ok (.aload_n 0, 1) := by decide +kernel
theorem dX8_at_15 : decode cX8_at 15 = .ok (.getfield 14, 3) := by decide +kernel
theorem dX8_at_18 : decode cX8_at 18 = .ok (.getfield 67, 3) := by decide +kernel
theorem dX8_at_21 : decode cX8_at 21 = .ok (.getfield 211, 3) := by decide +kernel
theorem dX8_at_24 : decode cX8_at 24 = .ok (.iload_n 1, 1) := by decide +kernel
theorem dX8_at_25 : decode cX8_at 25 = .ok (.iaload, 1) := by decide +kernel
theorem dX8_at_26 : decode cX8_at 26 = .ok (.goto 4, 3) := by decide +kernel
theorem dX8_at_29 : decode cX8_at 29 = .ok (.iconst (-1), 1) := by decide +kernel
theorem dX8_at_30 : decode cX8_at 30 = .ok (.ireturn, 1) := by decide +kernel
theorem dX8_node_0 : decode cX8_node 0 = .ok (.aload_n 0, 1) := by decide +kernel
theorem dX8_node_1 : decode cX8_node 1 = .ok (.getfield 14, 3) := by decide +kernel
theorem dX8_node_4 : decode cX8_node 4 = .ok (.getfield 67, 3) := by decide +kernel
theorem dX8_node_7 : decode cX8_node 7 = .ok (.getfield 190, 3) := by decide +kernel
theorem dX8_node_10 : decode cX8_node 10 = .ok (.ifCond .ne 6, 3) := by decide +kernel
theorem dX8_node_13 : decode cX8_node 13 = .ok (.bipush (-3), 2) := by decide +kernel
theorem dX8_node_15 : decode cX8_node 15 = .ok (.ireturn, 1) := by decide +kernel
theorem dX8_node_16 : decode cX8_node 16 = .ok (.aload_n 0, 1) := by decide +kernel
theorem dX8_node_17 : decode cX8_node 17 = .ok (.getfield 31, 3) := by decide +kernel
theorem dX8_node_20 : decode cX8_node 20 = .ok (.aload_n 0, 1) := by decide +kernel
theorem dX8_node_21 : decode cX8_node 21 = .ok (.getfield 14, 3) := by decide +kernel
theorem dX8_node_24 : decode cX8_node 24 = .ok (.getfield 67, 3) := by decide +kernel
theorem dX8_node_27 : decode cX8_node 27 = .ok (.aload_n 0, 1) := by decide +kernel
theorem dX8_node_28 : decode cX8_node 28 = .ok (.getfield 14, 3) := by decide +kernel
theorem dX8_node_31 : decode cX8_node 31 = .ok (.getfield 67, 3) := by decide +kernel
theorem dX8_node_34 : decode cX8_node 34 = .ok (.invokevirtual 200, 3) := by decide +kernel
theorem dX8_node_37 : decode cX8_node 37 = .ok (.invokevirtual 207, 3) := by decide +kernel
theorem dX8_node_40 : decode cX8_node 40 = .ok (.pop, 1) := by decide +kernel
theorem dX8_node_41 : decode cX8_node 41 = .ok (.aload_n 0, 1) := by decide +kernel
