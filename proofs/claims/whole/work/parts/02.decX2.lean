theorem dX8_node_42 : decode cX8_node 42 = .ok (.getfield 31, 3) := by decide +kernel
theorem dX8_node_45 : decode cX8_node 45 = .ok (.iload_n 1, 1) := by decide +kernel
theorem dX8_node_46 : decode cX8_node 46 = .ok (.iload_n 2, 1) := by decide +kernel
theorem dX8_node_47 : decode cX8_node 47 = .ok (.invokevirtual 214, 3) := by decide +kernel
theorem dX8_node_50 : decode cX8_node 50 = .ok (.ireturn, 1) := by decide +kernel
theorem dX8_told_0 : decode cX8_told 0 = .ok (.aload_n 0, 1) := by decide +kernel
theorem dX8_told_1 : decode cX8_told 1 = .ok (.getfield 14, 3) := by decide +kernel
theorem dX8_told_4 : decode cX8_told 4 = .ok (.getfield 67, 3) := by decide +kernel
theorem dX8_told_7 : decode cX8_told 7 = .ok (.astore_n 2, 1) := by decide +kernel
theorem dX8_told_8 : decode cX8_told 8 = .ok (.iload_n 1, 1) := by decide +kernel
theorem dX8_told_9 : decode cX8_told 9 = .ok (.ifCond .lt 9, 3) := by decide +kernel
theorem dX8_told_12 : decode cX8_told 12 = .ok (.iload_n 1, 1) := by decide +kernel
theorem dX8_told_13 : decode cX8_told 13 = .ok (.bipush 8, 2) := by decide +kernel
theorem dX8_told_15 : decode cX8_told 15 = .ok (.if_icmp .le 5, 3) := by decide +kernel
theorem dX8_told_18 : decode cX8_told 18 = .ok (.iconst (-1), 1) := by decide +kernel
theorem dX8_told_19 : decode cX8_told 19 = .ok (.ireturn, 1) := by decide +kernel
theorem dX8_told_20 : decode cX8_told 20 = .ok (.iload_n 1, 1) := by decide +kernel
theorem dX8_told_21 : decode cX8_told 21 = .ok (.tableswitch 51 0 3 #[31, 36, 41, 46], 31) := by decide +kernel
theorem dX8_told_52 : decode cX8_told 52 = .ok (.aload_n 2, 1) := by decide +kernel
theorem dX8_told_53 : decode cX8_told 53 = .ok (.getfield 204, 3) := by decide +kernel
theorem dX8_told_56 : decode cX8_told 56 = .ok (.ireturn, 1) := by decide +kernel
theorem dX8_told_57 : decode cX8_told 57 = .ok (.aload_n 2, 1) := by decide +kernel
theorem dX8_told_58 : decode cX8_told 58 = .ok (.getfield 190, 3) := by decide +kernel
theorem dX8_told_61 : decode cX8_told 61 = .ok (.ireturn, 1) := by decide +kernel
theorem dX8_told_62 : decode cX8_told 62 = .ok (.aload_n 2, 1) := by decide +kernel
theorem dX8_told_63 : decode cX8_told 63 = .ok (.getfield 217, 3) := by decide +kernel
theorem dX8_told_66 : decode cX8_told 66 = .ok (.ireturn, 1) := by decide +kernel
theorem dX8_told_67 : decode cX8_told 67 = .ok (.aload_n 2, 1) := by decide +kernel
theorem dX8_told_68 : decode cX8_told 68 = .ok (.invokevirtual 103, 3) := by decide +kernel
theorem dX8_told_71 : decode cX8_told 71 = .ok (.ireturn, 1) := by decide +kernel
theorem dX8_told_72 : decode cX8_told 72 = .ok (.aload_n 2, 1) := by decide +kernel
theorem dX8_told_73 : decode cX8_told 73 = .ok (.getfield 190, 3) := by decide +kernel
theorem dX8_told_76 : decode cX8_told 76 = .ok (.ifCond .ne 8, 3) := by decide +kernel
theorem dX8_told_79 : decode cX8_told 79 = .ok (.bipush (-3), 2) := by decide +kernel
theorem dX8_told_81 : decode cX8_told 81 = .ok (.goto 8, 3) := by decide +kernel
theorem dX8_told_84 : decode cX8_told 84 = .ok (.aload_n 0, 1) := by decide +kernel
theorem dX8_told_85 : decode cX8_told 85 = .ok (.iload_n 1, 1) := by decide +kernel
theorem dX8_told_86 : decode cX8_told 86 = .ok (.invokevirtual 220, 3) := by decide +kernel
theorem dX8_told_89 : decode cX8_told 89 = .ok (.ireturn, 1) := by decide +kernel
theorem dX8_toldOfTop_0 : decode cX8_toldOfTop 0 = .ok (.aload_n 0, 1) := by decide +kernel
theorem dX8_toldOfTop_1 : decode cX8_toldOfTop 1 = .ok (.getfield 14, 3) := by decide +kernel
theorem dX8_toldOfTop_4 : decode cX8_toldOfTop 4 = .ok (.getfield 67, 3) := by decide +kernel
theorem dX8_toldOfTop_7 : decode cX8_toldOfTop 7 = .ok (.astore_n 2, 1) := by decide +kernel
theorem dX8_toldOfTop_8 : decode cX8_toldOfTop 8 = .ok (.aload_n 2, 1) := by decide +kernel
theorem dX8_toldOfTop_9 : decode cX8_toldOfTop 9 = .ok (.invokevirtual 200, 3) := by decide +kernel
theorem dX8_toldOfTop_12 : decode cX8_toldOfTop 12 = .ok (.lstore_n 3, 1) := by decide +kernel
theorem dX8_toldOfTop_13 : decode cX8_toldOfTop 13 = .ok (.iload_n 1, 1) := by decide +kernel
theorem dX8_toldOfTop_14 : decode cX8_toldOfTop 14 = .ok (.tableswitch 76 4 7 #[30, 40, 53, 66], 30) := by decide +kernel
theorem dX8_toldOfTop_44 : decode cX8_toldOfTop 44 = .ok (.aload_n 0, 1) := by decide +kernel
theorem dX8_toldOfTop_45 : decode cX8_toldOfTop 45 = .ok (.getfield 31, 3) := by decide +kernel
theorem dX8_toldOfTop_48 : decode cX8_toldOfTop 48 = .ok (.aload_n 2, 1) := by decide +kernel
theorem dX8_toldOfTop_49 : decode cX8_toldOfTop 49 = .ok (.lload_n 3, 1) := by decide +kernel
theorem dX8_toldOfTop_50 : decode cX8_toldOfTop 50 = .ok (.invokevirtual 207, 3) := by decide +kernel
theorem dX8_toldOfTop_53 : decode cX8_toldOfTop 53 = .ok (.ireturn, 1) := by decide +kernel
theorem dX8_toldOfTop_54 : decode cX8_toldOfTop 54 = .ok (.aload_n 0, 1) := by decide +kernel
theorem dX8_toldOfTop_55 : decode cX8_toldOfTop 55 = .ok (.getfield 38, 3) := by decide +kernel
theorem dX8_toldOfTop_58 : decode cX8_toldOfTop 58 = .ok (.lload_n 3, 1) := by decide +kernel
theorem dX8_toldOfTop_59 : decode cX8_toldOfTop 59 = .ok (.aload_n 2, 1) := by decide +kernel
theorem dX8_toldOfTop_60 : decode cX8_toldOfTop 60 = .ok (.getfield 204, 3) := by decide +kernel
theorem dX8_toldOfTop_63 : decode cX8_toldOfTop 63 = .ok (.invokevirtual 223, 3) := by decide +kernel
theorem dX8_toldOfTop_66 : decode cX8_toldOfTop 66 = .ok (.ireturn, 1) := by decide +kernel
theorem dX8_toldOfTop_67 : decode cX8_toldOfTop 67 = .ok (.aload_n 0, 1) := by decide +kernel
theorem dX8_toldOfTop_68 : decode cX8_toldOfTop 68 = .ok (.getfield 38, 3) := by decide +kernel
theorem dX8_toldOfTop_71 : decode cX8_toldOfTop 71 = .ok (.lload_n 3, 1) := by decide +kernel
theorem dX8_toldOfTop_72 : decode cX8_toldOfTop 72 = .ok (.aload_n 2, 1) := by decide +kernel
theorem dX8_toldOfTop_73 : decode cX8_toldOfTop 73 = .ok (.getfield 204, 3) := by decide +kernel
theorem dX8_toldOfTop_76 : decode cX8_toldOfTop 76 = .ok (.invokevirtual 227, 3) := by decide +kernel
theorem dX8_toldOfTop_79 : decode cX8_toldOfTop 79 = .ok (.ireturn, 1) := by decide +kernel
theorem dX8_toldOfTop_80 : decode cX8_toldOfTop 80 = .ok (.aload_n 0, 1) := by decide +kernel
theorem dX8_toldOfTop_81 : decode cX8_toldOfTop 81 = .ok (.getfield 45, 3) := by decide +kernel
theorem dX8_toldOfTop_84 : decode cX8_toldOfTop 84 = .ok (.aload_n 2, 1) := by decide +kernel
theorem dX8_toldOfTop_85 : decode cX8_toldOfTop 85 = .ok (.lload_n 3, 1) := by decide +kernel
theorem dX8_toldOfTop_86 : decode cX8_toldOfTop 86 = .ok (.invokevirtual 230, 3) := by decide +kernel
theorem dX8_toldOfTop_89 : decode cX8_toldOfTop 89 = .ok (.ireturn, 1) := by decide +kernel
theorem dX8_toldOfTop_90 : decode cX8_toldOfTop 90 = .ok (.lload_n 3, 1) := by decide +kernel
theorem dX8_toldOfTop_91 : decode cX8_toldOfTop 91 = .ok (.invokestatic 233, 3) := by decide +kernel
theorem dX8_toldOfTop_94 : decode cX8_toldOfTop 94 = .ok (.ireturn, 1) := by decide +kernel
theorem dX8_sameness_0 : decode cX8_sameness 0 = .ok (.lload_n 0, 1) := by decide +kernel
theorem dX8_sameness_1 : decode cX8_sameness 1 = .ok (.ldc2_w 237, 3) := by decide +kernel
theorem dX8_sameness_4 : decode cX8_sameness 4 = .ok (.lcmp, 1) := by decide +kernel
theorem dX8_sameness_5 : decode cX8_sameness 5 = .ok (.ifCond .ne 5, 3) := by decide +kernel
theorem dX8_sameness_8 : decode cX8_sameness 8 = .ok (.iconst 1, 1) := by decide +kernel
theorem dX8_sameness_9 : decode cX8_sameness 9 = .ok (.ireturn, 1) := by decide +kernel
theorem dX8_sameness_10 : decode cX8_sameness 10 = .ok (.lload_n 0, 1) := by decide +kernel
theorem dX8_sameness_11 : decode cX8_sameness 11 = .ok (.lconst 0, 1) := by decide +kernel
theorem dX8_sameness_12 : decode cX8_sameness 12 = .ok (.lcmp, 1) := by decide +kernel
theorem dX8_sameness_13 : decode cX8_sameness 13 = .ok (.ifCond .ne 7, 3) := by decide +kernel
theorem dX8_sameness_16 : decode cX8_sameness 16 = .ok (.iconst (-1), 1) := by decide +kernel
theorem dX8_sameness_17 : decode cX8_sameness 17 = .ok (.goto 4, 3) := by decide +kernel
theorem dX8_sameness_20 : decode cX8_sameness 20 = .ok (.iconst 0, 1) := by decide +kernel
theorem dX8_sameness_21 : decode cX8_sameness 21 = .ok (.ireturn, 1) := by decide +kernel
theorem dX8_cut_0 : decode cX8_cut 0 = .ok (.aload_n 0, 1) := by decide +kernel
theorem dX8_cut_1 : decode cX8_cut 1 = .ok (.getfield 14, 3) := by decide +kernel
theorem dX8_cut_4 : decode cX8_cut 4 = .ok (.getfield 67, 3) := by decide +kernel
theorem dX8_cut_7 : decode cX8_cut 7 = .ok (.getfield 190, 3) := by decide +kernel
theorem dX8_cut_10 : decode cX8_cut 10 = .ok (.ifCond .ne 6, 3) := by decide +kernel
theorem dX8_cut_13 : decode cX8_cut 13 = .ok (.bipush (-3), 2) := by decide +kernel
theorem dX8_cut_15 : decode cX8_cut 15 = .ok (.ireturn, 1) := by decide +kernel
theorem dX8_cut_16 : decode cX8_cut 16 = .ok (.aload_n 0, 1) := by decide +kernel
theorem dX8_cut_17 : decode cX8_cut 17 = .ok (.invokevirtual 239, 3) := by decide +kernel
theorem dX8_cut_20 : decode cX8_cut 20 = .ok (.pop, 1) := by decide +kernel
theorem dX8_cut_21 : decode cX8_cut 21 = .ok (.aload_n 0, 1) := by decide +kernel
theorem dX8_cut_22 : decode cX8_cut 22 = .ok (.getfield 38, 3) := by decide +kernel
theorem dX8_cut_25 : decode cX8_cut 25 = .ok (.iload_n 1, 1) := by decide +kernel
theorem dX8_cut_26 : decode cX8_cut 26 = .ok (.invokevirtual 242, 3) := by decide +kernel
theorem dX8_cut_29 : decode cX8_cut 29 = .ok (.ireturn, 1) := by decide +kernel
theorem dX8_path_0 : decode cX8_path 0 = .ok (.aload_n 0, 1) := by decide +kernel
theorem dX8_path_1 : decode cX8_path 1 = .ok (.getfield 14, 3) := by decide +kernel
theorem dX8_path_4 : decode cX8_path 4 = .ok (.getfield 67, 3) := by decide +kernel
theorem dX8_path_7 : decode cX8_path 7 = .ok (.getfield 190, 3) := by decide +kernel
theorem dX8_path_10 : decode cX8_path 10 = .ok (.ifCond .ne 6, 3) := by decide +kernel
theorem dX8_path_13 : decode cX8_path 13 = .ok (.bipush (-3), 2) := by decide +kernel
theorem dX8_path_15 : decode cX8_path 15 = .ok (.ireturn, 1) := by decide +kernel
theorem dX8_path_16 : decode cX8_path 16 = .ok (.aload_n 0, 1) := by decide +kernel
theorem dX8_path_17 : decode cX8_path 17 = .ok (.getfield 38, 3) := by decide +kernel
theorem dX8_path_20 : decode cX8_path 20 = .ok (.aload_n 0, 1) := by decide +kernel
theorem dX8_path_21 : decode cX8_path 21 = .ok (.getfield 14, 3) := by decide +kernel
theorem dX8_path_24 : decode cX8_path 24 = .ok (.getfield 67, 3) := by decide +kernel
theorem dX8_path_27 : decode cX8_path 27 = .ok (.invokevirtual 200, 3) := by decide +kernel
theorem dX8_path_30 : decode cX8_path 30 = .ok (.aload_n 0, 1) := by decide +kernel
theorem dX8_path_31 : decode cX8_path 31 = .ok (.getfield 14, 3) := by decide +kernel
theorem dX8_path_34 : decode cX8_path 34 = .ok (.getfield 67, 3) := by decide +kernel
theorem dX8_path_37 : decode cX8_path 37 = .ok (.getfield 204, 3) := by decide +kernel
theorem dX8_path_40 : decode cX8_path 40 = .ok (.invokevirtual 227, 3) := by decide +kernel
theorem dX8_path_43 : decode cX8_path 43 = .ok (.pop, 1) := by decide +kernel
theorem dX8_path_44 : decode cX8_path 44 = .ok (.aload_n 0, 1) := by decide +kernel
theorem dX8_path_45 : decode cX8_path 45 = .ok (.getfield 38, 3) := by decide +kernel
theorem dX8_path_48 : decode cX8_path 48 = .ok (.iload_n 1, 1) := by decide +kernel
theorem dX8_path_49 : decode cX8_path 49 = .ok (.invokevirtual 242, 3) := by decide +kernel
theorem dX8_path_52 : decode cX8_path 52 = .ok (.ireturn, 1) := by decide +kernel
theorem dX8_listCutsNow_0 : decode cX8_listCutsNow 0 = .ok (.aload_n 0, 1) := by decide +kernel
theorem dX8_listCutsNow_1 : decode cX8_listCutsNow 1 = .ok (.getfield 38, 3) := by decide +kernel
theorem dX8_listCutsNow_4 : decode cX8_listCutsNow 4 = .ok (.aload_n 0, 1) := by decide +kernel
theorem dX8_listCutsNow_5 : decode cX8_listCutsNow 5 = .ok (.getfield 14, 3) := by decide +kernel
theorem dX8_listCutsNow_8 : decode cX8_listCutsNow 8 = .ok (.getfield 67, 3) := by decide +kernel
theorem dX8_listCutsNow_11 : decode cX8_listCutsNow 11 = .ok (.invokevirtual 200, 3) := by decide +kernel
theorem dX8_listCutsNow_14 : decode cX8_listCutsNow 14 = .ok (.aload_n 0, 1) := by decide +kernel
theorem dX8_listCutsNow_15 : decode cX8_listCutsNow 15 = .ok (.getfield 14, 3) := by decide +kernel
theorem dX8_listCutsNow_18 : decode cX8_listCutsNow 18 = .ok (.getfield 67, 3) := by decide +kernel
theorem dX8_listCutsNow_21 : decode cX8_listCutsNow 21 = .ok (.getfield 204, 3) := by decide +kernel
theorem dX8_listCutsNow_24 : decode cX8_listCutsNow 24 = .ok (.invokevirtual 223, 3) := by decide +kernel
theorem dX8_listCutsNow_27 : decode cX8_listCutsNow 27 = .ok (.ireturn, 1) := by decide +kernel
theorem dX8_chance_0 : decode cX8_chance 0 = .ok (.aload_n 0, 1) := by decide +kernel
theorem dX8_chance_1 : decode cX8_chance 1 = .ok (.getfield 14, 3) := by decide +kernel
theorem dX8_chance_4 : decode cX8_chance 4 = .ok (.getfield 67, 3) := by decide +kernel
theorem dX8_chance_7 : decode cX8_chance 7 = .ok (.astore_n 2, 1) := by decide +kernel
theorem dX8_chance_8 : decode cX8_chance 8 = .ok (.iload_n 1, 1) := by decide +kernel
theorem dX8_chance_9 : decode cX8_chance 9 = .ok (.invokestatic 245, 3) := by decide +kernel
theorem dX8_chance_12 : decode cX8_chance 12 = .ok (.ifCond .eq 10, 3) := by decide +kernel
theorem dX8_chance_15 : decode cX8_chance 15 = .ok (.aload_n 2, 1) := by decide +kernel
theorem dX8_chance_16 : decode cX8_chance 16 = .ok (.getfield 190, 3) := by decide +kernel
theorem dX8_chance_19 : decode cX8_chance 19 = .ok (.ifCond .ne 7, 3) := by decide +kernel
theorem dX8_chance_22 : decode cX8_chance 22 = .ok (.ldc2_w 248, 3) := by decide +kernel
theorem dX8_chance_25 : decode cX8_chance 25 = .ok (.lreturn, 1) := by decide +kernel
theorem dX8_chance_26 : decode cX8_chance 26 = .ok (.aload_n 0, 1) := by decide +kernel
theorem dX8_chance_27 : decode cX8_chance 27 = .ok (.getfield 45, 3) := by decide +kernel
theorem dX8_chance_30 : decode cX8_chance 30 = .ok (.aload_n 2, 1) := by decide +kernel
theorem dX8_chance_31 : decode cX8_chance 31 = .ok (.aload_n 2, 1) := by decide +kernel
theorem dX8_chance_32 : decode cX8_chance 32 = .ok (.invokevirtual 200, 3) := by decide +kernel
theorem dX8_chance_35 : decode cX8_chance 35 = .ok (.iconst (-1), 1) := by decide +kernel
theorem dX8_chance_36 : decode cX8_chance 36 = .ok (.iconst 0, 1) := by decide +kernel
theorem dX8_chance_37 : decode cX8_chance 37 = .ok (.invokevirtual 250, 3) := by decide +kernel
theorem dX8_chance_40 : decode cX8_chance 40 = .ok (.lstore_n 3, 1) := by decide +kernel
theorem dX8_chance_41 : decode cX8_chance 41 = .ok (.lload_n 3, 1) := by decide +kernel
theorem dX8_chance_42 : decode cX8_chance 42 = .ok (.aload_n 0, 1) := by decide +kernel
theorem dX8_chance_43 : decode cX8_chance 43 = .ok (.getfield 45, 3) := by decide +kernel
theorem dX8_chance_46 : decode cX8_chance 46 = .ok (.aload_n 2, 1) := by decide +kernel
theorem dX8_chance_47 : decode cX8_chance 47 = .ok (.invokevirtual 254, 3) := by decide +kernel
theorem dX8_chance_50 : decode cX8_chance 50 = .ok (.iload_n 1, 1) := by decide +kernel
theorem dX8_chance_51 : decode cX8_chance 51 = .ok (.invokestatic 258, 3) := by decide +kernel
theorem dX8_chance_54 : decode cX8_chance 54 = .ok (.lreturn, 1) := by decide +kernel
theorem dX8_given_0 : decode cX8_given 0 = .ok (.aload_n 0, 1) := by decide +kernel
theorem dX8_given_1 : decode cX8_given 1 = .ok (.getfield 14, 3) := by decide +kernel
theorem dX8_given_4 : decode cX8_given 4 = .ok (.getfield 67, 3) := by decide +kernel
theorem dX8_given_7 : decode cX8_given 7 = .ok (.astore 4, 2) := by decide +kernel
theorem dX8_given_9 : decode cX8_given 9 = .ok (.aload 4, 2) := by decide +kernel
theorem dX8_given_11 : decode cX8_given 11 = .ok (.iload_n 1, 1) := by decide +kernel
theorem dX8_given_12 : decode cX8_given 12 = .ok (.invokevirtual 117, 3) := by decide +kernel
theorem dX8_given_15 : decode cX8_given 15 = .ok (.ifCond .eq 18, 3) := by decide +kernel
theorem dX8_given_18 : decode cX8_given 18 = .ok (.iload_n 3, 1) := by decide +kernel
theorem dX8_given_19 : decode cX8_given 19 = .ok (.invokestatic 245, 3) := by decide +kernel
theorem dX8_given_22 : decode cX8_given 22 = .ok (.ifCond .eq 11, 3) := by decide +kernel
theorem dX8_given_25 : decode cX8_given 25 = .ok (.aload 4, 2) := by decide +kernel
theorem dX8_given_27 : decode cX8_given 27 = .ok (.getfield 190, 3) := by decide +kernel
theorem dX8_given_30 : decode cX8_given 30 = .ok (.ifCond .ne 7, 3) := by decide +kernel
theorem dX8_given_33 : decode cX8_given 33 = .ok (.ldc2_w 248, 3) := by decide +kernel
theorem dX8_given_36 : decode cX8_given 36 = .ok (.lreturn, 1) := by decide +kernel
theorem dX8_given_37 : decode cX8_given 37 = .ok (.iload_n 2, 1) := by decide +kernel
theorem dX8_given_38 : decode cX8_given 38 = .ok (.ifCond .eq 8, 3) := by decide +kernel
theorem dX8_given_41 : decode cX8_given 41 = .ok (.bipush 100, 2) := by decide +kernel
theorem dX8_given_43 : decode cX8_given 43 = .ok (.goto 4, 3) := by decide +kernel
theorem dX8_given_46 : decode cX8_given 46 = .ok (.iconst 0, 1) := by decide +kernel
theorem dX8_given_47 : decode cX8_given 47 = .ok (.istore 5, 2) := by decide +kernel
theorem dX8_given_49 : decode cX8_given 49 = .ok (.aload_n 0, 1) := by decide +kernel
theorem dX8_given_50 : decode cX8_given 50 = .ok (.getfield 45, 3) := by decide +kernel
theorem dX8_given_53 : decode cX8_given 53 = .ok (.aload 4, 2) := by decide +kernel
theorem dX8_given_55 : decode cX8_given 55 = .ok (.aload 4, 2) := by decide +kernel
theorem dX8_given_57 : decode cX8_given 57 = .ok (.invokevirtual 200, 3) := by decide +kernel
theorem dX8_given_60 : decode cX8_given 60 = .ok (.bipush 6, 2) := by decide +kernel
theorem dX8_given_62 : decode cX8_given 62 = .ok (.iload_n 1, 1) := by decide +kernel
theorem dX8_given_63 : decode cX8_given 63 = .ok (.iadd, 1) := by decide +kernel
theorem dX8_given_64 : decode cX8_given 64 = .ok (.iload 5, 2) := by decide +kernel
theorem dX8_given_66 : decode cX8_given 66 = .ok (.invokevirtual 250, 3) := by decide +kernel
theorem dX8_given_69 : decode cX8_given 69 = .ok (.lstore 6, 2) := by decide +kernel
theorem dX8_given_71 : decode cX8_given 71 = .ok (.lload 6, 2) := by decide +kernel
theorem dX8_given_73 : decode cX8_given 73 = .ok (.aload_n 0, 1) := by decide +kernel
theorem dX8_given_74 : decode cX8_given 74 = .ok (.getfield 45, 3) := by decide +kernel
theorem dX8_given_77 : decode cX8_given 77 = .ok (.aload 4, 2) := by decide +kernel
theorem dX8_given_79 : decode cX8_given 79 = .ok (.invokevirtual 254, 3) := by decide +kernel
theorem dX8_given_82 : decode cX8_given 82 = .ok (.iload_n 3, 1) := by decide +kernel
theorem dX8_given_83 : decode cX8_given 83 = .ok (.invokestatic 258, 3) := by decide +kernel
theorem dX8_given_86 : decode cX8_given 86 = .ok (.lreturn, 1) := by decide +kernel
theorem dX8_weight_0 : decode cX8_weight 0 = .ok (.aload_n 0, 1) := by decide +kernel
theorem dX8_weight_1 : decode cX8_weight 1 = .ok (.getfield 14, 3) := by decide +kernel
theorem dX8_weight_4 : decode cX8_weight 4 = .ok (.getfield 67, 3) := by decide +kernel
theorem dX8_weight_7 : decode cX8_weight 7 = .ok (.astore_n 3, 1) := by decide +kernel
theorem dX8_weight_8 : decode cX8_weight 8 = .ok (.aload_n 3, 1) := by decide +kernel
theorem dX8_weight_9 : decode cX8_weight 9 = .ok (.iload_n 1, 1) := by decide +kernel
theorem dX8_weight_10 : decode cX8_weight 10 = .ok (.invokevirtual 94, 3) := by decide +kernel
theorem dX8_weight_13 : decode cX8_weight 13 = .ok (.ifCond .eq 17, 3) := by decide +kernel
theorem dX8_weight_16 : decode cX8_weight 16 = .ok (.iload_n 2, 1) := by decide +kernel
theorem dX8_weight_17 : decode cX8_weight 17 = .ok (.invokestatic 245, 3) := by decide +kernel
theorem dX8_weight_20 : decode cX8_weight 20 = .ok (.ifCond .eq 10, 3) := by decide +kernel
theorem dX8_weight_23 : decode cX8_weight 23 = .ok (.aload_n 3, 1) := by decide +kernel
theorem dX8_weight_24 : decode cX8_weight 24 = .ok (.getfield 190, 3) := by decide +kernel
theorem dX8_weight_27 : decode cX8_weight 27 = .ok (.ifCond .ne 7, 3) := by decide +kernel
theorem dX8_weight_30 : decode cX8_weight 30 = .ok (.ldc2_w 248, 3) := by decide +kernel
theorem dX8_weight_33 : decode cX8_weight 33 = .ok (.lreturn, 1) := by decide +kernel
theorem dX8_weight_34 : decode cX8_weight 34 = .ok (.aload_n 0, 1) := by decide +kernel
theorem dX8_weight_35 : decode cX8_weight 35 = .ok (.getfield 45, 3) := by decide +kernel
theorem dX8_weight_38 : decode cX8_weight 38 = .ok (.aload_n 3, 1) := by decide +kernel
theorem dX8_weight_39 : decode cX8_weight 39 = .ok (.aload_n 3, 1) := by decide +kernel
theorem dX8_weight_40 : decode cX8_weight 40 = .ok (.invokevirtual 200, 3) := by decide +kernel
theorem dX8_weight_43 : decode cX8_weight 43 = .ok (.iload_n 1, 1) := by decide +kernel
theorem dX8_weight_44 : decode cX8_weight 44 = .ok (.invokevirtual 262, 3) := by decide +kernel
theorem dX8_weight_47 : decode cX8_weight 47 = .ok (.lstore 4, 2) := by decide +kernel
theorem dX8_weight_49 : decode cX8_weight 49 = .ok (.lload 4, 2) := by decide +kernel
theorem dX8_weight_51 : decode cX8_weight 51 = .ok (.aload_n 0, 1) := by decide +kernel
theorem dX8_weight_52 : decode cX8_weight 52 = .ok (.getfield 45, 3) := by decide +kernel
theorem dX8_weight_55 : decode cX8_weight 55 = .ok (.aload_n 3, 1) := by decide +kernel
theorem dX8_weight_56 : decode cX8_weight 56 = .ok (.invokevirtual 254, 3) := by decide +kernel
theorem dX8_weight_59 : decode cX8_weight 59 = .ok (.iload_n 2, 1) := by decide +kernel
theorem dX8_weight_60 : decode cX8_weight 60 = .ok (.invokestatic 258, 3) := by decide +kernel
theorem dX8_weight_63 : decode cX8_weight 63 = .ok (.lreturn, 1) := by decide +kernel
theorem dX8_see_0 : decode cX8_see 0 = .ok (.iload_n 1, 1) := by decide +kernel
theorem dX8_see_1 : decode cX8_see 1 = .ok (.iconst (-1), 1) := by decide +kernel
theorem dX8_see_2 : decode cX8_see 2 = .ok (.if_icmp .ne 14, 3) := by decide +kernel
theorem dX8_see_5 : decode cX8_see 5 = .ok (.aload_n 0, 1) := by decide +kernel
theorem dX8_see_6 : decode cX8_see 6 = .ok (.getfield 14, 3) := by decide +kernel
theorem dX8_see_9 : decode cX8_see 9 = .ok (.getfield 266, 3) := by decide +kernel
theorem dX8_see_12 : decode cX8_see 12 = .ok (.invokevirtual 270, 3) := by decide +kernel
theorem dX8_see_15 : decode cX8_see 15 = .ok (.ireturn, 1) := by decide +kernel
theorem dX8_see_16 : decode cX8_see 16 = .ok (.aload_n 0, 1) := by decide +kernel
theorem dX8_see_17 : decode cX8_see 17 = .ok (.getfield 14, 3) := by decide +kernel
theorem dX8_see_20 : decode cX8_see 20 = .ok (.getfield 67, 3) := by decide +kernel
theorem dX8_see_23 : decode cX8_see 23 = .ok (.iload_n 1, 1) := by decide +kernel
theorem dX8_see_24 : decode cX8_see 24 = .ok (.invokevirtual 111, 3) := by decide +kernel
theorem dX8_see_27 : decode cX8_see 27 = .ok (.ifCond .ne 6, 3) := by decide +kernel
theorem dX8_see_30 : decode cX8_see 30 = .ok (.bipush (-2), 2) := by decide +kernel
theorem dX8_see_32 : decode cX8_see 32 = .ok (.ireturn, 1) := by decide +kernel
theorem dX8_see_33 : decode cX8_see 33 = .ok (.aload_n 0, 1) := by decide +kernel
theorem dX8_see_34 : decode cX8_see 34 = .ok (.getfield 14, 3) := by decide +kernel
theorem dX8_see_37 : decode cX8_see 37 = .ok (.getfield 266, 3) := by decide +kernel
theorem dX8_see_40 : decode cX8_see 40 = .ok (.iload_n 1, 1) := by decide +kernel
theorem dX8_see_41 : decode cX8_see 41 = .ok (.iload_n 2, 1) := by decide +kernel
theorem dX8_see_42 : decode cX8_see 42 = .ok (.ifCond .eq 7, 3) := by decide +kernel
theorem dX8_see_45 : decode cX8_see 45 = .ok (.iconst 1, 1) := by decide +kernel
theorem dX8_see_46 : decode cX8_see 46 = .ok (.goto 4, 3) := by decide +kernel
theorem dX8_see_49 : decode cX8_see 49 = .ok (.iconst 0, 1) := by decide +kernel
theorem dX8_see_50 : decode cX8_see 50 = .ok (.invokevirtual 275, 3) := by decide +kernel
theorem dX8_see_53 : decode cX8_see 53 = .ok (.ireturn, 1) := by decide +kernel
theorem dX8_fits_0 : decode cX8_fits 0 = .ok (.aload_n 0, 1) := by decide +kernel
theorem dX8_fits_1 : decode cX8_fits 1 = .ok (.getfield 14, 3) := by decide +kernel
theorem dX8_fits_4 : decode cX8_fits 4 = .ok (.getfield 67, 3) := by decide +kernel
theorem dX8_fits_7 : decode cX8_fits 7 = .ok (.iload_n 1, 1) := by decide +kernel
theorem dX8_fits_8 : decode cX8_fits 8 = .ok (.invokevirtual 84, 3) := by decide +kernel
theorem dX8_fits_11 : decode cX8_fits 11 = .ok (.ifCond .eq 12, 3) := by decide +kernel
theorem dX8_fits_14 : decode cX8_fits 14 = .ok (.iload_n 2, 1) := by decide +kernel
theorem dX8_fits_15 : decode cX8_fits 15 = .ok (.ifCond .lt 8, 3) := by decide +kernel
theorem dX8_fits_18 : decode cX8_fits 18 = .ok (.iload_n 2, 1) := by decide +kernel
theorem dX8_fits_19 : decode cX8_fits 19 = .ok (.iconst 1, 1) := by decide +kernel
theorem dX8_fits_20 : decode cX8_fits 20 = .ok (.if_icmp .le 5, 3) := by decide +kernel
theorem dX8_fits_23 : decode cX8_fits 23 = .ok (.iconst (-1), 1) := by decide +kernel
theorem dX8_fits_24 : decode cX8_fits 24 = .ok (.ireturn, 1) := by decide +kernel
theorem dX8_fits_25 : decode cX8_fits 25 = .ok (.iconst 0, 1) := by decide +kernel
theorem dX8_fits_26 : decode cX8_fits 26 = .ok (.istore_n 3, 1) := by decide +kernel
theorem dX8_fits_27 : decode cX8_fits 27 = .ok (.bipush (-5), 2) := by decide +kernel
theorem dX8_fits_29 : decode cX8_fits 29 = .ok (.istore 4, 2) := by decide +kernel
theorem dX8_fits_31 : decode cX8_fits 31 = .ok (.aload_n 0, 1) := by decide +kernel
theorem dX8_fits_32 : decode cX8_fits 32 = .ok (.getfield 24, 3) := by decide +kernel
theorem dX8_fits_35 : decode cX8_fits 35 = .ok (.aload_n 0, 1) := by decide +kernel
theorem dX8_fits_36 : decode cX8_fits 36 = .ok (.getfield 14, 3) := by decide +kernel
theorem dX8_fits_39 : decode cX8_fits 39 = .ok (.getfield 67, 3) := by decide +kernel
theorem dX8_fits_42 : decode cX8_fits 42 = .ok (.invokevirtual 196, 3) := by decide +kernel
theorem dX8_fits_45 : decode cX8_fits 45 = .ok (.aload_n 0, 1) := by decide +kernel
theorem dX8_fits_46 : decode cX8_fits 46 = .ok (.getfield 24, 3) := by decide +kernel
theorem dX8_fits_49 : decode cX8_fits 49 = .ok (.getfield 87, 3) := by decide +kernel
theorem dX8_fits_52 : decode cX8_fits 52 = .ok (.iload_n 1, 1) := by decide +kernel
theorem dX8_fits_53 : decode cX8_fits 53 = .ok (.iconst 2, 1) := by decide +kernel
theorem dX8_fits_54 : decode cX8_fits 54 = .ok (.iastore, 1) := by decide +kernel
theorem dX8_fits_55 : decode cX8_fits 55 = .ok (.iconst 5, 1) := by decide +kernel
theorem dX8_fits_56 : decode cX8_fits 56 = .ok (.istore 5, 2) := by decide +kernel
theorem dX8_fits_58 : decode cX8_fits 58 = .ok (.iload 5, 2) := by decide +kernel
theorem dX8_fits_60 : decode cX8_fits 60 = .ok (.ifCond .lt 41, 3) := by decide +kernel
theorem dX8_fits_63 : decode cX8_fits 63 = .ok (.aload_n 0, 1) := by decide +kernel
theorem dX8_fits_64 : decode cX8_fits 64 = .ok (.getfield 24, 3) := by decide +kernel
theorem dX8_fits_67 : decode cX8_fits 67 = .ok (.getfield 91, 3) := by decide +kernel
theorem dX8_fits_70 : decode cX8_fits 70 = .ok (.iload_n 1, 1) := by decide +kernel
theorem dX8_fits_71 : decode cX8_fits 71 = .ok (.iload 5, 2) := by decide +kernel
theorem dX8_fits_73 : decode cX8_fits 73 = .ok (.iastore, 1) := by decide +kernel
theorem dX8_fits_74 : decode cX8_fits 74 = .ok (.aload_n 0, 1) := by decide +kernel
theorem dX8_fits_75 : decode cX8_fits 75 = .ok (.aload_n 0, 1) := by decide +kernel
theorem dX8_fits_76 : decode cX8_fits 76 = .ok (.getfield 24, 3) := by decide +kernel
theorem dX8_fits_79 : decode cX8_fits 79 = .ok (.invokevirtual 200, 3) := by decide +kernel
theorem dX8_fits_82 : decode cX8_fits 82 = .ok (.invokevirtual 278, 3) := by decide +kernel
theorem dX8_fits_85 : decode cX8_fits 85 = .ok (.ifCond .eq 10, 3) := by decide +kernel
theorem dX8_fits_88 : decode cX8_fits 88 = .ok (.iinc 3 1, 3) := by decide +kernel
theorem dX8_fits_91 : decode cX8_fits 91 = .ok (.iload 5, 2) := by decide +kernel
theorem dX8_fits_93 : decode cX8_fits 93 = .ok (.istore 4, 2) := by decide +kernel
theorem dX8_fits_95 : decode cX8_fits 95 = .ok (.iinc 5 (-1), 3) := by decide +kernel
theorem dX8_fits_98 : decode cX8_fits 98 = .ok (.goto (-40), 3) := by decide +kernel
theorem dX8_fits_101 : decode cX8_fits 101 = .ok (.iload_n 2, 1) := by decide +kernel
theorem dX8_fits_102 : decode cX8_fits 102 = .ok (.ifCond .ne 7, 3) := by decide +kernel
theorem dX8_fits_105 : decode cX8_fits 105 = .ok (.iload_n 3, 1) := by decide +kernel
theorem dX8_fits_106 : decode cX8_fits 106 = .ok (.goto 5, 3) := by decide +kernel
theorem dX8_fits_109 : decode cX8_fits 109 = .ok (.iload 4, 2) := by decide +kernel
theorem dX8_fits_111 : decode cX8_fits 111 = .ok (.ireturn, 1) := by decide +kernel
theorem dX8_isAsSeen_0 : decode cX8_isAsSeen 0 = .ok (.aload_n 0, 1) := by decide +kernel
theorem dX8_isAsSeen_1 : decode cX8_isAsSeen 1 = .ok (.getfield 14, 3) := by decide +kernel
theorem dX8_isAsSeen_4 : decode cX8_isAsSeen 4 = .ok (.getfield 266, 3) := by decide +kernel
theorem dX8_isAsSeen_7 : decode cX8_isAsSeen 7 = .ok (.astore_n 3, 1) := by decide +kernel
theorem dX8_isAsSeen_8 : decode cX8_isAsSeen 8 = .ok (.iconst 0, 1) := by decide +kernel
theorem dX8_isAsSeen_9 : decode cX8_isAsSeen 9 = .ok (.istore 4, 2) := by decide +kernel
theorem dX8_isAsSeen_11 : decode cX8_isAsSeen 11 = .ok (.iload 4, 2) := by decide +kernel
theorem dX8_isAsSeen_13 : decode cX8_isAsSeen 13 = .ok (.aload_n 3, 1) := by decide +kernel
theorem dX8_isAsSeen_14 : decode cX8_isAsSeen 14 = .ok (.getfield 282, 3) := by decide +kernel
theorem dX8_isAsSeen_17 : decode cX8_isAsSeen 17 = .ok (.if_icmp .ge 41, 3) := by decide +kernel
theorem dX8_isAsSeen_20 : decode cX8_isAsSeen 20 = .ok (.lload_n 1, 1) := by decide +kernel
theorem dX8_isAsSeen_21 : decode cX8_isAsSeen 21 = .ok (.aload_n 3, 1) := by decide +kernel
theorem dX8_isAsSeen_22 : decode cX8_isAsSeen 22 = .ok (.getfield 283, 3) := by decide +kernel
theorem dX8_isAsSeen_25 : decode cX8_isAsSeen 25 = .ok (.iload 4, 2) := by decide +kernel
theorem dX8_isAsSeen_27 : decode cX8_isAsSeen 27 = .ok (.iaload, 1) := by decide +kernel
theorem dX8_isAsSeen_28 : decode cX8_isAsSeen 28 = .ok (.invokestatic 180, 3) := by decide +kernel
theorem dX8_isAsSeen_31 : decode cX8_isAsSeen 31 = .ok (.aload_n 3, 1) := by decide +kernel
theorem dX8_isAsSeen_32 : decode cX8_isAsSeen 32 = .ok (.getfield 284, 3) := by decide +kernel
theorem dX8_isAsSeen_35 : decode cX8_isAsSeen 35 = .ok (.iload 4, 2) := by decide +kernel
theorem dX8_isAsSeen_37 : decode cX8_isAsSeen 37 = .ok (.iaload, 1) := by decide +kernel
theorem dX8_isAsSeen_38 : decode cX8_isAsSeen 38 = .ok (.iconst 1, 1) := by decide +kernel
theorem dX8_isAsSeen_39 : decode cX8_isAsSeen 39 = .ok (.if_icmp .ne 7, 3) := by decide +kernel
theorem dX8_isAsSeen_42 : decode cX8_isAsSeen 42 = .ok (.iconst 1, 1) := by decide +kernel
theorem dX8_isAsSeen_43 : decode cX8_isAsSeen 43 = .ok (.goto 4, 3) := by decide +kernel
theorem dX8_isAsSeen_46 : decode cX8_isAsSeen 46 = .ok (.iconst 0, 1) := by decide +kernel
theorem dX8_isAsSeen_47 : decode cX8_isAsSeen 47 = .ok (.if_icmp .eq 5, 3) := by decide +kernel
theorem dX8_isAsSeen_50 : decode cX8_isAsSeen 50 = .ok (.iconst 0, 1) := by decide +kernel
theorem dX8_isAsSeen_51 : decode cX8_isAsSeen 51 = .ok (.ireturn, 1) := by decide +kernel
theorem dX8_isAsSeen_52 : decode cX8_isAsSeen 52 = .ok (.iinc 4 1, 3) := by decide +kernel
theorem dX8_isAsSeen_55 : decode cX8_isAsSeen 55 = .ok (.goto (-44), 3) := by decide +kernel
theorem dX8_isAsSeen_58 : decode cX8_isAsSeen 58 = .ok (.iconst 1, 1) := by decide +kernel
theorem dX8_isAsSeen_59 : decode cX8_isAsSeen 59 = .ok (.ireturn, 1) := by decide +kernel
theorem dX8_mean_0 : decode cX8_mean 0 = .ok (.iload_n 1, 1) := by decide +kernel
theorem dX8_mean_1 : decode cX8_mean 1 = .ok (.invokestatic 245, 3) := by decide +kernel
theorem dX8_mean_4 : decode cX8_mean 4 = .ok (.ifCond .eq 16, 3) := by decide +kernel
theorem dX8_mean_7 : decode cX8_mean 7 = .ok (.aload_n 0, 1) := by decide +kernel
theorem dX8_mean_8 : decode cX8_mean 8 = .ok (.getfield 14, 3) := by decide +kernel
theorem dX8_mean_11 : decode cX8_mean 11 = .ok (.getfield 67, 3) := by decide +kernel
theorem dX8_mean_14 : decode cX8_mean 14 = .ok (.getfield 190, 3) := by decide +kernel
theorem dX8_mean_17 : decode cX8_mean 17 = .ok (.ifCond .ne 7, 3) := by decide +kernel
theorem dX8_mean_20 : decode cX8_mean 20 = .ok (.ldc2_w 248, 3) := by decide +kernel
theorem dX8_mean_23 : decode cX8_mean 23 = .ok (.lreturn, 1) := by decide +kernel
theorem dX8_mean_24 : decode cX8_mean 24 = .ok (.aload_n 0, 1) := by decide +kernel
theorem dX8_mean_25 : decode cX8_mean 25 = .ok (.invokevirtual 239, 3) := by decide +kernel
theorem dX8_mean_28 : decode cX8_mean 28 = .ok (.istore_n 2, 1) := by decide +kernel
theorem dX8_mean_29 : decode cX8_mean 29 = .ok (.iload_n 2, 1) := by decide +kernel
theorem dX8_mean_30 : decode cX8_mean 30 = .ok (.ifCond .ne 7, 3) := by decide +kernel
theorem dX8_mean_33 : decode cX8_mean 33 = .ok (.ldc2_w 248, 3) := by decide +kernel
theorem dX8_mean_36 : decode cX8_mean 36 = .ok (.lreturn, 1) := by decide +kernel
theorem dX8_mean_37 : decode cX8_mean 37 = .ok (.aload_n 0, 1) := by decide +kernel
theorem dX8_mean_38 : decode cX8_mean 38 = .ok (.getfield 38, 3) := by decide +kernel
theorem dX8_mean_41 : decode cX8_mean 41 = .ok (.invokevirtual 285, 3) := by decide +kernel
theorem dX8_mean_44 : decode cX8_mean 44 = .ok (.i2l, 1) := by decide +kernel
theorem dX8_mean_45 : decode cX8_mean 45 = .ok (.iload_n 2, 1) := by decide +kernel
theorem dX8_mean_46 : decode cX8_mean 46 = .ok (.i2l, 1) := by decide +kernel
theorem dX8_mean_47 : decode cX8_mean 47 = .ok (.iload_n 1, 1) := by decide +kernel
theorem dX8_mean_48 : decode cX8_mean 48 = .ok (.invokestatic 258, 3) := by decide +kernel
theorem dX8_mean_51 : decode cX8_mean 51 = .ok (.lreturn, 1) := by decide +kernel
theorem dX8_event_0 : decode cX8_event 0 = .ok (.iload_n 1, 1) := by decide +kernel
theorem dX8_event_1 : decode cX8_event 1 = .ok (.iconst (-1), 1) := by decide +kernel
theorem dX8_event_2 : decode cX8_event 2 = .ok (.if_icmp .ne 14, 3) := by decide +kernel
theorem dX8_event_5 : decode cX8_event 5 = .ok (.aload_n 0, 1) := by decide +kernel
theorem dX8_event_6 : decode cX8_event 6 = .ok (.getfield 14, 3) := by decide +kernel
theorem dX8_event_9 : decode cX8_event 9 = .ok (.getfield 288, 3) := by decide +kernel
theorem dX8_event_12 : decode cX8_event 12 = .ok (.invokevirtual 270, 3) := by decide +kernel
theorem dX8_event_15 : decode cX8_event 15 = .ok (.ireturn, 1) := by decide +kernel
theorem dX8_event_16 : decode cX8_event 16 = .ok (.iload_n 1, 1) := by decide +kernel
theorem dX8_event_17 : decode cX8_event 17 = .ok (.ifCond .eq 8, 3) := by decide +kernel
theorem dX8_event_20 : decode cX8_event 20 = .ok (.iload_n 1, 1) := by decide +kernel
theorem dX8_event_21 : decode cX8_event 21 = .ok (.iconst 1, 1) := by decide +kernel
theorem dX8_event_22 : decode cX8_event 22 = .ok (.if_icmp .ne 21, 3) := by decide +kernel
theorem dX8_event_25 : decode cX8_event 25 = .ok (.aload_n 0, 1) := by decide +kernel
theorem dX8_event_26 : decode cX8_event 26 = .ok (.getfield 14, 3) := by decide +kernel
theorem dX8_event_29 : decode cX8_event 29 = .ok (.getfield 67, 3) := by decide +kernel
theorem dX8_event_32 : decode cX8_event 32 = .ok (.iload_n 2, 1) := by decide +kernel
theorem dX8_event_33 : decode cX8_event 33 = .ok (.invokevirtual 94, 3) := by decide +kernel
theorem dX8_event_36 : decode cX8_event 36 = .ok (.ifCond .eq 7, 3) := by decide +kernel
theorem dX8_event_39 : decode cX8_event 39 = .ok (.iconst 1, 1) := by decide +kernel
theorem dX8_event_40 : decode cX8_event 40 = .ok (.goto 4, 3) := by decide +kernel
theorem dX8_event_43 : decode cX8_event 43 = .ok (.iconst 0, 1) := by decide +kernel
theorem dX8_event_44 : decode cX8_event 44 = .ok (.istore_n 3, 1) := by decide +kernel
theorem dX8_event_45 : decode cX8_event 45 = .ok (.iload_n 1, 1) := by decide +kernel
theorem dX8_event_46 : decode cX8_event 46 = .ok (.iconst 2, 1) := by decide +kernel
theorem dX8_event_47 : decode cX8_event 47 = .ok (.if_icmp .eq 8, 3) := by decide +kernel
theorem dX8_event_50 : decode cX8_event 50 = .ok (.iload_n 1, 1) := by decide +kernel
theorem dX8_event_51 : decode cX8_event 51 = .ok (.iconst 3, 1) := by decide +kernel
theorem dX8_event_52 : decode cX8_event 52 = .ok (.if_icmp .ne 21, 3) := by decide +kernel
theorem dX8_event_55 : decode cX8_event 55 = .ok (.aload_n 0, 1) := by decide +kernel
theorem dX8_event_56 : decode cX8_event 56 = .ok (.getfield 14, 3) := by decide +kernel
theorem dX8_event_59 : decode cX8_event 59 = .ok (.getfield 67, 3) := by decide +kernel
theorem dX8_event_62 : decode cX8_event 62 = .ok (.iload_n 2, 1) := by decide +kernel
theorem dX8_event_63 : decode cX8_event 63 = .ok (.invokevirtual 84, 3) := by decide +kernel
theorem dX8_event_66 : decode cX8_event 66 = .ok (.ifCond .eq 7, 3) := by decide +kernel
theorem dX8_event_69 : decode cX8_event 69 = .ok (.iconst 1, 1) := by decide +kernel
theorem dX8_event_70 : decode cX8_event 70 = .ok (.goto 4, 3) := by decide +kernel
theorem dX8_event_73 : decode cX8_event 73 = .ok (.iconst 0, 1) := by decide +kernel
theorem dX8_event_74 : decode cX8_event 74 = .ok (.istore 4, 2) := by decide +kernel
theorem dX8_event_76 : decode cX8_event 76 = .ok (.iload_n 3, 1) := by decide +kernel
theorem dX8_event_77 : decode cX8_event 77 = .ok (.ifCond .ne 10, 3) := by decide +kernel
theorem dX8_event_80 : decode cX8_event 80 = .ok (.iload 4, 2) := by decide +kernel
theorem dX8_event_82 : decode cX8_event 82 = .ok (.ifCond .ne 5, 3) := by decide +kernel
theorem dX8_event_85 : decode cX8_event 85 = .ok (.iconst (-1), 1) := by decide +kernel
theorem dX8_event_86 : decode cX8_event 86 = .ok (.ireturn, 1) := by decide +kernel
theorem dX8_event_87 : decode cX8_event 87 = .ok (.aload_n 0, 1) := by decide +kernel
theorem dX8_event_88 : decode cX8_event 88 = .ok (.getfield 14, 3) := by decide +kernel
theorem dX8_event_91 : decode cX8_event 91 = .ok (.getfield 288, 3) := by decide +kernel
theorem dX8_event_94 : decode cX8_event 94 = .ok (.iload_n 1, 1) := by decide +kernel
theorem dX8_event_95 : decode cX8_event 95 = .ok (.iload_n 2, 1) := by decide +kernel
theorem dX8_event_96 : decode cX8_event 96 = .ok (.invokevirtual 275, 3) := by decide +kernel
theorem dX8_event_99 : decode cX8_event 99 = .ok (.ireturn, 1) := by decide +kernel
theorem dX8_after_0 : decode cX8_after 0 = .ok (.iload_n 1, 1) := by decide +kernel
theorem dX8_after_1 : decode cX8_after 1 = .ok (.ifCond .lt 8, 3) := by decide +kernel
theorem dX8_after_4 : decode cX8_after 4 = .ok (.iload_n 1, 1) := by decide +kernel
theorem dX8_after_5 : decode cX8_after 5 = .ok (.iconst 3, 1) := by decide +kernel
theorem dX8_after_6 : decode cX8_after 6 = .ok (.if_icmp .le 5, 3) := by decide +kernel
theorem dX8_after_9 : decode cX8_after 9 = .ok (.iconst (-1), 1) := by decide +kernel
theorem dX8_after_10 : decode cX8_after 10 = .ok (.ireturn, 1) := by decide +kernel
theorem dX8_after_11 : decode cX8_after 11 = .ok (.aload_n 0, 1) := by decide +kernel
theorem dX8_after_12 : decode cX8_after 12 = .ok (.getfield 14, 3) := by decide +kernel
theorem dX8_after_15 : decode cX8_after 15 = .ok (.getfield 67, 3) := by decide +kernel
theorem dX8_after_18 : decode cX8_after 18 = .ok (.getfield 190, 3) := by decide +kernel
theorem dX8_after_21 : decode cX8_after 21 = .ok (.ifCond .ne 6, 3) := by decide +kernel
theorem dX8_after_24 : decode cX8_after 24 = .ok (.bipush (-3), 2) := by decide +kernel
theorem dX8_after_26 : decode cX8_after 26 = .ok (.ireturn, 1) := by decide +kernel
theorem dX8_after_27 : decode cX8_after 27 = .ok (.aload_n 0, 1) := by decide +kernel
theorem dX8_after_28 : decode cX8_after 28 = .ok (.getfield 24, 3) := by decide +kernel
theorem dX8_after_31 : decode cX8_after 31 = .ok (.aload_n 0, 1) := by decide +kernel
theorem dX8_after_32 : decode cX8_after 32 = .ok (.getfield 14, 3) := by decide +kernel
theorem dX8_after_35 : decode cX8_after 35 = .ok (.getfield 67, 3) := by decide +kernel
theorem dX8_after_38 : decode cX8_after 38 = .ok (.invokevirtual 196, 3) := by decide +kernel
theorem dX8_after_41 : decode cX8_after 41 = .ok (.iconst 0, 1) := by decide +kernel
theorem dX8_after_42 : decode cX8_after 42 = .ok (.istore_n 2, 1) := by decide +kernel
theorem dX8_after_43 : decode cX8_after 43 = .ok (.iload_n 2, 1) := by decide +kernel
theorem dX8_after_44 : decode cX8_after 44 = .ok (.aload_n 0, 1) := by decide +kernel
theorem dX8_after_45 : decode cX8_after 45 = .ok (.getfield 14, 3) := by decide +kernel
theorem dX8_after_48 : decode cX8_after 48 = .ok (.getfield 288, 3) := by decide +kernel
theorem dX8_after_51 : decode cX8_after 51 = .ok (.getfield 282, 3) := by decide +kernel
theorem dX8_after_54 : decode cX8_after 54 = .ok (.if_icmp .ge 40, 3) := by decide +kernel
theorem dX8_after_57 : decode cX8_after 57 = .ok (.aload_n 0, 1) := by decide +kernel
theorem dX8_after_58 : decode cX8_after 58 = .ok (.getfield 24, 3) := by decide +kernel
theorem dX8_after_61 : decode cX8_after 61 = .ok (.aload_n 0, 1) := by decide +kernel
theorem dX8_after_62 : decode cX8_after 62 = .ok (.getfield 14, 3) := by decide +kernel
theorem dX8_after_65 : decode cX8_after 65 = .ok (.getfield 288, 3) := by decide +kernel
theorem dX8_after_68 : decode cX8_after 68 = .ok (.getfield 283, 3) := by decide +kernel
theorem dX8_after_71 : decode cX8_after 71 = .ok (.iload_n 2, 1) := by decide +kernel
theorem dX8_after_72 : decode cX8_after 72 = .ok (.iaload, 1) := by decide +kernel
theorem dX8_after_73 : decode cX8_after 73 = .ok (.aload_n 0, 1) := by decide +kernel
theorem dX8_after_74 : decode cX8_after 74 = .ok (.getfield 14, 3) := by decide +kernel
theorem dX8_after_77 : decode cX8_after 77 = .ok (.getfield 288, 3) := by decide +kernel
theorem dX8_after_80 : decode cX8_after 80 = .ok (.getfield 284, 3) := by decide +kernel
theorem dX8_after_83 : decode cX8_after 83 = .ok (.iload_n 2, 1) := by decide +kernel
theorem dX8_after_84 : decode cX8_after 84 = .ok (.iaload, 1) := by decide +kernel
theorem dX8_after_85 : decode cX8_after 85 = .ok (.invokevirtual 291, 3) := by decide +kernel
theorem dX8_after_88 : decode cX8_after 88 = .ok (.iinc 2 1, 3) := by decide +kernel
theorem dX8_after_91 : decode cX8_after 91 = .ok (.goto (-48), 3) := by decide +kernel
theorem dX8_after_94 : decode cX8_after 94 = .ok (.aload_n 0, 1) := by decide +kernel
theorem dX8_after_95 : decode cX8_after 95 = .ok (.getfield 24, 3) := by decide +kernel
theorem dX8_after_98 : decode cX8_after 98 = .ok (.invokevirtual 200, 3) := by decide +kernel
theorem dX8_after_101 : decode cX8_after 101 = .ok (.lstore_n 2, 1) := by decide +kernel
theorem dX8_after_102 : decode cX8_after 102 = .ok (.iload_n 1, 1) := by decide +kernel
theorem dX8_after_103 : decode cX8_after 103 = .ok (.tableswitch 68 0 2 #[25, 41, 54], 25) := by decide +kernel
theorem dX8_after_128 : decode cX8_after 128 = .ok (.aload_n 0, 1) := by decide +kernel
theorem dX8_after_129 : decode cX8_after 129 = .ok (.getfield 38, 3) := by decide +kernel
theorem dX8_after_132 : decode cX8_after 132 = .ok (.lload_n 2, 1) := by decide +kernel
theorem dX8_after_133 : decode cX8_after 133 = .ok (.aload_n 0, 1) := by decide +kernel
theorem dX8_after_134 : decode cX8_after 134 = .ok (.getfield 24, 3) := by decide +kernel
theorem dX8_after_137 : decode cX8_after 137 = .ok (.getfield 204, 3) := by decide +kernel
theorem dX8_after_140 : decode cX8_after 140 = .ok (.invokevirtual 223, 3) := by decide +kernel
theorem dX8_after_143 : decode cX8_after 143 = .ok (.ireturn, 1) := by decide +kernel
theorem dX8_after_144 : decode cX8_after 144 = .ok (.aload_n 0, 1) := by decide +kernel
theorem dX8_after_145 : decode cX8_after 145 = .ok (.getfield 31, 3) := by decide +kernel
theorem dX8_after_148 : decode cX8_after 148 = .ok (.aload_n 0, 1) := by decide +kernel
theorem dX8_after_149 : decode cX8_after 149 = .ok (.getfield 24, 3) := by decide +kernel
theorem dX8_after_152 : decode cX8_after 152 = .ok (.lload_n 2, 1) := by decide +kernel
theorem dX8_after_153 : decode cX8_after 153 = .ok (.invokevirtual 207, 3) := by decide +kernel
theorem dX8_after_156 : decode cX8_after 156 = .ok (.ireturn, 1) := by decide +kernel
theorem dX8_after_157 : decode cX8_after 157 = .ok (.lload_n 2, 1) := by decide +kernel
theorem dX8_after_158 : decode cX8_after 158 = .ok (.iconst 0, 1) := by decide +kernel
theorem dX8_after_159 : decode cX8_after 159 = .ok (.invokestatic 180, 3) := by decide +kernel
theorem dX8_after_162 : decode cX8_after 162 = .ok (.ifCond .eq 7, 3) := by decide +kernel
theorem dX8_after_165 : decode cX8_after 165 = .ok (.iconst 1, 1) := by decide +kernel
theorem dX8_after_166 : decode cX8_after 166 = .ok (.goto 4, 3) := by decide +kernel
theorem dX8_after_169 : decode cX8_after 169 = .ok (.iconst 0, 1) := by decide +kernel
theorem dX8_after_170 : decode cX8_after 170 = .ok (.ireturn, 1) := by decide +kernel
theorem dX8_after_171 : decode cX8_after 171 = .ok (.aload_n 0, 1) := by decide +kernel
theorem dX8_after_172 : decode cX8_after 172 = .ok (.getfield 45, 3) := by decide +kernel
theorem dX8_after_175 : decode cX8_after 175 = .ok (.aload_n 0, 1) := by decide +kernel
theorem dX8_after_176 : decode cX8_after 176 = .ok (.getfield 24, 3) := by decide +kernel
theorem dX8_after_179 : decode cX8_after 179 = .ok (.lload_n 2, 1) := by decide +kernel
theorem dX8_after_180 : decode cX8_after 180 = .ok (.invokevirtual 230, 3) := by decide +kernel
theorem dX8_after_183 : decode cX8_after 183 = .ok (.ireturn, 1) := by decide +kernel
theorem dX8_book_0 : decode cX8_book 0 = .ok (.iload_n 1, 1) := by decide +kernel
theorem dX8_book_1 : decode cX8_book 1 = .ok (.iconst (-1), 1) := by decide +kernel
theorem dX8_book_2 : decode cX8_book 2 = .ok (.if_icmp .ne 14, 3) := by decide +kernel
theorem dX8_book_5 : decode cX8_book 5 = .ok (.aload_n 0, 1) := by decide +kernel
theorem dX8_book_6 : decode cX8_book 6 = .ok (.getfield 14, 3) := by decide +kernel
theorem dX8_book_9 : decode cX8_book 9 = .ok (.getfield 295, 3) := by decide +kernel
theorem dX8_book_12 : decode cX8_book 12 = .ok (.invokevirtual 270, 3) := by decide +kernel
theorem dX8_book_15 : decode cX8_book 15 = .ok (.ireturn, 1) := by decide +kernel
theorem dX8_book_16 : decode cX8_book 16 = .ok (.aload_n 0, 1) := by decide +kernel
theorem dX8_book_17 : decode cX8_book 17 = .ok (.getfield 14, 3) := by decide +kernel
theorem dX8_book_20 : decode cX8_book 20 = .ok (.getfield 67, 3) := by decide +kernel
theorem dX8_book_23 : decode cX8_book 23 = .ok (.iload_n 1, 1) := by decide +kernel
theorem dX8_book_24 : decode cX8_book 24 = .ok (.invokevirtual 111, 3) := by decide +kernel
theorem dX8_book_27 : decode cX8_book 27 = .ok (.ifCond .ne 6, 3) := by decide +kernel
theorem dX8_book_30 : decode cX8_book 30 = .ok (.bipush (-2), 2) := by decide +kernel
theorem dX8_book_32 : decode cX8_book 32 = .ok (.ireturn, 1) := by decide +kernel
theorem dX8_book_33 : decode cX8_book 33 = .ok (.aload_n 0, 1) := by decide +kernel
theorem dX8_book_34 : decode cX8_book 34 = .ok (.getfield 14, 3) := by decide +kernel
theorem dX8_book_37 : decode cX8_book 37 = .ok (.getfield 295, 3) := by decide +kernel
theorem dX8_book_40 : decode cX8_book 40 = .ok (.iload_n 1, 1) := by decide +kernel
theorem dX8_book_41 : decode cX8_book 41 = .ok (.iconst 0, 1) := by decide +kernel
theorem dX8_book_42 : decode cX8_book 42 = .ok (.invokevirtual 275, 3) := by decide +kernel
theorem dX8_book_45 : decode cX8_book 45 = .ok (.ireturn, 1) := by decide +kernel
theorem dX8_looked_0 : decode cX8_looked 0 = .ok (.aload_n 0, 1) := by decide +kernel
theorem dX8_looked_1 : decode cX8_looked 1 = .ok (.getfield 14, 3) := by decide +kernel
theorem dX8_looked_4 : decode cX8_looked 4 = .ok (.getfield 67, 3) := by decide +kernel
theorem dX8_looked_7 : decode cX8_looked 7 = .ok (.getfield 190, 3) := by decide +kernel
theorem dX8_looked_10 : decode cX8_looked 10 = .ok (.ifCond .ne 6, 3) := by decide +kernel
theorem dX8_looked_13 : decode cX8_looked 13 = .ok (.bipush (-3), 2) := by decide +kernel
theorem dX8_looked_15 : decode cX8_looked 15 = .ok (.ireturn, 1) := by decide +kernel
theorem dX8_looked_16 : decode cX8_looked 16 = .ok (.aload_n 0, 1) := by decide +kernel
theorem dX8_looked_17 : decode cX8_looked 17 = .ok (.invokevirtual 239, 3) := by decide +kernel
theorem dX8_looked_20 : decode cX8_looked 20 = .ok (.pop, 1) := by decide +kernel
theorem dX8_looked_21 : decode cX8_looked 21 = .ok (.iconst 0, 1) := by decide +kernel
theorem dX8_looked_22 : decode cX8_looked 22 = .ok (.istore_n 1, 1) := by decide +kernel
theorem dX8_looked_23 : decode cX8_looked 23 = .ok (.iload_n 1, 1) := by decide +kernel
theorem dX8_looked_24 : decode cX8_looked 24 = .ok (.aload_n 0, 1) := by decide +kernel
theorem dX8_looked_25 : decode cX8_looked 25 = .ok (.getfield 14, 3) := by decide +kernel
theorem dX8_looked_28 : decode cX8_looked 28 = .ok (.getfield 295, 3) := by decide +kernel
theorem dX8_looked_31 : decode cX8_looked 31 = .ok (.getfield 282, 3) := by decide +kernel
theorem dX8_looked_34 : decode cX8_looked 34 = .ok (.if_icmp .ge 33, 3) := by decide +kernel
theorem dX8_looked_37 : decode cX8_looked 37 = .ok (.aload_n 0, 1) := by decide +kernel
theorem dX8_looked_38 : decode cX8_looked 38 = .ok (.getfield 38, 3) := by decide +kernel
theorem dX8_looked_41 : decode cX8_looked 41 = .ok (.aload_n 0, 1) := by decide +kernel
theorem dX8_looked_42 : decode cX8_looked 42 = .ok (.getfield 14, 3) := by decide +kernel
theorem dX8_looked_45 : decode cX8_looked 45 = .ok (.getfield 295, 3) := by decide +kernel
theorem dX8_looked_48 : decode cX8_looked 48 = .ok (.getfield 283, 3) := by decide +kernel
theorem dX8_looked_51 : decode cX8_looked 51 = .ok (.iload_n 1, 1) := by decide +kernel
theorem dX8_looked_52 : decode cX8_looked 52 = .ok (.iaload, 1) := by decide +kernel
theorem dX8_looked_53 : decode cX8_looked 53 = .ok (.invokevirtual 298, 3) := by decide +kernel
theorem dX8_looked_56 : decode cX8_looked 56 = .ok (.ifCond .ne 5, 3) := by decide +kernel
theorem dX8_looked_59 : decode cX8_looked 59 = .ok (.iload_n 1, 1) := by decide +kernel
theorem dX8_looked_60 : decode cX8_looked 60 = .ok (.ireturn, 1) := by decide +kernel
theorem dX8_looked_61 : decode cX8_looked 61 = .ok (.iinc 1 1, 3) := by decide +kernel
theorem dX8_looked_64 : decode cX8_looked 64 = .ok (.goto (-41), 3) := by decide +kernel
theorem dX8_looked_67 : decode cX8_looked 67 = .ok (.bipush (-5), 2) := by decide +kernel
theorem dX8_looked_69 : decode cX8_looked 69 = .ok (.ireturn, 1) := by decide +kernel
theorem dX8_judge_0 : decode cX8_judge 0 = .ok (.aload_n 0, 1) := by decide +kernel
theorem dX8_judge_1 : decode cX8_judge 1 = .ok (.iload_n 1, 1) := by decide +kernel
theorem dX8_judge_2 : decode cX8_judge 2 = .ok (.invokevirtual 301, 3) := by decide +kernel
theorem dX8_judge_5 : decode cX8_judge 5 = .ok (.astore_n 3, 1) := by decide +kernel
theorem dX8_judge_6 : decode cX8_judge 6 = .ok (.aload_n 3, 1) := by decide +kernel
theorem dX8_judge_7 : decode cX8_judge 7 = .ok (.ifnonnull 5, 3) := by decide +kernel
theorem dX8_judge_10 : decode cX8_judge 10 = .ok (.iconst (-1), 1) := by decide +kernel
theorem dX8_judge_11 : decode cX8_judge 11 = .ok (.ireturn, 1) := by decide +kernel
theorem dX8_judge_12 : decode cX8_judge 12 = .ok (.aload_n 0, 1) := by decide +kernel
theorem dX8_judge_13 : decode cX8_judge 13 = .ok (.getfield 14, 3) := by decide +kernel
theorem dX8_judge_16 : decode cX8_judge 16 = .ok (.getfield 67, 3) := by decide +kernel
theorem dX8_judge_19 : decode cX8_judge 19 = .ok (.getfield 190, 3) := by decide +kernel
theorem dX8_judge_22 : decode cX8_judge 22 = .ok (.ifCond .ne 6, 3) := by decide +kernel
theorem dX8_judge_25 : decode cX8_judge 25 = .ok (.bipush (-3), 2) := by decide +kernel
theorem dX8_judge_27 : decode cX8_judge 27 = .ok (.ireturn, 1) := by decide +kernel
theorem dX8_judge_28 : decode cX8_judge 28 = .ok (.aload_n 3, 1) := by decide +kernel
theorem dX8_judge_29 : decode cX8_judge 29 = .ok (.getfield 305, 3) := by decide +kernel
theorem dX8_judge_32 : decode cX8_judge 32 = .ok (.iconst (-1), 1) := by decide +kernel
theorem dX8_judge_33 : decode cX8_judge 33 = .ok (.if_icmp .eq 13, 3) := by decide +kernel
theorem dX8_judge_36 : decode cX8_judge 36 = .ok (.aload_n 3, 1) := by decide +kernel
theorem dX8_judge_37 : decode cX8_judge 37 = .ok (.getfield 305, 3) := by decide +kernel
theorem dX8_judge_40 : decode cX8_judge 40 = .ok (.ifCond .eq 6, 3) := by decide +kernel
theorem dX8_judge_43 : decode cX8_judge 43 = .ok (.bipush (-12), 2) := by decide +kernel
theorem dX8_judge_45 : decode cX8_judge 45 = .ok (.ireturn, 1) := by decide +kernel
theorem dX8_judge_46 : decode cX8_judge 46 = .ok (.aload_n 0, 1) := by decide +kernel
theorem dX8_judge_47 : decode cX8_judge 47 = .ok (.invokevirtual 239, 3) := by decide +kernel
theorem dX8_judge_50 : decode cX8_judge 50 = .ok (.pop, 1) := by decide +kernel
theorem dX8_judge_51 : decode cX8_judge 51 = .ok (.iconst 0, 1) := by decide +kernel
theorem dX8_judge_52 : decode cX8_judge 52 = .ok (.istore 4, 2) := by decide +kernel
theorem dX8_judge_54 : decode cX8_judge 54 = .ok (.iload 4, 2) := by decide +kernel
theorem dX8_judge_56 : decode cX8_judge 56 = .ok (.aload_n 0, 1) := by decide +kernel
theorem dX8_judge_57 : decode cX8_judge 57 = .ok (.getfield 38, 3) := by decide +kernel
theorem dX8_judge_60 : decode cX8_judge 60 = .ok (.getfield 308, 3) := by decide +kernel
theorem dX8_judge_63 : decode cX8_judge 63 = .ok (.if_icmp .ge 57, 3) := by decide +kernel
theorem dX8_judge_66 : decode cX8_judge 66 = .ok (.iload_n 2, 1) := by decide +kernel
theorem dX8_judge_67 : decode cX8_judge 67 = .ok (.ifCond .lt 14, 3) := by decide +kernel
theorem dX8_judge_70 : decode cX8_judge 70 = .ok (.iload_n 2, 1) := by decide +kernel
theorem dX8_judge_71 : decode cX8_judge 71 = .ok (.aload_n 3, 1) := by decide +kernel
theorem dX8_judge_72 : decode cX8_judge 72 = .ok (.getfield 309, 3) := by decide +kernel
theorem dX8_judge_75 : decode cX8_judge 75 = .ok (.iload 4, 2) := by decide +kernel
theorem dX8_judge_77 : decode cX8_judge 77 = .ok (.isub, 1) := by decide +kernel
theorem dX8_judge_78 : decode cX8_judge 78 = .ok (.if_icmp .lt 9, 3) := by decide +kernel
theorem dX8_judge_81 : decode cX8_judge 81 = .ok (.bipush 100, 2) := by decide +kernel
theorem dX8_judge_83 : decode cX8_judge 83 = .ok (.iload 4, 2) := by decide +kernel
theorem dX8_judge_85 : decode cX8_judge 85 = .ok (.iadd, 1) := by decide +kernel
theorem dX8_judge_86 : decode cX8_judge 86 = .ok (.ireturn, 1) := by decide +kernel
theorem dX8_judge_87 : decode cX8_judge 87 = .ok (.aload_n 3, 1) := by decide +kernel
theorem dX8_judge_88 : decode cX8_judge 88 = .ok (.getfield 312, 3) := by decide +kernel
theorem dX8_judge_91 : decode cX8_judge 91 = .ok (.iload_n 2, 1) := by decide +kernel
theorem dX8_judge_92 : decode cX8_judge 92 = .ok (.iload 4, 2) := by decide +kernel
theorem dX8_judge_94 : decode cX8_judge 94 = .ok (.iadd, 1) := by decide +kernel
theorem dX8_judge_95 : decode cX8_judge 95 = .ok (.laload, 1) := by decide +kernel
theorem dX8_judge_96 : decode cX8_judge 96 = .ok (.aload_n 0, 1) := by decide +kernel
theorem dX8_judge_97 : decode cX8_judge 97 = .ok (.getfield 38, 3) := by decide +kernel
theorem dX8_judge_100 : decode cX8_judge 100 = .ok (.getfield 316, 3) := by decide +kernel
theorem dX8_judge_103 : decode cX8_judge 103 = .ok (.iload 4, 2) := by decide +kernel
theorem dX8_judge_105 : decode cX8_judge 105 = .ok (.iaload, 1) := by decide +kernel
theorem dX8_judge_106 : decode cX8_judge 106 = .ok (.i2l, 1) := by decide +kernel
theorem dX8_judge_107 : decode cX8_judge 107 = .ok (.lcmp, 1) := by decide +kernel
theorem dX8_judge_108 : decode cX8_judge 108 = .ok (.ifCond .eq 6, 3) := by decide +kernel
theorem dX8_judge_111 : decode cX8_judge 111 = .ok (.iload 4, 2) := by decide +kernel
theorem dX8_judge_113 : decode cX8_judge 113 = .ok (.ireturn, 1) := by decide +kernel
theorem dX8_judge_114 : decode cX8_judge 114 = .ok (.iinc 4 1, 3) := by decide +kernel
theorem dX8_judge_117 : decode cX8_judge 117 = .ok (.goto (-63), 3) := by decide +kernel
theorem dX8_judge_120 : decode cX8_judge 120 = .ok (.bipush (-5), 2) := by decide +kernel
theorem dX8_judge_122 : decode cX8_judge 122 = .ok (.ireturn, 1) := by decide +kernel
theorem dX8_image_0 : decode cX8_image 0 = .ok (.aload_n 0, 1) := by decide +kernel
theorem dX8_image_1 : decode cX8_image 1 = .ok (.getfield 18, 3) := by decide +kernel
theorem dX8_image_4 : decode cX8_image 4 = .ok (.aload_n 0, 1) := by decide +kernel
theorem dX8_image_5 : decode cX8_image 5 = .ok (.getfield 14, 3) := by decide +kernel
theorem dX8_image_8 : decode cX8_image 8 = .ok (.invokevirtual 319, 3) := by decide +kernel
theorem dX8_image_11 : decode cX8_image 11 = .ok (.aload_n 0, 1) := by decide +kernel
theorem dX8_image_12 : decode cX8_image 12 = .ok (.iconst 1, 1) := by decide +kernel
theorem dX8_image_13 : decode cX8_image 13 = .ok (.putfield 322, 3) := by decide +kernel
theorem dX8_image_16 : decode cX8_image 16 = .ok (.aload_n 0, 1) := by decide +kernel
theorem dX8_image_17 : decode cX8_image 17 = .ok (.getfield 14, 3) := by decide +kernel
theorem dX8_image_20 : decode cX8_image 20 = .ok (.getfield 67, 3) := by decide +kernel
theorem dX8_image_23 : decode cX8_image 23 = .ok (.getfield 190, 3) := by decide +kernel
theorem dX8_image_26 : decode cX8_image 26 = .ok (.ireturn, 1) := by decide +kernel
theorem dX8_undo_0 : decode cX8_undo 0 = .ok (.aload_n 0, 1) := by decide +kernel
theorem dX8_undo_1 : decode cX8_undo 1 = .ok (.getfield 322, 3) := by decide +kernel
theorem dX8_undo_4 : decode cX8_undo 4 = .ok (.ifCond .ne 6, 3) := by decide +kernel
theorem dX8_undo_7 : decode cX8_undo 7 = .ok (.bipush (-3), 2) := by decide +kernel
theorem dX8_undo_9 : decode cX8_undo 9 = .ok (.ireturn, 1) := by decide +kernel
theorem dX8_undo_10 : decode cX8_undo 10 = .ok (.aload_n 0, 1) := by decide +kernel
theorem dX8_undo_11 : decode cX8_undo 11 = .ok (.getfield 14, 3) := by decide +kernel
theorem dX8_undo_14 : decode cX8_undo 14 = .ok (.aload_n 0, 1) := by decide +kernel
theorem dX8_undo_15 : decode cX8_undo 15 = .ok (.getfield 18, 3) := by decide +kernel
theorem dX8_undo_18 : decode cX8_undo 18 = .ok (.invokevirtual 319, 3) := by decide +kernel
theorem dX8_undo_21 : decode cX8_undo 21 = .ok (.aload_n 0, 1) := by decide +kernel
theorem dX8_undo_22 : decode cX8_undo 22 = .ok (.getfield 14, 3) := by decide +kernel
theorem dX8_undo_25 : decode cX8_undo 25 = .ok (.getfield 67, 3) := by decide +kernel
theorem dX8_undo_28 : decode cX8_undo 28 = .ok (.getfield 190, 3) := by decide +kernel
theorem dX8_undo_31 : decode cX8_undo 31 = .ok (.ireturn, 1) := by decide +kernel
theorem dX8_count_0 : decode cX8_count 0 = .ok (.iload_n 1, 1) := by decide +kernel
theorem dX8_count_1 : decode cX8_count 1 = .ok (.tableswitch 72 0 3 #[31, 42, 53, 64], 31) := by decide +kernel
theorem dX8_count_32 : decode cX8_count 32 = .ok (.aload_n 0, 1) := by decide +kernel
theorem dX8_count_33 : decode cX8_count 33 = .ok (.getfield 14, 3) := by decide +kernel
theorem dX8_count_36 : decode cX8_count 36 = .ok (.getfield 266, 3) := by decide +kernel
theorem dX8_count_39 : decode cX8_count 39 = .ok (.getfield 282, 3) := by decide +kernel
theorem dX8_count_42 : decode cX8_count 42 = .ok (.ireturn, 1) := by decide +kernel
theorem dX8_count_43 : decode cX8_count 43 = .ok (.aload_n 0, 1) := by decide +kernel
theorem dX8_count_44 : decode cX8_count 44 = .ok (.getfield 14, 3) := by decide +kernel
theorem dX8_count_47 : decode cX8_count 47 = .ok (.getfield 288, 3) := by decide +kernel
theorem dX8_count_50 : decode cX8_count 50 = .ok (.getfield 282, 3) := by decide +kernel
theorem dX8_count_53 : decode cX8_count 53 = .ok (.ireturn, 1) := by decide +kernel
theorem dX8_count_54 : decode cX8_count 54 = .ok (.aload_n 0, 1) := by decide +kernel
theorem dX8_count_55 : decode cX8_count 55 = .ok (.getfield 14, 3) := by decide +kernel
theorem dX8_count_58 : decode cX8_count 58 = .ok (.getfield 295, 3) := by decide +kernel
theorem dX8_count_61 : decode cX8_count 61 = .ok (.getfield 282, 3) := by decide +kernel
theorem dX8_count_64 : decode cX8_count 64 = .ok (.ireturn, 1) := by decide +kernel
theorem dX8_count_65 : decode cX8_count 65 = .ok (.aload_n 0, 1) := by decide +kernel
theorem dX8_count_66 : decode cX8_count 66 = .ok (.getfield 52, 3) := by decide +kernel
theorem dX8_count_69 : decode cX8_count 69 = .ok (.getfield 142, 3) := by decide +kernel
theorem dX8_count_72 : decode cX8_count 72 = .ok (.ireturn, 1) := by decide +kernel
theorem dX8_count_73 : decode cX8_count 73 = .ok (.bipush (-2), 2) := by decide +kernel
theorem dX8_count_75 : decode cX8_count 75 = .ok (.ireturn, 1) := by decide +kernel
theorem dX8_tape_0 : decode cX8_tape 0 = .ok (.aload_n 0, 1) := by decide +kernel
theorem dX8_tape_1 : decode cX8_tape 1 = .ok (.iload_n 1, 1) := by decide +kernel
theorem dX8_tape_2 : decode cX8_tape 2 = .ok (.invokevirtual 301, 3) := by decide +kernel
theorem dX8_tape_5 : decode cX8_tape 5 = .ok (.astore 4, 2) := by decide +kernel
theorem dX8_tape_7 : decode cX8_tape 7 = .ok (.aload 4, 2) := by decide +kernel
theorem dX8_tape_9 : decode cX8_tape 9 = .ok (.ifnonnull 5, 3) := by decide +kernel
theorem dX8_tape_12 : decode cX8_tape 12 = .ok (.iconst (-1), 1) := by decide +kernel
theorem dX8_tape_13 : decode cX8_tape 13 = .ok (.ireturn, 1) := by decide +kernel
theorem dX8_tape_14 : decode cX8_tape 14 = .ok (.iload_n 2, 1) := by decide +kernel
theorem dX8_tape_15 : decode cX8_tape 15 = .ok (.iconst (-1), 1) := by decide +kernel
theorem dX8_tape_16 : decode cX8_tape 16 = .ok (.if_icmp .ne 12, 3) := by decide +kernel
theorem dX8_tape_19 : decode cX8_tape 19 = .ok (.aload 4, 2) := by decide +kernel
theorem dX8_tape_21 : decode cX8_tape 21 = .ok (.iconst (-1), 1) := by decide +kernel
theorem dX8_tape_22 : decode cX8_tape 22 = .ok (.iconst 0, 1) := by decide +kernel
theorem dX8_tape_23 : decode cX8_tape 23 = .ok (.invokevirtual 326, 3) := by decide +kernel
theorem dX8_tape_26 : decode cX8_tape 26 = .ok (.iconst 1, 1) := by decide +kernel
theorem dX8_tape_27 : decode cX8_tape 27 = .ok (.ireturn, 1) := by decide +kernel
theorem dX8_tape_28 : decode cX8_tape 28 = .ok (.iload_n 2, 1) := by decide +kernel
theorem dX8_tape_29 : decode cX8_tape 29 = .ok (.ifCond .lt 14, 3) := by decide +kernel
theorem dX8_tape_32 : decode cX8_tape 32 = .ok (.iload_n 2, 1) := by decide +kernel
theorem dX8_tape_33 : decode cX8_tape 33 = .ok (.iconst 4, 1) := by decide +kernel
theorem dX8_tape_34 : decode cX8_tape 34 = .ok (.if_icmp .gt 9, 3) := by decide +kernel
theorem dX8_tape_37 : decode cX8_tape 37 = .ok (.iload_n 3, 1) := by decide +kernel
theorem dX8_tape_38 : decode cX8_tape 38 = .ok (.bipush 60, 2) := by decide +kernel
theorem dX8_tape_40 : decode cX8_tape 40 = .ok (.if_icmp .le 6, 3) := by decide +kernel
theorem dX8_tape_43 : decode cX8_tape 43 = .ok (.bipush (-2), 2) := by decide +kernel
theorem dX8_tape_45 : decode cX8_tape 45 = .ok (.ireturn, 1) := by decide +kernel
theorem dX8_tape_46 : decode cX8_tape 46 = .ok (.iload_n 3, 1) := by decide +kernel
theorem dX8_tape_47 : decode cX8_tape 47 = .ok (.ifCond .ge 6, 3) := by decide +kernel
theorem dX8_tape_50 : decode cX8_tape 50 = .ok (.bipush (-14), 2) := by decide +kernel
theorem dX8_tape_52 : decode cX8_tape 52 = .ok (.ireturn, 1) := by decide +kernel
theorem dX8_tape_53 : decode cX8_tape 53 = .ok (.aload 4, 2) := by decide +kernel
theorem dX8_tape_55 : decode cX8_tape 55 = .ok (.iload_n 2, 1) := by decide +kernel
theorem dX8_tape_56 : decode cX8_tape 56 = .ok (.iload_n 3, 1) := by decide +kernel
theorem dX8_tape_57 : decode cX8_tape 57 = .ok (.invokevirtual 326, 3) := by decide +kernel
theorem dX8_tape_60 : decode cX8_tape 60 = .ok (.iconst 1, 1) := by decide +kernel
theorem dX8_tape_61 : decode cX8_tape 61 = .ok (.ireturn, 1) := by decide +kernel
theorem dX8_item_0 : decode cX8_item 0 = .ok (.aload_n 0, 1) := by decide +kernel
theorem dX8_item_1 : decode cX8_item 1 = .ok (.iload_n 1, 1) := by decide +kernel
theorem dX8_item_2 : decode cX8_item 2 = .ok (.invokevirtual 301, 3) := by decide +kernel
theorem dX8_item_5 : decode cX8_item 5 = .ok (.astore 5, 2) := by decide +kernel
theorem dX8_item_7 : decode cX8_item 7 = .ok (.aload 5, 2) := by decide +kernel
theorem dX8_item_9 : decode cX8_item 9 = .ok (.ifnonnull 5, 3) := by decide +kernel
theorem dX8_item_12 : decode cX8_item 12 = .ok (.iconst (-1), 1) := by decide +kernel
theorem dX8_item_13 : decode cX8_item 13 = .ok (.ireturn, 1) := by decide +kernel
theorem dX8_item_14 : decode cX8_item 14 = .ok (.aload 5, 2) := by decide +kernel
theorem dX8_item_16 : decode cX8_item 16 = .ok (.getfield 305, 3) := by decide +kernel
theorem dX8_item_19 : decode cX8_item 19 = .ok (.iconst (-1), 1) := by decide +kernel
theorem dX8_item_20 : decode cX8_item 20 = .ok (.if_icmp .ne 6, 3) := by decide +kernel
theorem dX8_item_23 : decode cX8_item 23 = .ok (.bipush (-11), 2) := by decide +kernel
theorem dX8_item_25 : decode cX8_item 25 = .ok (.ireturn, 1) := by decide +kernel
theorem dX8_item_26 : decode cX8_item 26 = .ok (.aload 5, 2) := by decide +kernel
theorem dX8_item_28 : decode cX8_item 28 = .ok (.iload_n 2, 1) := by decide +kernel
theorem dX8_item_29 : decode cX8_item 29 = .ok (.invokevirtual 329, 3) := by decide +kernel
theorem dX8_item_32 : decode cX8_item 32 = .ok (.ifCond .ne 6, 3) := by decide +kernel
theorem dX8_item_35 : decode cX8_item 35 = .ok (.bipush (-13), 2) := by decide +kernel
theorem dX8_item_37 : decode cX8_item 37 = .ok (.ireturn, 1) := by decide +kernel
theorem dX8_item_38 : decode cX8_item 38 = .ok (.aload 5, 2) := by decide +kernel
theorem dX8_item_40 : decode cX8_item 40 = .ok (.getfield 312, 3) := by decide +kernel
theorem dX8_item_43 : decode cX8_item 43 = .ok (.iload_n 2, 1) := by decide +kernel
theorem dX8_item_44 : decode cX8_item 44 = .ok (.aload 5, 2) := by decide +kernel
theorem dX8_item_46 : decode cX8_item 46 = .ok (.lload_n 3, 1) := by decide +kernel
theorem dX8_item_47 : decode cX8_item 47 = .ok (.invokevirtual 330, 3) := by decide +kernel
theorem dX8_item_50 : decode cX8_item 50 = .ok (.lastore, 1) := by decide +kernel
theorem dX8_item_51 : decode cX8_item 51 = .ok (.iconst 1, 1) := by decide +kernel
theorem dX8_item_52 : decode cX8_item 52 = .ok (.ireturn, 1) := by decide +kernel
theorem dX8_peek_0 : decode cX8_peek 0 = .ok (.aload_n 0, 1) := by decide +kernel
theorem dX8_peek_1 : decode cX8_peek 1 = .ok (.iload_n 1, 1) := by decide +kernel
theorem dX8_peek_2 : decode cX8_peek 2 = .ok (.invokevirtual 301, 3) := by decide +kernel
theorem dX8_peek_5 : decode cX8_peek 5 = .ok (.astore_n 3, 1) := by decide +kernel
theorem dX8_peek_6 : decode cX8_peek 6 = .ok (.aload_n 3, 1) := by decide +kernel
theorem dX8_peek_7 : decode cX8_peek 7 = .ok (.ifnull 11, 3) := by decide +kernel
theorem dX8_peek_10 : decode cX8_peek 10 = .ok (.aload_n 3, 1) := by decide +kernel
theorem dX8_peek_11 : decode cX8_peek 11 = .ok (.iload_n 2, 1) := by decide +kernel
theorem dX8_peek_12 : decode cX8_peek 12 = .ok (.invokevirtual 329, 3) := by decide +kernel
theorem dX8_peek_15 : decode cX8_peek 15 = .ok (.ifCond .ne 7, 3) := by decide +kernel
theorem dX8_peek_18 : decode cX8_peek 18 = .ok (.ldc2_w 248, 3) := by decide +kernel
theorem dX8_peek_21 : decode cX8_peek 21 = .ok (.lreturn, 1) := by decide +kernel
theorem dX8_peek_22 : decode cX8_peek 22 = .ok (.aload_n 3, 1) := by decide +kernel
theorem dX8_peek_23 : decode cX8_peek 23 = .ok (.getfield 312, 3) := by decide +kernel
theorem dX8_peek_26 : decode cX8_peek 26 = .ok (.iload_n 2, 1) := by decide +kernel
theorem dX8_peek_27 : decode cX8_peek 27 = .ok (.laload, 1) := by decide +kernel
theorem dX8_peek_28 : decode cX8_peek 28 = .ok (.lreturn, 1) := by decide +kernel
theorem dX8_shift_0 : decode cX8_shift 0 = .ok (.aload_n 0, 1) := by decide +kernel
theorem dX8_shift_1 : decode cX8_shift 1 = .ok (.iload_n 1, 1) := by decide +kernel
theorem dX8_shift_2 : decode cX8_shift 2 = .ok (.invokevirtual 301, 3) := by decide +kernel
theorem dX8_shift_5 : decode cX8_shift 5 = .ok (.astore 6, 2) := by decide +kernel
theorem dX8_shift_7 : decode cX8_shift 7 = .ok (.aload_n 0, 1) := by decide +kernel
theorem dX8_shift_8 : decode cX8_shift 8 = .ok (.iload_n 3, 1) := by decide +kernel
theorem dX8_shift_9 : decode cX8_shift 9 = .ok (.invokevirtual 301, 3) := by decide +kernel
theorem dX8_shift_12 : decode cX8_shift 12 = .ok (.astore 7, 2) := by decide +kernel
theorem dX8_shift_14 : decode cX8_shift 14 = .ok (.aload 6, 2) := by decide +kernel
theorem dX8_shift_16 : decode cX8_shift 16 = .ok (.ifnull 8, 3) := by decide +kernel
theorem dX8_shift_19 : decode cX8_shift 19 = .ok (.aload 7, 2) := by decide +kernel
theorem dX8_shift_21 : decode cX8_shift 21 = .ok (.ifnonnull 5, 3) := by decide +kernel
theorem dX8_shift_24 : decode cX8_shift 24 = .ok (.iconst (-1), 1) := by decide +kernel
theorem dX8_shift_25 : decode cX8_shift 25 = .ok (.ireturn, 1) := by decide +kernel
theorem dX8_shift_26 : decode cX8_shift 26 = .ok (.aload 6, 2) := by decide +kernel
theorem dX8_shift_28 : decode cX8_shift 28 = .ok (.getfield 305, 3) := by decide +kernel
theorem dX8_shift_31 : decode cX8_shift 31 = .ok (.iconst (-1), 1) := by decide +kernel
theorem dX8_shift_32 : decode cX8_shift 32 = .ok (.if_icmp .eq 12, 3) := by decide +kernel
theorem dX8_shift_35 : decode cX8_shift 35 = .ok (.aload 7, 2) := by decide +kernel
theorem dX8_shift_37 : decode cX8_shift 37 = .ok (.getfield 305, 3) := by decide +kernel
theorem dX8_shift_40 : decode cX8_shift 40 = .ok (.iconst (-1), 1) := by decide +kernel
theorem dX8_shift_41 : decode cX8_shift 41 = .ok (.if_icmp .ne 6, 3) := by decide +kernel
theorem dX8_shift_44 : decode cX8_shift 44 = .ok (.bipush (-11), 2) := by decide +kernel
theorem dX8_shift_46 : decode cX8_shift 46 = .ok (.ireturn, 1) := by decide +kernel
theorem dX8_shift_47 : decode cX8_shift 47 = .ok (.aload 6, 2) := by decide +kernel
theorem dX8_shift_49 : decode cX8_shift 49 = .ok (.getfield 305, 3) := by decide +kernel
theorem dX8_shift_52 : decode cX8_shift 52 = .ok (.aload 7, 2) := by decide +kernel
theorem dX8_shift_54 : decode cX8_shift 54 = .ok (.getfield 305, 3) := by decide +kernel
theorem dX8_shift_57 : decode cX8_shift 57 = .ok (.if_icmp .eq 6, 3) := by decide +kernel
theorem dX8_shift_60 : decode cX8_shift 60 = .ok (.bipush (-12), 2) := by decide +kernel
theorem dX8_shift_62 : decode cX8_shift 62 = .ok (.ireturn, 1) := by decide +kernel
theorem dX8_shift_63 : decode cX8_shift 63 = .ok (.aload 6, 2) := by decide +kernel
theorem dX8_shift_65 : decode cX8_shift 65 = .ok (.iload_n 2, 1) := by decide +kernel
theorem dX8_shift_66 : decode cX8_shift 66 = .ok (.iload 5, 2) := by decide +kernel
theorem dX8_shift_68 : decode cX8_shift 68 = .ok (.invokevirtual 334, 3) := by decide +kernel
theorem dX8_shift_71 : decode cX8_shift 71 = .ok (.ifCond .eq 15, 3) := by decide +kernel
theorem dX8_shift_74 : decode cX8_shift 74 = .ok (.aload 7, 2) := by decide +kernel
theorem dX8_shift_76 : decode cX8_shift 76 = .ok (.iload 4, 2) := by decide +kernel
theorem dX8_shift_78 : decode cX8_shift 78 = .ok (.iload 5, 2) := by decide +kernel
theorem dX8_shift_80 : decode cX8_shift 80 = .ok (.invokevirtual 334, 3) := by decide +kernel
theorem dX8_shift_83 : decode cX8_shift 83 = .ok (.ifCond .ne 6, 3) := by decide +kernel
theorem dX8_shift_86 : decode cX8_shift 86 = .ok (.bipush (-13), 2) := by decide +kernel
theorem dX8_shift_88 : decode cX8_shift 88 = .ok (.ireturn, 1) := by decide +kernel
theorem dX8_shift_89 : decode cX8_shift 89 = .ok (.aload 6, 2) := by decide +kernel
theorem dX8_shift_91 : decode cX8_shift 91 = .ok (.getfield 312, 3) := by decide +kernel
theorem dX8_shift_94 : decode cX8_shift 94 = .ok (.iload_n 2, 1) := by decide +kernel
theorem dX8_shift_95 : decode cX8_shift 95 = .ok (.aload 7, 2) := by decide +kernel
theorem dX8_shift_97 : decode cX8_shift 97 = .ok (.getfield 312, 3) := by decide +kernel
theorem dX8_shift_100 : decode cX8_shift 100 = .ok (.iload 4, 2) := by decide +kernel
theorem dX8_shift_102 : decode cX8_shift 102 = .ok (.iload 5, 2) := by decide +kernel
theorem dX8_shift_104 : decode cX8_shift 104 = .ok (.invokestatic 338, 3) := by decide +kernel
theorem dX8_shift_107 : decode cX8_shift 107 = .ok (.iload 5, 2) := by decide +kernel
theorem dX8_shift_109 : decode cX8_shift 109 = .ok (.ireturn, 1) := by decide +kernel
theorem dX8_tapeOf_0 : decode cX8_tapeOf 0 = .ok (.iload_n 1, 1) := by decide +kernel
theorem dX8_tapeOf_1 : decode cX8_tapeOf 1 = .ok (.ifCond .lt 21, 3) := by decide +kernel
theorem dX8_tapeOf_4 : decode cX8_tapeOf 4 = .ok (.iload_n 1, 1) := by decide +kernel
theorem dX8_tapeOf_5 : decode cX8_tapeOf 5 = .ok (.aload_n 0, 1) := by decide +kernel
theorem dX8_tapeOf_6 : decode cX8_tapeOf 6 = .ok (.getfield 58, 3) := by decide +kernel
theorem dX8_tapeOf_9 : decode cX8_tapeOf 9 = .ok (.arraylength, 1) := by decide +kernel
theorem dX8_tapeOf_10 : decode cX8_tapeOf 10 = .ok (.if_icmp .ge 12, 3) := by decide +kernel
theorem dX8_tapeOf_13 : decode cX8_tapeOf 13 = .ok (.aload_n 0, 1) := by decide +kernel
theorem dX8_tapeOf_14 : decode cX8_tapeOf 14 = .ok (.getfield 58, 3) := by decide +kernel
theorem dX8_tapeOf_17 : decode cX8_tapeOf 17 = .ok (.iload_n 1, 1) := by decide +kernel
theorem dX8_tapeOf_18 : decode cX8_tapeOf 18 = .ok (.aaload, 1) := by decide +kernel
theorem dX8_tapeOf_19 : decode cX8_tapeOf 19 = .ok (.goto 4, 3) := by decide +kernel
theorem dX8_tapeOf_22 : decode cX8_tapeOf 22 = .ok (.aconst_null, 1) := by decide +kernel
theorem dX8_tapeOf_23 : decode cX8_tapeOf 23 = .ok (.areturn, 1) := by decide +kernel
theorem dX8_isOdds_0 : decode cX8_isOdds 0 = .ok (.iload_n 0, 1) := by decide +kernel
theorem dX8_isOdds_1 : decode cX8_isOdds 1 = .ok (.ifCond .lt 13, 3) := by decide +kernel
theorem dX8_isOdds_4 : decode cX8_isOdds 4 = .ok (.iload_n 0, 1) := by decide +kernel
theorem dX8_isOdds_5 : decode cX8_isOdds 5 = .ok (.bipush 100, 2) := by decide +kernel
theorem dX8_isOdds_7 : decode cX8_isOdds 7 = .ok (.if_icmp .gt 7, 3) := by decide +kernel
theorem dX8_isOdds_10 : decode cX8_isOdds 10 = .ok (.iconst 1, 1) := by decide +kernel
theorem dX8_isOdds_11 : decode cX8_isOdds 11 = .ok (.goto 4, 3) := by decide +kernel
theorem dX8_isOdds_14 : decode cX8_isOdds 14 = .ok (.iconst 0, 1) := by decide +kernel
theorem dX8_isOdds_15 : decode cX8_isOdds 15 = .ok (.ireturn, 1) := by decide +kernel
theorem dX8_isKind_0 : decode cX8_isKind 0 = .ok (.iload_n 0, 1) := by decide +kernel
theorem dX8_isKind_1 : decode cX8_isKind 1 = .ok (.ifCond .lt 12, 3) := by decide +kernel
theorem dX8_isKind_4 : decode cX8_isKind 4 = .ok (.iload_n 0, 1) := by decide +kernel
theorem dX8_isKind_5 : decode cX8_isKind 5 = .ok (.iconst 2, 1) := by decide +kernel
theorem dX8_isKind_6 : decode cX8_isKind 6 = .ok (.if_icmp .gt 7, 3) := by decide +kernel
theorem dX8_isKind_9 : decode cX8_isKind 9 = .ok (.iconst 1, 1) := by decide +kernel
theorem dX8_isKind_10 : decode cX8_isKind 10 = .ok (.goto 4, 3) := by decide +kernel
theorem dX8_isKind_13 : decode cX8_isKind 13 = .ok (.iconst 0, 1) := by decide +kernel
theorem dX8_isKind_14 : decode cX8_isKind 14 = .ok (.ireturn, 1) := by decide +kernel
theorem dX8_isNeed_0 : decode cX8_isNeed 0 = .ok (.iload_n 0, 1) := by decide +kernel
theorem dX8_isNeed_1 : decode cX8_isNeed 1 = .ok (.ifCond .lt 12, 3) := by decide +kernel
theorem dX8_isNeed_4 : decode cX8_isNeed 4 = .ok (.iload_n 0, 1) := by decide +kernel
theorem dX8_isNeed_5 : decode cX8_isNeed 5 = .ok (.iconst 5, 1) := by decide +kernel
theorem dX8_isNeed_6 : decode cX8_isNeed 6 = .ok (.if_icmp .gt 7, 3) := by decide +kernel
theorem dX8_isNeed_9 : decode cX8_isNeed 9 = .ok (.iconst 1, 1) := by decide +kernel
theorem dX8_isNeed_10 : decode cX8_isNeed 10 = .ok (.goto 4, 3) := by decide +kernel
theorem dX8_isNeed_13 : decode cX8_isNeed 13 = .ok (.iconst 0, 1) := by decide +kernel
theorem dX8_isNeed_14 : decode cX8_isNeed 14 = .ok (.ireturn, 1) := by decide +kernel
theorem dX8_isLine_0 : decode cX8_isLine 0 = .ok (.iload_n 0, 1) := by decide +kernel
theorem dX8_isLine_1 : decode cX8_isLine 1 = .ok (.ifCond .eq 8, 3) := by decide +kernel
theorem dX8_isLine_4 : decode cX8_isLine 4 = .ok (.iload_n 0, 1) := by decide +kernel
theorem dX8_isLine_5 : decode cX8_isLine 5 = .ok (.iconst 1, 1) := by decide +kernel
theorem dX8_isLine_6 : decode cX8_isLine 6 = .ok (.if_icmp .ne 7, 3) := by decide +kernel
theorem dX8_isLine_9 : decode cX8_isLine 9 = .ok (.iconst 1, 1) := by decide +kernel
theorem dX8_isLine_10 : decode cX8_isLine 10 = .ok (.goto 4, 3) := by decide +kernel
theorem dX8_isLine_13 : decode cX8_isLine 13 = .ok (.iconst 0, 1) := by decide +kernel
theorem dX8_isLine_14 : decode cX8_isLine 14 = .ok (.ireturn, 1) := by decide +kernel
theorem dX8_says_0 : decode cX8_says 0 = .ok (.lload_n 0, 1) := by decide +kernel
theorem dX8_says_1 : decode cX8_says 1 = .ok (.iload_n 2, 1) := by decide +kernel
theorem dX8_says_2 : decode cX8_says 2 = .ok (.lushr, 1) := by decide +kernel
theorem dX8_says_3 : decode cX8_says 3 = .ok (.lconst 1, 1) := by decide +kernel
theorem dX8_says_4 : decode cX8_says 4 = .ok (.land, 1) := by decide +kernel
theorem dX8_says_5 : decode cX8_says 5 = .ok (.lconst 0, 1) := by decide +kernel
theorem dX8_says_6 : decode cX8_says 6 = .ok (.lcmp, 1) := by decide +kernel
theorem dX8_says_7 : decode cX8_says 7 = .ok (.ifCond .eq 7, 3) := by decide +kernel
theorem dX8_says_10 : decode cX8_says 10 = .ok (.iconst 1, 1) := by decide +kernel
theorem dX8_says_11 : decode cX8_says 11 = .ok (.goto 4, 3) := by decide +kernel
theorem dX8_says_14 : decode cX8_says 14 = .ok (.iconst 0, 1) := by decide +kernel
theorem dX8_says_15 : decode cX8_says 15 = .ok (.ireturn, 1) := by decide +kernel
theorem dX8_lowest_0 : decode cX8_lowest 0 = .ok (.lload_n 0, 1) := by decide +kernel
theorem dX8_lowest_1 : decode cX8_lowest 1 = .ok (.lload_n 2, 1) := by decide +kernel
theorem dX8_lowest_2 : decode cX8_lowest 2 = .ok (.invokestatic 344, 3) := by decide +kernel
theorem dX8_lowest_5 : decode cX8_lowest 5 = .ok (.lstore 5, 2) := by decide +kernel
theorem dX8_lowest_7 : decode cX8_lowest 7 = .ok (.iload 4, 2) := by decide +kernel
theorem dX8_lowest_9 : decode cX8_lowest 9 = .ok (.ifCond .ne 7, 3) := by decide +kernel
theorem dX8_lowest_12 : decode cX8_lowest 12 = .ok (.lload_n 0, 1) := by decide +kernel
theorem dX8_lowest_13 : decode cX8_lowest 13 = .ok (.goto 4, 3) := by decide +kernel
theorem dX8_lowest_16 : decode cX8_lowest 16 = .ok (.lload_n 2, 1) := by decide +kernel
theorem dX8_lowest_17 : decode cX8_lowest 17 = .ok (.lstore 7, 2) := by decide +kernel
theorem dX8_lowest_19 : decode cX8_lowest 19 = .ok (.lload 5, 2) := by decide +kernel
theorem dX8_lowest_21 : decode cX8_lowest 21 = .ok (.lconst 0, 1) := by decide +kernel
theorem dX8_lowest_22 : decode cX8_lowest 22 = .ok (.lcmp, 1) := by decide +kernel
theorem dX8_lowest_23 : decode cX8_lowest 23 = .ok (.ifCond .le 11, 3) := by decide +kernel
theorem dX8_lowest_26 : decode cX8_lowest 26 = .ok (.lload 7, 2) := by decide +kernel
theorem dX8_lowest_28 : decode cX8_lowest 28 = .ok (.lload 5, 2) := by decide +kernel
theorem dX8_lowest_30 : decode cX8_lowest 30 = .ok (.ldiv, 1) := by decide +kernel
theorem dX8_lowest_31 : decode cX8_lowest 31 = .ok (.goto 5, 3) := by decide +kernel
theorem dX8_lowest_34 : decode cX8_lowest 34 = .ok (.lload 7, 2) := by decide +kernel
theorem dX8_lowest_36 : decode cX8_lowest 36 = .ok (.lreturn, 1) := by decide +kernel
theorem dX8_commonDivisor_0 : decode cX8_commonDivisor 0 = .ok (.lload_n 2, 1) := by decide +kernel
theorem dX8_commonDivisor_1 : decode cX8_commonDivisor 1 = .ok (.lstore 4, 2) := by decide +kernel
theorem dX8_commonDivisor_3 : decode cX8_commonDivisor 3 = .ok (.lload_n 0, 1) := by decide +kernel
theorem dX8_commonDivisor_4 : decode cX8_commonDivisor 4 = .ok (.lstore 6, 2) := by decide +kernel
theorem dX8_commonDivisor_6 : decode cX8_commonDivisor 6 = .ok (.iconst 0, 1) := by decide +kernel
theorem dX8_commonDivisor_7 : decode cX8_commonDivisor 7 = .ok (.istore 8, 2) := by decide +kernel
theorem dX8_commonDivisor_9 : decode cX8_commonDivisor 9 = .ok (.iload 8, 2) := by decide +kernel
theorem dX8_commonDivisor_11 : decode cX8_commonDivisor 11 = .ok (.sipush 200, 3) := by decide +kernel
theorem dX8_commonDivisor_14 : decode cX8_commonDivisor 14 = .ok (.if_icmp .ge 31, 3) := by decide +kernel
theorem dX8_commonDivisor_17 : decode cX8_commonDivisor 17 = .ok (.lload 6, 2) := by decide +kernel
theorem dX8_commonDivisor_19 : decode cX8_commonDivisor 19 = .ok (.lconst 0, 1) := by decide +kernel
theorem dX8_commonDivisor_20 : decode cX8_commonDivisor 20 = .ok (.lcmp, 1) := by decide +kernel
theorem dX8_commonDivisor_21 : decode cX8_commonDivisor 21 = .ok (.ifCond .eq 24, 3) := by decide +kernel
theorem dX8_commonDivisor_24 : decode cX8_commonDivisor 24 = .ok (.lload 4, 2) := by decide +kernel
theorem dX8_commonDivisor_26 : decode cX8_commonDivisor 26 = .ok (.lload 6, 2) := by decide +kernel
theorem dX8_commonDivisor_28 : decode cX8_commonDivisor 28 = .ok (.lrem, 1) := by decide +kernel
theorem dX8_commonDivisor_29 : decode cX8_commonDivisor 29 = .ok (.lstore 9, 2) := by decide +kernel
theorem dX8_commonDivisor_31 : decode cX8_commonDivisor 31 = .ok (.lload 6, 2) := by decide +kernel
theorem dX8_commonDivisor_33 : decode cX8_commonDivisor 33 = .ok (.lstore 4, 2) := by decide +kernel
theorem dX8_commonDivisor_35 : decode cX8_commonDivisor 35 = .ok (.lload 9, 2) := by decide +kernel
theorem dX8_commonDivisor_37 : decode cX8_commonDivisor 37 = .ok (.lstore 6, 2) := by decide +kernel
theorem dX8_commonDivisor_39 : decode cX8_commonDivisor 39 = .ok (.iinc 8 1, 3) := by decide +kernel
theorem dX8_commonDivisor_42 : decode cX8_commonDivisor 42 = .ok (.goto (-33), 3) := by decide +kernel
theorem dX8_commonDivisor_45 : decode cX8_commonDivisor 45 = .ok (.lload 4, 2) := by decide +kernel
theorem dX8_commonDivisor_47 : decode cX8_commonDivisor 47 = .ok (.lreturn, 1) := by decide +kernel
theorem dJ6_bitCount_0f7a4_0 : decode cJ6_bitCount_0f7a4 0 = .ok (.iload_n 0, 1) := by decide +kernel
theorem dJ6_bitCount_0f7a4_1 : decode cJ6_bitCount_0f7a4 1 = .ok (.iload_n 0, 1) := by decide +kernel
theorem dJ6_bitCount_0f7a4_2 : decode cJ6_bitCount_0f7a4 2 = .ok (.iconst 1, 1) := by decide +kernel
theorem dJ6_bitCount_0f7a4_3 : decode cJ6_bitCount_0f7a4 3 = .ok (.iushr, 1) := by decide +kernel
theorem dJ6_bitCount_0f7a4_4 : decode cJ6_bitCount_0f7a4 4 = .ok (.ldc_w 265, 3) := by decide +kernel
theorem dJ6_bitCount_0f7a4_7 : decode cJ6_bitCount_0f7a4 7 = .ok (.iand, 1) := by decide +kernel
theorem dJ6_bitCount_0f7a4_8 : decode cJ6_bitCount_0f7a4 8 = .ok (.isub, 1) := by decide +kernel
theorem dJ6_bitCount_0f7a4_9 : decode cJ6_bitCount_0f7a4 9 = .ok (.istore_n 0, 1) := by decide +kernel
theorem dJ6_bitCount_0f7a4_10 : decode cJ6_bitCount_0f7a4 10 = .ok (.iload_n 0, 1) := by decide +kernel
theorem dJ6_bitCount_0f7a4_11 : decode cJ6_bitCount_0f7a4 11 = .ok (.ldc_w 266, 3) := by decide +kernel
theorem dJ6_bitCount_0f7a4_14 : decode cJ6_bitCount_0f7a4 14 = .ok (.iand, 1) := by decide +kernel
theorem dJ6_bitCount_0f7a4_15 : decode cJ6_bitCount_0f7a4 15 = .ok (.iload_n 0, 1) := by decide +kernel
theorem dJ6_bitCount_0f7a4_16 : decode cJ6_bitCount_0f7a4 16 = .ok (.iconst 2, 1) := by decide +kernel
theorem dJ6_bitCount_0f7a4_17 : decode cJ6_bitCount_0f7a4 17 = .ok (.iushr, 1) := by decide +kernel
theorem dJ6_bitCount_0f7a4_18 : decode cJ6_bitCount_0f7a4 18 = .ok (.ldc_w 266, 3) := by decide +kernel
theorem dJ6_bitCount_0f7a4_21 : decode cJ6_bitCount_0f7a4 21 = .ok (.iand, 1) := by decide +kernel
theorem dJ6_bitCount_0f7a4_22 : decode cJ6_bitCount_0f7a4 22 = .ok (.iadd, 1) := by decide +kernel
theorem dJ6_bitCount_0f7a4_23 : decode cJ6_bitCount_0f7a4 23 = .ok (.istore_n 0, 1) := by decide +kernel
theorem dJ6_bitCount_0f7a4_24 : decode cJ6_bitCount_0f7a4 24 = .ok (.iload_n 0, 1) := by decide +kernel
theorem dJ6_bitCount_0f7a4_25 : decode cJ6_bitCount_0f7a4 25 = .ok (.iload_n 0, 1) := by decide +kernel
theorem dJ6_bitCount_0f7a4_26 : decode cJ6_bitCount_0f7a4 26 = .ok (.iconst 4, 1) := by decide +kernel
theorem dJ6_bitCount_0f7a4_27 : decode cJ6_bitCount_0f7a4 27 = .ok (.iushr, 1) := by decide +kernel
theorem dJ6_bitCount_0f7a4_28 : decode cJ6_bitCount_0f7a4 28 = .ok (.iadd, 1) := by decide +kernel
theorem dJ6_bitCount_0f7a4_29 : decode cJ6_bitCount_0f7a4 29 = .ok (.ldc_w 267, 3) := by decide +kernel
theorem dJ6_bitCount_0f7a4_32 : decode cJ6_bitCount_0f7a4 32 = .ok (.iand, 1) := by decide +kernel
theorem dJ6_bitCount_0f7a4_33 : decode cJ6_bitCount_0f7a4 33 = .ok (.istore_n 0, 1) := by decide +kernel
theorem dJ6_bitCount_0f7a4_34 : decode cJ6_bitCount_0f7a4 34 = .ok (.iload_n 0, 1) := by decide +kernel
theorem dJ6_bitCount_0f7a4_35 : decode cJ6_bitCount_0f7a4 35 = .ok (.iload_n 0, 1) := by decide +kernel
theorem dJ6_bitCount_0f7a4_36 : decode cJ6_bitCount_0f7a4 36 = .ok (.bipush 8, 2) := by decide +kernel
theorem dJ6_bitCount_0f7a4_38 : decode cJ6_bitCount_0f7a4 38 = .ok (.iushr, 1) := by decide +kernel
theorem dJ6_bitCount_0f7a4_39 : decode cJ6_bitCount_0f7a4 39 = .ok (.iadd, 1) := by decide +kernel
theorem dJ6_bitCount_0f7a4_40 : decode cJ6_bitCount_0f7a4 40 = .ok (.istore_n 0, 1) := by decide +kernel
theorem dJ6_bitCount_0f7a4_41 : decode cJ6_bitCount_0f7a4 41 = .ok (.iload_n 0, 1) := by decide +kernel
theorem dJ6_bitCount_0f7a4_42 : decode cJ6_bitCount_0f7a4 42 = .ok (.iload_n 0, 1) := by decide +kernel
theorem dJ6_bitCount_0f7a4_43 : decode cJ6_bitCount_0f7a4 43 = .ok (.bipush 16, 2) := by decide +kernel
theorem dJ6_bitCount_0f7a4_45 : decode cJ6_bitCount_0f7a4 45 = .ok (.iushr, 1) := by decide +kernel
theorem dJ6_bitCount_0f7a4_46 : decode cJ6_bitCount_0f7a4 46 = .ok (.iadd, 1) := by decide +kernel
theorem dJ6_bitCount_0f7a4_47 : decode cJ6_bitCount_0f7a4 47 = .ok (.istore_n 0, 1) := by decide +kernel
theorem dJ6_bitCount_0f7a4_48 : decode cJ6_bitCount_0f7a4 48 = .ok (.iload_n 0, 1) := by decide +kernel
theorem dJ6_bitCount_0f7a4_49 : decode cJ6_bitCount_0f7a4 49 = .ok (.bipush 63, 2) := by decide +kernel
theorem dJ6_bitCount_0f7a4_51 : decode cJ6_bitCount_0f7a4 51 = .ok (.iand, 1) := by decide +kernel
theorem dJ6_bitCount_0f7a4_52 : decode cJ6_bitCount_0f7a4 52 = .ok (.ireturn, 1) := by decide +kernel
theorem dJ9_max_7cf53_0 : decode cJ9_max_7cf53 0 = .ok (.iload_n 0, 1) := by decide +kernel
theorem dJ9_max_7cf53_1 : decode cJ9_max_7cf53 1 = .ok (.iload_n 1, 1) := by decide +kernel
theorem dJ9_max_7cf53_2 : decode cJ9_max_7cf53 2 = .ok (.if_icmp .lt 7, 3) := by decide +kernel
theorem dJ9_max_7cf53_5 : decode cJ9_max_7cf53 5 = .ok (.iload_n 0, 1) := by decide +kernel
theorem dJ9_max_7cf53_6 : decode cJ9_max_7cf53 6 = .ok (.goto 4, 3) := by decide +kernel
theorem dJ9_max_7cf53_9 : decode cJ9_max_7cf53 9 = .ok (.iload_n 1, 1) := by decide +kernel
theorem dJ9_max_7cf53_10 : decode cJ9_max_7cf53 10 = .ok (.ireturn, 1) := by decide +kernel
theorem dJ9_min_7cf53_0 : decode cJ9_min_7cf53 0 = .ok (.iload_n 0, 1) := by decide +kernel
theorem dJ9_min_7cf53_1 : decode cJ9_min_7cf53 1 = .ok (.iload_n 1, 1) := by decide +kernel
theorem dJ9_min_7cf53_2 : decode cJ9_min_7cf53 2 = .ok (.if_icmp .gt 7, 3) := by decide +kernel
theorem dJ9_min_7cf53_5 : decode cJ9_min_7cf53 5 = .ok (.iload_n 0, 1) := by decide +kernel
theorem dJ9_min_7cf53_6 : decode cJ9_min_7cf53 6 = .ok (.goto 4, 3) := by decide +kernel
theorem dJ9_min_7cf53_9 : decode cJ9_min_7cf53 9 = .ok (.iload_n 1, 1) := by decide +kernel
theorem dJ9_min_7cf53_10 : decode cJ9_min_7cf53 10 = .ok (.ireturn, 1) := by decide +kernel
