theorem dX5_order_17 : decode cX5_order 17 = .ok (.invokevirtual 166, 3) := by decide +kernel
theorem dX5_order_20 : decode cX5_order 20 = .ok (.ifCond .ne 6, 3) := by decide +kernel
theorem dX5_order_23 : decode cX5_order 23 = .ok (.bipush (-3), 2) := by decide +kernel
theorem dX5_order_25 : decode cX5_order 25 = .ok (.ireturn, 1) := by decide +kernel
theorem dX5_order_26 : decode cX5_order 26 = .ok (.aload_n 0, 1) := by decide +kernel
theorem dX5_order_27 : decode cX5_order 27 = .ok (.getfield 42, 3) := by decide +kernel
theorem dX5_order_30 : decode cX5_order 30 = .ok (.aload_n 0, 1) := by decide +kernel
theorem dX5_order_31 : decode cX5_order 31 = .ok (.getfield 21, 3) := by decide +kernel
theorem dX5_order_34 : decode cX5_order 34 = .ok (.invokevirtual 170, 3) := by decide +kernel
theorem dX5_order_37 : decode cX5_order 37 = .ok (.iload_n 1, 1) := by decide +kernel
theorem dX5_order_38 : decode cX5_order 38 = .ok (.ifCond .ge 13, 3) := by decide +kernel
theorem dX5_order_41 : decode cX5_order 41 = .ok (.aload_n 0, 1) := by decide +kernel
theorem dX5_order_42 : decode cX5_order 42 = .ok (.getfield 42, 3) := by decide +kernel
theorem dX5_order_45 : decode cX5_order 45 = .ok (.invokevirtual 174, 3) := by decide +kernel
theorem dX5_order_48 : decode cX5_order 48 = .ok (.goto 15, 3) := by decide +kernel
theorem dX5_order_51 : decode cX5_order 51 = .ok (.aload_n 0, 1) := by decide +kernel
theorem dX5_order_52 : decode cX5_order 52 = .ok (.getfield 42, 3) := by decide +kernel
theorem dX5_order_55 : decode cX5_order 55 = .ok (.aload_n 0, 1) := by decide +kernel
theorem dX5_order_56 : decode cX5_order 56 = .ok (.getfield 21, 3) := by decide +kernel
theorem dX5_order_59 : decode cX5_order 59 = .ok (.iload_n 1, 1) := by decide +kernel
theorem dX5_order_60 : decode cX5_order 60 = .ok (.invokevirtual 177, 3) := by decide +kernel
theorem dX5_order_63 : decode cX5_order 63 = .ok (.ireturn, 1) := by decide +kernel
theorem dX5_tree_0 : decode cX5_tree 0 = .ok (.iload_n 1, 1) := by decide +kernel
theorem dX5_tree_1 : decode cX5_tree 1 = .ok (.ifCond .lt 8, 3) := by decide +kernel
theorem dX5_tree_4 : decode cX5_tree 4 = .ok (.iload_n 1, 1) := by decide +kernel
theorem dX5_tree_5 : decode cX5_tree 5 = .ok (.iconst 1, 1) := by decide +kernel
theorem dX5_tree_6 : decode cX5_tree 6 = .ok (.if_icmp .le 6, 3) := by decide +kernel
theorem dX5_tree_9 : decode cX5_tree 9 = .ok (.bipush (-2), 2) := by decide +kernel
theorem dX5_tree_11 : decode cX5_tree 11 = .ok (.ireturn, 1) := by decide +kernel
theorem dX5_tree_12 : decode cX5_tree 12 = .ok (.aload_n 0, 1) := by decide +kernel
theorem dX5_tree_13 : decode cX5_tree 13 = .ok (.getfield 21, 3) := by decide +kernel
theorem dX5_tree_16 : decode cX5_tree 16 = .ok (.invokevirtual 166, 3) := by decide +kernel
theorem dX5_tree_19 : decode cX5_tree 19 = .ok (.ifCond .ne 6, 3) := by decide +kernel
theorem dX5_tree_22 : decode cX5_tree 22 = .ok (.bipush (-3), 2) := by decide +kernel
theorem dX5_tree_24 : decode cX5_tree 24 = .ok (.ireturn, 1) := by decide +kernel
theorem dX5_tree_25 : decode cX5_tree 25 = .ok (.aload_n 0, 1) := by decide +kernel
theorem dX5_tree_26 : decode cX5_tree 26 = .ok (.getfield 42, 3) := by decide +kernel
theorem dX5_tree_29 : decode cX5_tree 29 = .ok (.aload_n 0, 1) := by decide +kernel
theorem dX5_tree_30 : decode cX5_tree 30 = .ok (.getfield 21, 3) := by decide +kernel
theorem dX5_tree_33 : decode cX5_tree 33 = .ok (.invokevirtual 181, 3) := by decide +kernel
theorem dX5_tree_36 : decode cX5_tree 36 = .ok (.iload_n 1, 1) := by decide +kernel
theorem dX5_tree_37 : decode cX5_tree 37 = .ok (.ifCond .ne 17, 3) := by decide +kernel
theorem dX5_tree_40 : decode cX5_tree 40 = .ok (.aload_n 0, 1) := by decide +kernel
theorem dX5_tree_41 : decode cX5_tree 41 = .ok (.getfield 42, 3) := by decide +kernel
theorem dX5_tree_44 : decode cX5_tree 44 = .ok (.aload_n 0, 1) := by decide +kernel
theorem dX5_tree_45 : decode cX5_tree 45 = .ok (.getfield 21, 3) := by decide +kernel
theorem dX5_tree_48 : decode cX5_tree 48 = .ok (.invokevirtual 184, 3) := by decide +kernel
theorem dX5_tree_51 : decode cX5_tree 51 = .ok (.goto 14, 3) := by decide +kernel
theorem dX5_tree_54 : decode cX5_tree 54 = .ok (.aload_n 0, 1) := by decide +kernel
theorem dX5_tree_55 : decode cX5_tree 55 = .ok (.getfield 42, 3) := by decide +kernel
theorem dX5_tree_58 : decode cX5_tree 58 = .ok (.aload_n 0, 1) := by decide +kernel
theorem dX5_tree_59 : decode cX5_tree 59 = .ok (.getfield 21, 3) := by decide +kernel
theorem dX5_tree_62 : decode cX5_tree 62 = .ok (.invokevirtual 188, 3) := by decide +kernel
theorem dX5_tree_65 : decode cX5_tree 65 = .ok (.ireturn, 1) := by decide +kernel
theorem dX5_odds_0 : decode cX5_odds 0 = .ok (.aload_n 0, 1) := by decide +kernel
theorem dX5_odds_1 : decode cX5_odds 1 = .ok (.getfield 21, 3) := by decide +kernel
theorem dX5_odds_4 : decode cX5_odds 4 = .ok (.iload_n 1, 1) := by decide +kernel
theorem dX5_odds_5 : decode cX5_odds 5 = .ok (.invokevirtual 90, 3) := by decide +kernel
theorem dX5_odds_8 : decode cX5_odds 8 = .ok (.ifCond .eq 22, 3) := by decide +kernel
theorem dX5_odds_11 : decode cX5_odds 11 = .ok (.iload_n 2, 1) := by decide +kernel
theorem dX5_odds_12 : decode cX5_odds 12 = .ok (.ifCond .lt 18, 3) := by decide +kernel
theorem dX5_odds_15 : decode cX5_odds 15 = .ok (.iload_n 2, 1) := by decide +kernel
theorem dX5_odds_16 : decode cX5_odds 16 = .ok (.bipush 99, 2) := by decide +kernel
theorem dX5_odds_18 : decode cX5_odds 18 = .ok (.if_icmp .gt 12, 3) := by decide +kernel
theorem dX5_odds_21 : decode cX5_odds 21 = .ok (.iload_n 3, 1) := by decide +kernel
theorem dX5_odds_22 : decode cX5_odds 22 = .ok (.ifCond .lt 8, 3) := by decide +kernel
theorem dX5_odds_25 : decode cX5_odds 25 = .ok (.iload_n 3, 1) := by decide +kernel
theorem dX5_odds_26 : decode cX5_odds 26 = .ok (.iconst 1, 1) := by decide +kernel
theorem dX5_odds_27 : decode cX5_odds 27 = .ok (.if_icmp .le 7, 3) := by decide +kernel
theorem dX5_odds_30 : decode cX5_odds 30 = .ok (.ldc2_w 191, 3) := by decide +kernel
theorem dX5_odds_33 : decode cX5_odds 33 = .ok (.lreturn, 1) := by decide +kernel
theorem dX5_odds_34 : decode cX5_odds 34 = .ok (.aload_n 0, 1) := by decide +kernel
theorem dX5_odds_35 : decode cX5_odds 35 = .ok (.getfield 21, 3) := by decide +kernel
theorem dX5_odds_38 : decode cX5_odds 38 = .ok (.iload_n 1, 1) := by decide +kernel
theorem dX5_odds_39 : decode cX5_odds 39 = .ok (.invokevirtual 193, 3) := by decide +kernel
theorem dX5_odds_42 : decode cX5_odds 42 = .ok (.istore 4, 2) := by decide +kernel
theorem dX5_odds_44 : decode cX5_odds 44 = .ok (.iload 4, 2) := by decide +kernel
theorem dX5_odds_46 : decode cX5_odds 46 = .ok (.iload_n 2, 1) := by decide +kernel
theorem dX5_odds_47 : decode cX5_odds 47 = .ok (.invokestatic 196, 3) := by decide +kernel
theorem dX5_odds_50 : decode cX5_odds 50 = .ok (.lstore 5, 2) := by decide +kernel
theorem dX5_odds_52 : decode cX5_odds 52 = .ok (.lconst 1, 1) := by decide +kernel
theorem dX5_odds_53 : decode cX5_odds 53 = .ok (.iload 4, 2) := by decide +kernel
theorem dX5_odds_55 : decode cX5_odds 55 = .ok (.lshl, 1) := by decide +kernel
theorem dX5_odds_56 : decode cX5_odds 56 = .ok (.lstore 7, 2) := by decide +kernel
theorem dX5_odds_58 : decode cX5_odds 58 = .ok (.iconst 0, 1) := by decide +kernel
theorem dX5_odds_59 : decode cX5_odds 59 = .ok (.istore 9, 2) := by decide +kernel
theorem dX5_odds_61 : decode cX5_odds 61 = .ok (.iload 9, 2) := by decide +kernel
theorem dX5_odds_63 : decode cX5_odds 63 = .ok (.iload 4, 2) := by decide +kernel
theorem dX5_odds_65 : decode cX5_odds 65 = .ok (.if_icmp .ge 30, 3) := by decide +kernel
theorem dX5_odds_68 : decode cX5_odds 68 = .ok (.lload 5, 2) := by decide +kernel
theorem dX5_odds_70 : decode cX5_odds 70 = .ok (.lconst 1, 1) := by decide +kernel
theorem dX5_odds_71 : decode cX5_odds 71 = .ok (.land, 1) := by decide +kernel
theorem dX5_odds_72 : decode cX5_odds 72 = .ok (.lconst 0, 1) := by decide +kernel
theorem dX5_odds_73 : decode cX5_odds 73 = .ok (.lcmp, 1) := by decide +kernel
theorem dX5_odds_74 : decode cX5_odds 74 = .ok (.ifCond .ne 21, 3) := by decide +kernel
theorem dX5_odds_77 : decode cX5_odds 77 = .ok (.lload 5, 2) := by decide +kernel
theorem dX5_odds_79 : decode cX5_odds 79 = .ok (.iconst 1, 1) := by decide +kernel
theorem dX5_odds_80 : decode cX5_odds 80 = .ok (.lshr, 1) := by decide +kernel
theorem dX5_odds_81 : decode cX5_odds 81 = .ok (.lstore 5, 2) := by decide +kernel
theorem dX5_odds_83 : decode cX5_odds 83 = .ok (.lload 7, 2) := by decide +kernel
theorem dX5_odds_85 : decode cX5_odds 85 = .ok (.iconst 1, 1) := by decide +kernel
theorem dX5_odds_86 : decode cX5_odds 86 = .ok (.lshr, 1) := by decide +kernel
theorem dX5_odds_87 : decode cX5_odds 87 = .ok (.lstore 7, 2) := by decide +kernel
theorem dX5_odds_89 : decode cX5_odds 89 = .ok (.iinc 9 1, 3) := by decide +kernel
theorem dX5_odds_92 : decode cX5_odds 92 = .ok (.goto (-31), 3) := by decide +kernel
theorem dX5_odds_95 : decode cX5_odds 95 = .ok (.iload_n 3, 1) := by decide +kernel
theorem dX5_odds_96 : decode cX5_odds 96 = .ok (.ifCond .ne 8, 3) := by decide +kernel
theorem dX5_odds_99 : decode cX5_odds 99 = .ok (.lload 5, 2) := by decide +kernel
theorem dX5_odds_101 : decode cX5_odds 101 = .ok (.goto 5, 3) := by decide +kernel
theorem dX5_odds_104 : decode cX5_odds 104 = .ok (.lload 7, 2) := by decide +kernel
theorem dX5_odds_106 : decode cX5_odds 106 = .ok (.lreturn, 1) := by decide +kernel
theorem dX5_reading_0 : decode cX5_reading 0 = .ok (.aload_n 0, 1) := by decide +kernel
theorem dX5_reading_1 : decode cX5_reading 1 = .ok (.getfield 21, 3) := by decide +kernel
theorem dX5_reading_4 : decode cX5_reading 4 = .ok (.invokevirtual 166, 3) := by decide +kernel
theorem dX5_reading_7 : decode cX5_reading 7 = .ok (.ifCond .ne 6, 3) := by decide +kernel
theorem dX5_reading_10 : decode cX5_reading 10 = .ok (.bipush (-3), 2) := by decide +kernel
theorem dX5_reading_12 : decode cX5_reading 12 = .ok (.ireturn, 1) := by decide +kernel
theorem dX5_reading_13 : decode cX5_reading 13 = .ok (.aload_n 0, 1) := by decide +kernel
theorem dX5_reading_14 : decode cX5_reading 14 = .ok (.getfield 21, 3) := by decide +kernel
theorem dX5_reading_17 : decode cX5_reading 17 = .ok (.iload_n 1, 1) := by decide +kernel
theorem dX5_reading_18 : decode cX5_reading 18 = .ok (.invokevirtual 160, 3) := by decide +kernel
theorem dX5_reading_21 : decode cX5_reading 21 = .ok (.ifCond .eq 14, 3) := by decide +kernel
theorem dX5_reading_24 : decode cX5_reading 24 = .ok (.iload_n 2, 1) := by decide +kernel
theorem dX5_reading_25 : decode cX5_reading 25 = .ok (.ifCond .lt 10, 3) := by decide +kernel
theorem dX5_reading_28 : decode cX5_reading 28 = .ok (.iload_n 2, 1) := by decide +kernel
theorem dX5_reading_29 : decode cX5_reading 29 = .ok (.sipush 9999, 3) := by decide +kernel
theorem dX5_reading_32 : decode cX5_reading 32 = .ok (.if_icmp .le 6, 3) := by decide +kernel
theorem dX5_reading_35 : decode cX5_reading 35 = .ok (.bipush (-2), 2) := by decide +kernel
theorem dX5_reading_37 : decode cX5_reading 37 = .ok (.ireturn, 1) := by decide +kernel
theorem dX5_reading_38 : decode cX5_reading 38 = .ok (.aload_n 0, 1) := by decide +kernel
theorem dX5_reading_39 : decode cX5_reading 39 = .ok (.getfield 21, 3) := by decide +kernel
theorem dX5_reading_42 : decode cX5_reading 42 = .ok (.getfield 200, 3) := by decide +kernel
theorem dX5_reading_45 : decode cX5_reading 45 = .ok (.bipush 8, 2) := by decide +kernel
theorem dX5_reading_47 : decode cX5_reading 47 = .ok (.if_icmp .ge 15, 3) := by decide +kernel
theorem dX5_reading_50 : decode cX5_reading 50 = .ok (.aload_n 0, 1) := by decide +kernel
theorem dX5_reading_51 : decode cX5_reading 51 = .ok (.getfield 21, 3) := by decide +kernel
theorem dX5_reading_54 : decode cX5_reading 54 = .ok (.iload_n 1, 1) := by decide +kernel
theorem dX5_reading_55 : decode cX5_reading 55 = .ok (.iload_n 2, 1) := by decide +kernel
theorem dX5_reading_56 : decode cX5_reading 56 = .ok (.invokevirtual 203, 3) := by decide +kernel
theorem dX5_reading_59 : decode cX5_reading 59 = .ok (.goto 5, 3) := by decide +kernel
theorem dX5_reading_62 : decode cX5_reading 62 = .ok (.bipush (-4), 2) := by decide +kernel
theorem dX5_reading_64 : decode cX5_reading 64 = .ok (.ireturn, 1) := by decide +kernel
theorem dX5_back_0 : decode cX5_back 0 = .ok (.iload_n 1, 1) := by decide +kernel
theorem dX5_back_1 : decode cX5_back 1 = .ok (.ifCond .lt 14, 3) := by decide +kernel
theorem dX5_back_4 : decode cX5_back 4 = .ok (.iload_n 1, 1) := by decide +kernel
theorem dX5_back_5 : decode cX5_back 5 = .ok (.aload_n 0, 1) := by decide +kernel
theorem dX5_back_6 : decode cX5_back 6 = .ok (.getfield 21, 3) := by decide +kernel
theorem dX5_back_9 : decode cX5_back 9 = .ok (.getfield 200, 3) := by decide +kernel
theorem dX5_back_12 : decode cX5_back 12 = .ok (.if_icmp .le 6, 3) := by decide +kernel
theorem dX5_back_15 : decode cX5_back 15 = .ok (.bipush (-2), 2) := by decide +kernel
theorem dX5_back_17 : decode cX5_back 17 = .ok (.ireturn, 1) := by decide +kernel
theorem dX5_back_18 : decode cX5_back 18 = .ok (.aload_n 0, 1) := by decide +kernel
theorem dX5_back_19 : decode cX5_back 19 = .ok (.getfield 21, 3) := by decide +kernel
theorem dX5_back_22 : decode cX5_back 22 = .ok (.dup, 1) := by decide +kernel
theorem dX5_back_23 : decode cX5_back 23 = .ok (.getfield 200, 3) := by decide +kernel
theorem dX5_back_26 : decode cX5_back 26 = .ok (.iload_n 1, 1) := by decide +kernel
theorem dX5_back_27 : decode cX5_back 27 = .ok (.isub, 1) := by decide +kernel
theorem dX5_back_28 : decode cX5_back 28 = .ok (.putfield 200, 3) := by decide +kernel
theorem dX5_back_31 : decode cX5_back 31 = .ok (.aload_n 0, 1) := by decide +kernel
theorem dX5_back_32 : decode cX5_back 32 = .ok (.getfield 21, 3) := by decide +kernel
theorem dX5_back_35 : decode cX5_back 35 = .ok (.getfield 200, 3) := by decide +kernel
theorem dX5_back_38 : decode cX5_back 38 = .ok (.ireturn, 1) := by decide +kernel
theorem dX5_counts_0 : decode cX5_counts 0 = .ok (.aload_n 0, 1) := by decide +kernel
theorem dX5_counts_1 : decode cX5_counts 1 = .ok (.getfield 21, 3) := by decide +kernel
theorem dX5_counts_4 : decode cX5_counts 4 = .ok (.iload_n 1, 1) := by decide +kernel
theorem dX5_counts_5 : decode cX5_counts 5 = .ok (.invokevirtual 90, 3) := by decide +kernel
theorem dX5_counts_8 : decode cX5_counts 8 = .ok (.ifCond .ne 5, 3) := by decide +kernel
theorem dX5_counts_11 : decode cX5_counts 11 = .ok (.iconst (-1), 1) := by decide +kernel
theorem dX5_counts_12 : decode cX5_counts 12 = .ok (.ireturn, 1) := by decide +kernel
theorem dX5_counts_13 : decode cX5_counts 13 = .ok (.iconst 0, 1) := by decide +kernel
theorem dX5_counts_14 : decode cX5_counts 14 = .ok (.istore_n 2, 1) := by decide +kernel
theorem dX5_counts_15 : decode cX5_counts 15 = .ok (.iconst 0, 1) := by decide +kernel
theorem dX5_counts_16 : decode cX5_counts 16 = .ok (.istore_n 3, 1) := by decide +kernel
theorem dX5_counts_17 : decode cX5_counts 17 = .ok (.iload_n 3, 1) := by decide +kernel
theorem dX5_counts_18 : decode cX5_counts 18 = .ok (.bipush 9, 2) := by decide +kernel
theorem dX5_counts_20 : decode cX5_counts 20 = .ok (.if_icmp .gt 49, 3) := by decide +kernel
theorem dX5_counts_23 : decode cX5_counts 23 = .ok (.aload_n 0, 1) := by decide +kernel
theorem dX5_counts_24 : decode cX5_counts 24 = .ok (.getfield 21, 3) := by decide +kernel
theorem dX5_counts_27 : decode cX5_counts 27 = .ok (.iload_n 1, 1) := by decide +kernel
theorem dX5_counts_28 : decode cX5_counts 28 = .ok (.iload_n 3, 1) := by decide +kernel
theorem dX5_counts_29 : decode cX5_counts 29 = .ok (.aload_n 0, 1) := by decide +kernel
theorem dX5_counts_30 : decode cX5_counts 30 = .ok (.getfield 21, 3) := by decide +kernel
theorem dX5_counts_33 : decode cX5_counts 33 = .ok (.getfield 93, 3) := by decide +kernel
theorem dX5_counts_36 : decode cX5_counts 36 = .ok (.iload_n 1, 1) := by decide +kernel
theorem dX5_counts_37 : decode cX5_counts 37 = .ok (.iaload, 1) := by decide +kernel
theorem dX5_counts_38 : decode cX5_counts 38 = .ok (.aload_n 0, 1) := by decide +kernel
theorem dX5_counts_39 : decode cX5_counts 39 = .ok (.getfield 21, 3) := by decide +kernel
theorem dX5_counts_42 : decode cX5_counts 42 = .ok (.getfield 99, 3) := by decide +kernel
theorem dX5_counts_45 : decode cX5_counts 45 = .ok (.iload_n 1, 1) := by decide +kernel
theorem dX5_counts_46 : decode cX5_counts 46 = .ok (.iaload, 1) := by decide +kernel
theorem dX5_counts_47 : decode cX5_counts 47 = .ok (.invokestatic 105, 3) := by decide +kernel
theorem dX5_counts_50 : decode cX5_counts 50 = .ok (.imul, 1) := by decide +kernel
theorem dX5_counts_51 : decode cX5_counts 51 = .ok (.invokevirtual 206, 3) := by decide +kernel
theorem dX5_counts_54 : decode cX5_counts 54 = .ok (.ifCond .eq 9, 3) := by decide +kernel
theorem dX5_counts_57 : decode cX5_counts 57 = .ok (.iload_n 2, 1) := by decide +kernel
theorem dX5_counts_58 : decode cX5_counts 58 = .ok (.iconst 1, 1) := by decide +kernel
theorem dX5_counts_59 : decode cX5_counts 59 = .ok (.iload_n 3, 1) := by decide +kernel
theorem dX5_counts_60 : decode cX5_counts 60 = .ok (.ishl, 1) := by decide +kernel
theorem dX5_counts_61 : decode cX5_counts 61 = .ok (.ior, 1) := by decide +kernel
theorem dX5_counts_62 : decode cX5_counts 62 = .ok (.istore_n 2, 1) := by decide +kernel
theorem dX5_counts_63 : decode cX5_counts 63 = .ok (.iinc 3 1, 3) := by decide +kernel
theorem dX5_counts_66 : decode cX5_counts 66 = .ok (.goto (-49), 3) := by decide +kernel
theorem dX5_counts_69 : decode cX5_counts 69 = .ok (.iload_n 2, 1) := by decide +kernel
theorem dX5_counts_70 : decode cX5_counts 70 = .ok (.ireturn, 1) := by decide +kernel
theorem dX5_kinds_0 : decode cX5_kinds 0 = .ok (.aload_n 0, 1) := by decide +kernel
theorem dX5_kinds_1 : decode cX5_kinds 1 = .ok (.getfield 21, 3) := by decide +kernel
theorem dX5_kinds_4 : decode cX5_kinds 4 = .ok (.iload_n 1, 1) := by decide +kernel
theorem dX5_kinds_5 : decode cX5_kinds 5 = .ok (.invokevirtual 90, 3) := by decide +kernel
theorem dX5_kinds_8 : decode cX5_kinds 8 = .ok (.ifCond .ne 5, 3) := by decide +kernel
theorem dX5_kinds_11 : decode cX5_kinds 11 = .ok (.iconst (-1), 1) := by decide +kernel
theorem dX5_kinds_12 : decode cX5_kinds 12 = .ok (.ireturn, 1) := by decide +kernel
theorem dX5_kinds_13 : decode cX5_kinds 13 = .ok (.iconst 0, 1) := by decide +kernel
theorem dX5_kinds_14 : decode cX5_kinds 14 = .ok (.istore_n 2, 1) := by decide +kernel
theorem dX5_kinds_15 : decode cX5_kinds 15 = .ok (.iconst 0, 1) := by decide +kernel
theorem dX5_kinds_16 : decode cX5_kinds 16 = .ok (.istore_n 3, 1) := by decide +kernel
theorem dX5_kinds_17 : decode cX5_kinds 17 = .ok (.iload_n 3, 1) := by decide +kernel
theorem dX5_kinds_18 : decode cX5_kinds 18 = .ok (.iconst 2, 1) := by decide +kernel
theorem dX5_kinds_19 : decode cX5_kinds 19 = .ok (.if_icmp .gt 49, 3) := by decide +kernel
theorem dX5_kinds_22 : decode cX5_kinds 22 = .ok (.aload_n 0, 1) := by decide +kernel
theorem dX5_kinds_23 : decode cX5_kinds 23 = .ok (.getfield 21, 3) := by decide +kernel
theorem dX5_kinds_26 : decode cX5_kinds 26 = .ok (.iload_n 1, 1) := by decide +kernel
theorem dX5_kinds_27 : decode cX5_kinds 27 = .ok (.aload_n 0, 1) := by decide +kernel
theorem dX5_kinds_28 : decode cX5_kinds 28 = .ok (.getfield 21, 3) := by decide +kernel
theorem dX5_kinds_31 : decode cX5_kinds 31 = .ok (.getfield 96, 3) := by decide +kernel
theorem dX5_kinds_34 : decode cX5_kinds 34 = .ok (.iload_n 1, 1) := by decide +kernel
theorem dX5_kinds_35 : decode cX5_kinds 35 = .ok (.iaload, 1) := by decide +kernel
theorem dX5_kinds_36 : decode cX5_kinds 36 = .ok (.iload_n 3, 1) := by decide +kernel
theorem dX5_kinds_37 : decode cX5_kinds 37 = .ok (.aload_n 0, 1) := by decide +kernel
theorem dX5_kinds_38 : decode cX5_kinds 38 = .ok (.getfield 21, 3) := by decide +kernel
theorem dX5_kinds_41 : decode cX5_kinds 41 = .ok (.getfield 99, 3) := by decide +kernel
theorem dX5_kinds_44 : decode cX5_kinds 44 = .ok (.iload_n 1, 1) := by decide +kernel
theorem dX5_kinds_45 : decode cX5_kinds 45 = .ok (.iaload, 1) := by decide +kernel
theorem dX5_kinds_46 : decode cX5_kinds 46 = .ok (.invokestatic 105, 3) := by decide +kernel
theorem dX5_kinds_49 : decode cX5_kinds 49 = .ok (.imul, 1) := by decide +kernel
theorem dX5_kinds_50 : decode cX5_kinds 50 = .ok (.invokevirtual 206, 3) := by decide +kernel
theorem dX5_kinds_53 : decode cX5_kinds 53 = .ok (.ifCond .eq 9, 3) := by decide +kernel
theorem dX5_kinds_56 : decode cX5_kinds 56 = .ok (.iload_n 2, 1) := by decide +kernel
theorem dX5_kinds_57 : decode cX5_kinds 57 = .ok (.iconst 1, 1) := by decide +kernel
theorem dX5_kinds_58 : decode cX5_kinds 58 = .ok (.iload_n 3, 1) := by decide +kernel
theorem dX5_kinds_59 : decode cX5_kinds 59 = .ok (.ishl, 1) := by decide +kernel
theorem dX5_kinds_60 : decode cX5_kinds 60 = .ok (.ior, 1) := by decide +kernel
theorem dX5_kinds_61 : decode cX5_kinds 61 = .ok (.istore_n 2, 1) := by decide +kernel
theorem dX5_kinds_62 : decode cX5_kinds 62 = .ok (.iinc 3 1, 3) := by decide +kernel
theorem dX5_kinds_65 : decode cX5_kinds 65 = .ok (.goto (-48), 3) := by decide +kernel
theorem dX5_kinds_68 : decode cX5_kinds 68 = .ok (.iload_n 2, 1) := by decide +kernel
theorem dX5_kinds_69 : decode cX5_kinds 69 = .ok (.ireturn, 1) := by decide +kernel
theorem dX5_speeds_0 : decode cX5_speeds 0 = .ok (.aload_n 0, 1) := by decide +kernel
theorem dX5_speeds_1 : decode cX5_speeds 1 = .ok (.getfield 21, 3) := by decide +kernel
theorem dX5_speeds_4 : decode cX5_speeds 4 = .ok (.iload_n 1, 1) := by decide +kernel
theorem dX5_speeds_5 : decode cX5_speeds 5 = .ok (.invokevirtual 90, 3) := by decide +kernel
theorem dX5_speeds_8 : decode cX5_speeds 8 = .ok (.ifCond .ne 5, 3) := by decide +kernel
theorem dX5_speeds_11 : decode cX5_speeds 11 = .ok (.iconst (-1), 1) := by decide +kernel
theorem dX5_speeds_12 : decode cX5_speeds 12 = .ok (.ireturn, 1) := by decide +kernel
theorem dX5_speeds_13 : decode cX5_speeds 13 = .ok (.iconst 0, 1) := by decide +kernel
theorem dX5_speeds_14 : decode cX5_speeds 14 = .ok (.istore_n 2, 1) := by decide +kernel
theorem dX5_speeds_15 : decode cX5_speeds 15 = .ok (.iconst 1, 1) := by decide +kernel
theorem dX5_speeds_16 : decode cX5_speeds 16 = .ok (.istore_n 3, 1) := by decide +kernel
theorem dX5_speeds_17 : decode cX5_speeds 17 = .ok (.iload_n 3, 1) := by decide +kernel
theorem dX5_speeds_18 : decode cX5_speeds 18 = .ok (.bipush 9, 2) := by decide +kernel
theorem dX5_speeds_20 : decode cX5_speeds 20 = .ok (.if_icmp .gt 49, 3) := by decide +kernel
theorem dX5_speeds_23 : decode cX5_speeds 23 = .ok (.aload_n 0, 1) := by decide +kernel
theorem dX5_speeds_24 : decode cX5_speeds 24 = .ok (.getfield 21, 3) := by decide +kernel
theorem dX5_speeds_27 : decode cX5_speeds 27 = .ok (.iload_n 1, 1) := by decide +kernel
theorem dX5_speeds_28 : decode cX5_speeds 28 = .ok (.aload_n 0, 1) := by decide +kernel
theorem dX5_speeds_29 : decode cX5_speeds 29 = .ok (.getfield 21, 3) := by decide +kernel
theorem dX5_speeds_32 : decode cX5_speeds 32 = .ok (.getfield 96, 3) := by decide +kernel
theorem dX5_speeds_35 : decode cX5_speeds 35 = .ok (.iload_n 1, 1) := by decide +kernel
theorem dX5_speeds_36 : decode cX5_speeds 36 = .ok (.iaload, 1) := by decide +kernel
theorem dX5_speeds_37 : decode cX5_speeds 37 = .ok (.aload_n 0, 1) := by decide +kernel
theorem dX5_speeds_38 : decode cX5_speeds 38 = .ok (.getfield 21, 3) := by decide +kernel
theorem dX5_speeds_41 : decode cX5_speeds 41 = .ok (.getfield 93, 3) := by decide +kernel
theorem dX5_speeds_44 : decode cX5_speeds 44 = .ok (.iload_n 1, 1) := by decide +kernel
theorem dX5_speeds_45 : decode cX5_speeds 45 = .ok (.iaload, 1) := by decide +kernel
theorem dX5_speeds_46 : decode cX5_speeds 46 = .ok (.iload_n 3, 1) := by decide +kernel
theorem dX5_speeds_47 : decode cX5_speeds 47 = .ok (.invokestatic 105, 3) := by decide +kernel
theorem dX5_speeds_50 : decode cX5_speeds 50 = .ok (.imul, 1) := by decide +kernel
theorem dX5_speeds_51 : decode cX5_speeds 51 = .ok (.invokevirtual 206, 3) := by decide +kernel
theorem dX5_speeds_54 : decode cX5_speeds 54 = .ok (.ifCond .eq 9, 3) := by decide +kernel
theorem dX5_speeds_57 : decode cX5_speeds 57 = .ok (.iload_n 2, 1) := by decide +kernel
theorem dX5_speeds_58 : decode cX5_speeds 58 = .ok (.iconst 1, 1) := by decide +kernel
theorem dX5_speeds_59 : decode cX5_speeds 59 = .ok (.iload_n 3, 1) := by decide +kernel
theorem dX5_speeds_60 : decode cX5_speeds 60 = .ok (.ishl, 1) := by decide +kernel
theorem dX5_speeds_61 : decode cX5_speeds 61 = .ok (.ior, 1) := by decide +kernel
theorem dX5_speeds_62 : decode cX5_speeds 62 = .ok (.istore_n 2, 1) := by decide +kernel
theorem dX5_speeds_63 : decode cX5_speeds 63 = .ok (.iinc 3 1, 3) := by decide +kernel
theorem dX5_speeds_66 : decode cX5_speeds 66 = .ok (.goto (-49), 3) := by decide +kernel
theorem dX5_speeds_69 : decode cX5_speeds 69 = .ok (.iload_n 2, 1) := by decide +kernel
theorem dX5_speeds_70 : decode cX5_speeds 70 = .ok (.ireturn, 1) := by decide +kernel
theorem dX5_sheet_0 : decode cX5_sheet 0 = .ok (.aload_n 0, 1) := by decide +kernel
theorem dX5_sheet_1 : decode cX5_sheet 1 = .ok (.iconst 0, 1) := by decide +kernel
theorem dX5_sheet_2 : decode cX5_sheet 2 = .ok (.putfield 50, 3) := by decide +kernel
theorem dX5_sheet_5 : decode cX5_sheet 5 = .ok (.iload_n 1, 1) := by decide +kernel
theorem dX5_sheet_6 : decode cX5_sheet 6 = .ok (.invokestatic 54, 3) := by decide +kernel
theorem dX5_sheet_9 : decode cX5_sheet 9 = .ok (.ifCond .ne 5, 3) := by decide +kernel
theorem dX5_sheet_12 : decode cX5_sheet 12 = .ok (.iconst (-1), 1) := by decide +kernel
theorem dX5_sheet_13 : decode cX5_sheet 13 = .ok (.ireturn, 1) := by decide +kernel
theorem dX5_sheet_14 : decode cX5_sheet 14 = .ok (.iload_n 2, 1) := by decide +kernel
theorem dX5_sheet_15 : decode cX5_sheet 15 = .ok (.invokestatic 58, 3) := by decide +kernel
theorem dX5_sheet_18 : decode cX5_sheet 18 = .ok (.ifCond .eq 9, 3) := by decide +kernel
theorem dX5_sheet_21 : decode cX5_sheet 21 = .ok (.iload_n 3, 1) := by decide +kernel
theorem dX5_sheet_22 : decode cX5_sheet 22 = .ok (.bipush 60, 2) := by decide +kernel
theorem dX5_sheet_24 : decode cX5_sheet 24 = .ok (.if_icmp .le 6, 3) := by decide +kernel
theorem dX5_sheet_27 : decode cX5_sheet 27 = .ok (.bipush (-2), 2) := by decide +kernel
theorem dX5_sheet_29 : decode cX5_sheet 29 = .ok (.ireturn, 1) := by decide +kernel
theorem dX5_sheet_30 : decode cX5_sheet 30 = .ok (.iload_n 3, 1) := by decide +kernel
theorem dX5_sheet_31 : decode cX5_sheet 31 = .ok (.ifCond .ge 9, 3) := by decide +kernel
theorem dX5_sheet_34 : decode cX5_sheet 34 = .ok (.aload_n 0, 1) := by decide +kernel
theorem dX5_sheet_35 : decode cX5_sheet 35 = .ok (.iconst 4, 1) := by decide +kernel
theorem dX5_sheet_36 : decode cX5_sheet 36 = .ok (.invokevirtual 69, 3) := by decide +kernel
theorem dX5_sheet_39 : decode cX5_sheet 39 = .ok (.ireturn, 1) := by decide +kernel
theorem dX5_sheet_40 : decode cX5_sheet 40 = .ok (.aload_n 0, 1) := by decide +kernel
theorem dX5_sheet_41 : decode cX5_sheet 41 = .ok (.getfield 12, 3) := by decide +kernel
theorem dX5_sheet_44 : decode cX5_sheet 44 = .ok (.iload_n 1, 1) := by decide +kernel
theorem dX5_sheet_45 : decode cX5_sheet 45 = .ok (.iload_n 2, 1) := by decide +kernel
theorem dX5_sheet_46 : decode cX5_sheet 46 = .ok (.iload_n 3, 1) := by decide +kernel
theorem dX5_sheet_47 : decode cX5_sheet 47 = .ok (.invokevirtual 210, 3) := by decide +kernel
theorem dX5_sheet_50 : decode cX5_sheet 50 = .ok (.iconst 1, 1) := by decide +kernel
theorem dX5_sheet_51 : decode cX5_sheet 51 = .ok (.ireturn, 1) := by decide +kernel
theorem dX5_lose_0 : decode cX5_lose 0 = .ok (.iload_n 1, 1) := by decide +kernel
theorem dX5_lose_1 : decode cX5_lose 1 = .ok (.invokestatic 54, 3) := by decide +kernel
theorem dX5_lose_4 : decode cX5_lose 4 = .ok (.ifCond .ne 5, 3) := by decide +kernel
theorem dX5_lose_7 : decode cX5_lose 7 = .ok (.iconst (-1), 1) := by decide +kernel
theorem dX5_lose_8 : decode cX5_lose 8 = .ok (.ireturn, 1) := by decide +kernel
theorem dX5_lose_9 : decode cX5_lose 9 = .ok (.aload_n 0, 1) := by decide +kernel
theorem dX5_lose_10 : decode cX5_lose 10 = .ok (.getfield 12, 3) := by decide +kernel
theorem dX5_lose_13 : decode cX5_lose 13 = .ok (.iload_n 1, 1) := by decide +kernel
theorem dX5_lose_14 : decode cX5_lose 14 = .ok (.invokevirtual 214, 3) := by decide +kernel
theorem dX5_lose_17 : decode cX5_lose 17 = .ok (.ifCond .eq 7, 3) := by decide +kernel
theorem dX5_lose_20 : decode cX5_lose 20 = .ok (.iconst 1, 1) := by decide +kernel
theorem dX5_lose_21 : decode cX5_lose 21 = .ok (.goto 4, 3) := by decide +kernel
theorem dX5_lose_24 : decode cX5_lose 24 = .ok (.iconst 0, 1) := by decide +kernel
theorem dX5_lose_25 : decode cX5_lose 25 = .ok (.ireturn, 1) := by decide +kernel
theorem dX5_put_0 : decode cX5_put 0 = .ok (.aload_n 0, 1) := by decide +kernel
theorem dX5_put_1 : decode cX5_put 1 = .ok (.iconst 0, 1) := by decide +kernel
theorem dX5_put_2 : decode cX5_put 2 = .ok (.putfield 50, 3) := by decide +kernel
theorem dX5_put_5 : decode cX5_put 5 = .ok (.iload_n 1, 1) := by decide +kernel
theorem dX5_put_6 : decode cX5_put 6 = .ok (.invokestatic 54, 3) := by decide +kernel
theorem dX5_put_9 : decode cX5_put 9 = .ok (.ifCond .ne 5, 3) := by decide +kernel
theorem dX5_put_12 : decode cX5_put 12 = .ok (.iconst (-1), 1) := by decide +kernel
theorem dX5_put_13 : decode cX5_put 13 = .ok (.ireturn, 1) := by decide +kernel
theorem dX5_put_14 : decode cX5_put 14 = .ok (.aload_n 0, 1) := by decide +kernel
theorem dX5_put_15 : decode cX5_put 15 = .ok (.getfield 12, 3) := by decide +kernel
theorem dX5_put_18 : decode cX5_put 18 = .ok (.iload_n 1, 1) := by decide +kernel
theorem dX5_put_19 : decode cX5_put 19 = .ok (.iload_n 2, 1) := by decide +kernel
theorem dX5_put_20 : decode cX5_put 20 = .ok (.invokevirtual 217, 3) := by decide +kernel
theorem dX5_put_23 : decode cX5_put 23 = .ok (.istore 4, 2) := by decide +kernel
theorem dX5_put_25 : decode cX5_put 25 = .ok (.iload 4, 2) := by decide +kernel
theorem dX5_put_27 : decode cX5_put 27 = .ok (.ifCond .eq 10, 3) := by decide +kernel
theorem dX5_put_30 : decode cX5_put 30 = .ok (.aload_n 0, 1) := by decide +kernel
theorem dX5_put_31 : decode cX5_put 31 = .ok (.iload 4, 2) := by decide +kernel
theorem dX5_put_33 : decode cX5_put 33 = .ok (.invokevirtual 69, 3) := by decide +kernel
theorem dX5_put_36 : decode cX5_put 36 = .ok (.ireturn, 1) := by decide +kernel
theorem dX5_put_37 : decode cX5_put 37 = .ok (.aload_n 0, 1) := by decide +kernel
theorem dX5_put_38 : decode cX5_put 38 = .ok (.getfield 12, 3) := by decide +kernel
theorem dX5_put_41 : decode cX5_put 41 = .ok (.iload_n 1, 1) := by decide +kernel
theorem dX5_put_42 : decode cX5_put 42 = .ok (.iload_n 2, 1) := by decide +kernel
theorem dX5_put_43 : decode cX5_put 43 = .ok (.iload_n 3, 1) := by decide +kernel
theorem dX5_put_44 : decode cX5_put 44 = .ok (.invokevirtual 220, 3) := by decide +kernel
theorem dX5_put_47 : decode cX5_put 47 = .ok (.iconst 1, 1) := by decide +kernel
theorem dX5_put_48 : decode cX5_put 48 = .ok (.ireturn, 1) := by decide +kernel
theorem dX5_cell_0 : decode cX5_cell 0 = .ok (.aload_n 0, 1) := by decide +kernel
theorem dX5_cell_1 : decode cX5_cell 1 = .ok (.iconst 0, 1) := by decide +kernel
theorem dX5_cell_2 : decode cX5_cell 2 = .ok (.putfield 50, 3) := by decide +kernel
theorem dX5_cell_5 : decode cX5_cell 5 = .ok (.iload_n 1, 1) := by decide +kernel
theorem dX5_cell_6 : decode cX5_cell 6 = .ok (.invokestatic 54, 3) := by decide +kernel
theorem dX5_cell_9 : decode cX5_cell 9 = .ok (.ifCond .eq 10, 3) := by decide +kernel
theorem dX5_cell_12 : decode cX5_cell 12 = .ok (.iload_n 3, 1) := by decide +kernel
theorem dX5_cell_13 : decode cX5_cell 13 = .ok (.invokestatic 58, 3) := by decide +kernel
theorem dX5_cell_16 : decode cX5_cell 16 = .ok (.ifCond .ne 7, 3) := by decide +kernel
theorem dX5_cell_19 : decode cX5_cell 19 = .ok (.ldc2_w 191, 3) := by decide +kernel
theorem dX5_cell_22 : decode cX5_cell 22 = .ok (.lreturn, 1) := by decide +kernel
theorem dX5_cell_23 : decode cX5_cell 23 = .ok (.aload_n 0, 1) := by decide +kernel
theorem dX5_cell_24 : decode cX5_cell 24 = .ok (.aload_n 0, 1) := by decide +kernel
theorem dX5_cell_25 : decode cX5_cell 25 = .ok (.getfield 12, 3) := by decide +kernel
theorem dX5_cell_28 : decode cX5_cell 28 = .ok (.iload_n 1, 1) := by decide +kernel
theorem dX5_cell_29 : decode cX5_cell 29 = .ok (.iload_n 3, 1) := by decide +kernel
theorem dX5_cell_30 : decode cX5_cell 30 = .ok (.invokevirtual 61, 3) := by decide +kernel
theorem dX5_cell_33 : decode cX5_cell 33 = .ok (.putfield 50, 3) := by decide +kernel
theorem dX5_cell_36 : decode cX5_cell 36 = .ok (.aload_n 0, 1) := by decide +kernel
theorem dX5_cell_37 : decode cX5_cell 37 = .ok (.getfield 50, 3) := by decide +kernel
theorem dX5_cell_40 : decode cX5_cell 40 = .ok (.ifCond .ne 16, 3) := by decide +kernel
theorem dX5_cell_43 : decode cX5_cell 43 = .ok (.aload_n 0, 1) := by decide +kernel
theorem dX5_cell_44 : decode cX5_cell 44 = .ok (.aload_n 0, 1) := by decide +kernel
theorem dX5_cell_45 : decode cX5_cell 45 = .ok (.getfield 12, 3) := by decide +kernel
theorem dX5_cell_48 : decode cX5_cell 48 = .ok (.iload_n 1, 1) := by decide +kernel
theorem dX5_cell_49 : decode cX5_cell 49 = .ok (.iload_n 2, 1) := by decide +kernel
theorem dX5_cell_50 : decode cX5_cell 50 = .ok (.invokevirtual 217, 3) := by decide +kernel
theorem dX5_cell_53 : decode cX5_cell 53 = .ok (.putfield 50, 3) := by decide +kernel
theorem dX5_cell_56 : decode cX5_cell 56 = .ok (.aload_n 0, 1) := by decide +kernel
theorem dX5_cell_57 : decode cX5_cell 57 = .ok (.getfield 50, 3) := by decide +kernel
theorem dX5_cell_60 : decode cX5_cell 60 = .ok (.ifCond .ne 16, 3) := by decide +kernel
theorem dX5_cell_63 : decode cX5_cell 63 = .ok (.aload_n 0, 1) := by decide +kernel
theorem dX5_cell_64 : decode cX5_cell 64 = .ok (.getfield 12, 3) := by decide +kernel
theorem dX5_cell_67 : decode cX5_cell 67 = .ok (.iload_n 1, 1) := by decide +kernel
theorem dX5_cell_68 : decode cX5_cell 68 = .ok (.iload_n 2, 1) := by decide +kernel
theorem dX5_cell_69 : decode cX5_cell 69 = .ok (.invokevirtual 223, 3) := by decide +kernel
theorem dX5_cell_72 : decode cX5_cell 72 = .ok (.i2l, 1) := by decide +kernel
theorem dX5_cell_73 : decode cX5_cell 73 = .ok (.goto 6, 3) := by decide +kernel
theorem dX5_cell_76 : decode cX5_cell 76 = .ok (.ldc2_w 191, 3) := by decide +kernel
theorem dX5_cell_79 : decode cX5_cell 79 = .ok (.lreturn, 1) := by decide +kernel
theorem dX5_copy_0 : decode cX5_copy 0 = .ok (.aload_n 0, 1) := by decide +kernel
theorem dX5_copy_1 : decode cX5_copy 1 = .ok (.iconst 0, 1) := by decide +kernel
theorem dX5_copy_2 : decode cX5_copy 2 = .ok (.putfield 50, 3) := by decide +kernel
theorem dX5_copy_5 : decode cX5_copy 5 = .ok (.iload_n 1, 1) := by decide +kernel
theorem dX5_copy_6 : decode cX5_copy 6 = .ok (.invokestatic 54, 3) := by decide +kernel
theorem dX5_copy_9 : decode cX5_copy 9 = .ok (.ifCond .eq 10, 3) := by decide +kernel
theorem dX5_copy_12 : decode cX5_copy 12 = .ok (.iload_n 3, 1) := by decide +kernel
theorem dX5_copy_13 : decode cX5_copy 13 = .ok (.invokestatic 54, 3) := by decide +kernel
theorem dX5_copy_16 : decode cX5_copy 16 = .ok (.ifCond .ne 5, 3) := by decide +kernel
theorem dX5_copy_19 : decode cX5_copy 19 = .ok (.iconst (-1), 1) := by decide +kernel
theorem dX5_copy_20 : decode cX5_copy 20 = .ok (.ireturn, 1) := by decide +kernel
theorem dX5_copy_21 : decode cX5_copy 21 = .ok (.aload_n 0, 1) := by decide +kernel
theorem dX5_copy_22 : decode cX5_copy 22 = .ok (.getfield 12, 3) := by decide +kernel
theorem dX5_copy_25 : decode cX5_copy 25 = .ok (.iload_n 1, 1) := by decide +kernel
theorem dX5_copy_26 : decode cX5_copy 26 = .ok (.iload_n 3, 1) := by decide +kernel
theorem dX5_copy_27 : decode cX5_copy 27 = .ok (.invokevirtual 226, 3) := by decide +kernel
theorem dX5_copy_30 : decode cX5_copy 30 = .ok (.istore 6, 2) := by decide +kernel
theorem dX5_copy_32 : decode cX5_copy 32 = .ok (.iload 6, 2) := by decide +kernel
theorem dX5_copy_34 : decode cX5_copy 34 = .ok (.ifCond .ne 16, 3) := by decide +kernel
theorem dX5_copy_37 : decode cX5_copy 37 = .ok (.aload_n 0, 1) := by decide +kernel
theorem dX5_copy_38 : decode cX5_copy 38 = .ok (.getfield 12, 3) := by decide +kernel
theorem dX5_copy_41 : decode cX5_copy 41 = .ok (.iload_n 1, 1) := by decide +kernel
theorem dX5_copy_42 : decode cX5_copy 42 = .ok (.iload_n 2, 1) := by decide +kernel
theorem dX5_copy_43 : decode cX5_copy 43 = .ok (.iload 5, 2) := by decide +kernel
theorem dX5_copy_45 : decode cX5_copy 45 = .ok (.invokevirtual 65, 3) := by decide +kernel
theorem dX5_copy_48 : decode cX5_copy 48 = .ok (.istore 6, 2) := by decide +kernel
theorem dX5_copy_50 : decode cX5_copy 50 = .ok (.iload 6, 2) := by decide +kernel
theorem dX5_copy_52 : decode cX5_copy 52 = .ok (.ifCond .ne 17, 3) := by decide +kernel
theorem dX5_copy_55 : decode cX5_copy 55 = .ok (.aload_n 0, 1) := by decide +kernel
theorem dX5_copy_56 : decode cX5_copy 56 = .ok (.getfield 12, 3) := by decide +kernel
theorem dX5_copy_59 : decode cX5_copy 59 = .ok (.iload_n 3, 1) := by decide +kernel
theorem dX5_copy_60 : decode cX5_copy 60 = .ok (.iload 4, 2) := by decide +kernel
theorem dX5_copy_62 : decode cX5_copy 62 = .ok (.iload 5, 2) := by decide +kernel
theorem dX5_copy_64 : decode cX5_copy 64 = .ok (.invokevirtual 65, 3) := by decide +kernel
theorem dX5_copy_67 : decode cX5_copy 67 = .ok (.istore 6, 2) := by decide +kernel
theorem dX5_copy_69 : decode cX5_copy 69 = .ok (.iload 6, 2) := by decide +kernel
theorem dX5_copy_71 : decode cX5_copy 71 = .ok (.ifCond .eq 10, 3) := by decide +kernel
theorem dX5_copy_74 : decode cX5_copy 74 = .ok (.aload_n 0, 1) := by decide +kernel
theorem dX5_copy_75 : decode cX5_copy 75 = .ok (.iload 6, 2) := by decide +kernel
theorem dX5_copy_77 : decode cX5_copy 77 = .ok (.invokevirtual 69, 3) := by decide +kernel
theorem dX5_copy_80 : decode cX5_copy 80 = .ok (.ireturn, 1) := by decide +kernel
theorem dX5_copy_81 : decode cX5_copy 81 = .ok (.aload_n 0, 1) := by decide +kernel
theorem dX5_copy_82 : decode cX5_copy 82 = .ok (.getfield 12, 3) := by decide +kernel
theorem dX5_copy_85 : decode cX5_copy 85 = .ok (.iload_n 1, 1) := by decide +kernel
theorem dX5_copy_86 : decode cX5_copy 86 = .ok (.iload_n 2, 1) := by decide +kernel
theorem dX5_copy_87 : decode cX5_copy 87 = .ok (.iload_n 3, 1) := by decide +kernel
theorem dX5_copy_88 : decode cX5_copy 88 = .ok (.iload 4, 2) := by decide +kernel
theorem dX5_copy_90 : decode cX5_copy 90 = .ok (.iload 5, 2) := by decide +kernel
theorem dX5_copy_92 : decode cX5_copy 92 = .ok (.invokevirtual 229, 3) := by decide +kernel
theorem dX5_copy_95 : decode cX5_copy 95 = .ok (.iload 5, 2) := by decide +kernel
theorem dX5_copy_97 : decode cX5_copy 97 = .ok (.ireturn, 1) := by decide +kernel
theorem dX5_tell_0 : decode cX5_tell 0 = .ok (.aload_n 0, 1) := by decide +kernel
theorem dX5_tell_1 : decode cX5_tell 1 = .ok (.getfield 21, 3) := by decide +kernel
theorem dX5_tell_4 : decode cX5_tell 4 = .ok (.iload_n 1, 1) := by decide +kernel
theorem dX5_tell_5 : decode cX5_tell 5 = .ok (.invokevirtual 90, 3) := by decide +kernel
theorem dX5_tell_8 : decode cX5_tell 8 = .ok (.ifCond .ne 5, 3) := by decide +kernel
theorem dX5_tell_11 : decode cX5_tell 11 = .ok (.iconst (-1), 1) := by decide +kernel
theorem dX5_tell_12 : decode cX5_tell 12 = .ok (.ireturn, 1) := by decide +kernel
theorem dX5_tell_13 : decode cX5_tell 13 = .ok (.aload_n 0, 1) := by decide +kernel
theorem dX5_tell_14 : decode cX5_tell 14 = .ok (.getfield 21, 3) := by decide +kernel
theorem dX5_tell_17 : decode cX5_tell 17 = .ok (.getfield 93, 3) := by decide +kernel
theorem dX5_tell_20 : decode cX5_tell 20 = .ok (.iload_n 1, 1) := by decide +kernel
theorem dX5_tell_21 : decode cX5_tell 21 = .ok (.iaload, 1) := by decide +kernel
theorem dX5_tell_22 : decode cX5_tell 22 = .ok (.lookupswitch 38 #[(1, 32), (2, 26)], 26) := by decide +kernel
theorem dX5_tell_48 : decode cX5_tell 48 = .ok (.aload_n 0, 1) := by decide +kernel
theorem dX5_tell_49 : decode cX5_tell 49 = .ok (.iload_n 1, 1) := by decide +kernel
theorem dX5_tell_50 : decode cX5_tell 50 = .ok (.invokevirtual 233, 3) := by decide +kernel
theorem dX5_tell_53 : decode cX5_tell 53 = .ok (.ireturn, 1) := by decide +kernel
theorem dX5_tell_54 : decode cX5_tell 54 = .ok (.aload_n 0, 1) := by decide +kernel
theorem dX5_tell_55 : decode cX5_tell 55 = .ok (.iload_n 1, 1) := by decide +kernel
theorem dX5_tell_56 : decode cX5_tell 56 = .ok (.invokevirtual 236, 3) := by decide +kernel
theorem dX5_tell_59 : decode cX5_tell 59 = .ok (.ireturn, 1) := by decide +kernel
theorem dX5_tell_60 : decode cX5_tell 60 = .ok (.aload_n 0, 1) := by decide +kernel
theorem dX5_tell_61 : decode cX5_tell 61 = .ok (.iload_n 1, 1) := by decide +kernel
theorem dX5_tell_62 : decode cX5_tell 62 = .ok (.invokevirtual 239, 3) := by decide +kernel
theorem dX5_tell_65 : decode cX5_tell 65 = .ok (.ireturn, 1) := by decide +kernel
theorem dX5_drop_0 : decode cX5_drop 0 = .ok (.aload_n 0, 1) := by decide +kernel
theorem dX5_drop_1 : decode cX5_drop 1 = .ok (.getfield 21, 3) := by decide +kernel
theorem dX5_drop_4 : decode cX5_drop 4 = .ok (.iload_n 1, 1) := by decide +kernel
theorem dX5_drop_5 : decode cX5_drop 5 = .ok (.invokevirtual 90, 3) := by decide +kernel
theorem dX5_drop_8 : decode cX5_drop 8 = .ok (.ifCond .ne 5, 3) := by decide +kernel
theorem dX5_drop_11 : decode cX5_drop 11 = .ok (.iconst (-1), 1) := by decide +kernel
theorem dX5_drop_12 : decode cX5_drop 12 = .ok (.ireturn, 1) := by decide +kernel
theorem dX5_drop_13 : decode cX5_drop 13 = .ok (.aload_n 0, 1) := by decide +kernel
theorem dX5_drop_14 : decode cX5_drop 14 = .ok (.getfield 21, 3) := by decide +kernel
theorem dX5_drop_17 : decode cX5_drop 17 = .ok (.getfield 93, 3) := by decide +kernel
theorem dX5_drop_20 : decode cX5_drop 20 = .ok (.iload_n 1, 1) := by decide +kernel
theorem dX5_drop_21 : decode cX5_drop 21 = .ok (.iaload, 1) := by decide +kernel
theorem dX5_drop_22 : decode cX5_drop 22 = .ok (.iconst 2, 1) := by decide +kernel
theorem dX5_drop_23 : decode cX5_drop 23 = .ok (.if_icmp .ne 10, 3) := by decide +kernel
theorem dX5_drop_26 : decode cX5_drop 26 = .ok (.aload_n 0, 1) := by decide +kernel
theorem dX5_drop_27 : decode cX5_drop 27 = .ok (.invokevirtual 242, 3) := by decide +kernel
theorem dX5_drop_30 : decode cX5_drop 30 = .ok (.goto 8, 3) := by decide +kernel
theorem dX5_drop_33 : decode cX5_drop 33 = .ok (.aload_n 0, 1) := by decide +kernel
theorem dX5_drop_34 : decode cX5_drop 34 = .ok (.iload_n 1, 1) := by decide +kernel
theorem dX5_drop_35 : decode cX5_drop 35 = .ok (.invokevirtual 245, 3) := by decide +kernel
theorem dX5_drop_38 : decode cX5_drop 38 = .ok (.ireturn, 1) := by decide +kernel
theorem dX5_as_0 : decode cX5_as 0 = .ok (.aload_n 0, 1) := by decide +kernel
theorem dX5_as_1 : decode cX5_as 1 = .ok (.iconst 0, 1) := by decide +kernel
theorem dX5_as_2 : decode cX5_as 2 = .ok (.putfield 50, 3) := by decide +kernel
theorem dX5_as_5 : decode cX5_as 5 = .ok (.aload_n 0, 1) := by decide +kernel
theorem dX5_as_6 : decode cX5_as 6 = .ok (.getfield 21, 3) := by decide +kernel
theorem dX5_as_9 : decode cX5_as 9 = .ok (.iload_n 1, 1) := by decide +kernel
theorem dX5_as_10 : decode cX5_as 10 = .ok (.invokevirtual 90, 3) := by decide +kernel
theorem dX5_as_13 : decode cX5_as 13 = .ok (.ifCond .ne 5, 3) := by decide +kernel
theorem dX5_as_16 : decode cX5_as 16 = .ok (.iconst (-1), 1) := by decide +kernel
theorem dX5_as_17 : decode cX5_as 17 = .ok (.ireturn, 1) := by decide +kernel
theorem dX5_as_18 : decode cX5_as 18 = .ok (.iload_n 2, 1) := by decide +kernel
theorem dX5_as_19 : decode cX5_as 19 = .ok (.ifCond .lt 8, 3) := by decide +kernel
theorem dX5_as_22 : decode cX5_as 22 = .ok (.iload_n 2, 1) := by decide +kernel
theorem dX5_as_23 : decode cX5_as 23 = .ok (.iconst 2, 1) := by decide +kernel
theorem dX5_as_24 : decode cX5_as 24 = .ok (.if_icmp .le 6, 3) := by decide +kernel
theorem dX5_as_27 : decode cX5_as 27 = .ok (.bipush (-2), 2) := by decide +kernel
theorem dX5_as_29 : decode cX5_as 29 = .ok (.ireturn, 1) := by decide +kernel
theorem dX5_as_30 : decode cX5_as 30 = .ok (.aload_n 0, 1) := by decide +kernel
theorem dX5_as_31 : decode cX5_as 31 = .ok (.getfield 21, 3) := by decide +kernel
theorem dX5_as_34 : decode cX5_as 34 = .ok (.getfield 93, 3) := by decide +kernel
theorem dX5_as_37 : decode cX5_as 37 = .ok (.iload_n 1, 1) := by decide +kernel
theorem dX5_as_38 : decode cX5_as 38 = .ok (.iaload, 1) := by decide +kernel
theorem dX5_as_39 : decode cX5_as 39 = .ok (.iload_n 2, 1) := by decide +kernel
theorem dX5_as_40 : decode cX5_as 40 = .ok (.if_icmp .lt 7, 3) := by decide +kernel
theorem dX5_as_43 : decode cX5_as 43 = .ok (.iconst 1, 1) := by decide +kernel
theorem dX5_as_44 : decode cX5_as 44 = .ok (.goto 8, 3) := by decide +kernel
theorem dX5_as_47 : decode cX5_as 47 = .ok (.aload_n 0, 1) := by decide +kernel
theorem dX5_as_48 : decode cX5_as 48 = .ok (.iconst 2, 1) := by decide +kernel
theorem dX5_as_49 : decode cX5_as 49 = .ok (.invokevirtual 69, 3) := by decide +kernel
theorem dX5_as_52 : decode cX5_as 52 = .ok (.ireturn, 1) := by decide +kernel
theorem dX5_trace_0 : decode cX5_trace 0 = .ok (.aload_n 0, 1) := by decide +kernel
theorem dX5_trace_1 : decode cX5_trace 1 = .ok (.getfield 248, 3) := by decide +kernel
theorem dX5_trace_4 : decode cX5_trace 4 = .ok (.ireturn, 1) := by decide +kernel
theorem dX5_fault_0 : decode cX5_fault 0 = .ok (.aload_n 0, 1) := by decide +kernel
theorem dX5_fault_1 : decode cX5_fault 1 = .ok (.getfield 50, 3) := by decide +kernel
theorem dX5_fault_4 : decode cX5_fault 4 = .ok (.ireturn, 1) := by decide +kernel
theorem dX5_many_0 : decode cX5_many 0 = .ok (.iload_n 1, 1) := by decide +kernel
theorem dX5_many_1 : decode cX5_many 1 = .ok (.tableswitch 63 0 3 #[31, 39, 47, 55], 31) := by decide +kernel
theorem dX5_many_32 : decode cX5_many 32 = .ok (.aload_n 0, 1) := by decide +kernel
theorem dX5_many_33 : decode cX5_many 33 = .ok (.getfield 21, 3) := by decide +kernel
theorem dX5_many_36 : decode cX5_many 36 = .ok (.getfield 87, 3) := by decide +kernel
theorem dX5_many_39 : decode cX5_many 39 = .ok (.ireturn, 1) := by decide +kernel
theorem dX5_many_40 : decode cX5_many 40 = .ok (.aload_n 0, 1) := by decide +kernel
theorem dX5_many_41 : decode cX5_many 41 = .ok (.getfield 21, 3) := by decide +kernel
theorem dX5_many_44 : decode cX5_many 44 = .ok (.getfield 125, 3) := by decide +kernel
theorem dX5_many_47 : decode cX5_many 47 = .ok (.ireturn, 1) := by decide +kernel
theorem dX5_many_48 : decode cX5_many 48 = .ok (.aload_n 0, 1) := by decide +kernel
theorem dX5_many_49 : decode cX5_many 49 = .ok (.getfield 21, 3) := by decide +kernel
theorem dX5_many_52 : decode cX5_many 52 = .ok (.invokevirtual 251, 3) := by decide +kernel
theorem dX5_many_55 : decode cX5_many 55 = .ok (.ireturn, 1) := by decide +kernel
theorem dX5_many_56 : decode cX5_many 56 = .ok (.aload_n 0, 1) := by decide +kernel
theorem dX5_many_57 : decode cX5_many 57 = .ok (.getfield 21, 3) := by decide +kernel
theorem dX5_many_60 : decode cX5_many 60 = .ok (.getfield 200, 3) := by decide +kernel
theorem dX5_many_63 : decode cX5_many 63 = .ok (.ireturn, 1) := by decide +kernel
theorem dX5_many_64 : decode cX5_many 64 = .ok (.bipush (-2), 2) := by decide +kernel
theorem dX5_many_66 : decode cX5_many 66 = .ok (.ireturn, 1) := by decide +kernel
theorem dX5_failed_0 : decode cX5_failed 0 = .ok (.aload_n 0, 1) := by decide +kernel
theorem dX5_failed_1 : decode cX5_failed 1 = .ok (.iload_n 1, 1) := by decide +kernel
theorem dX5_failed_2 : decode cX5_failed 2 = .ok (.putfield 50, 3) := by decide +kernel
theorem dX5_failed_5 : decode cX5_failed 5 = .ok (.bipush (-10), 2) := by decide +kernel
theorem dX5_failed_7 : decode cX5_failed 7 = .ok (.iload_n 1, 1) := by decide +kernel
theorem dX5_failed_8 : decode cX5_failed 8 = .ok (.isub, 1) := by decide +kernel
theorem dX5_failed_9 : decode cX5_failed 9 = .ok (.ireturn, 1) := by decide +kernel
theorem dX5_refusalOfRow_0 : decode cX5_refusalOfRow 0 = .ok (.iload_n 1, 1) := by decide +kernel
theorem dX5_refusalOfRow_1 : decode cX5_refusalOfRow 1 = .ok (.invokestatic 54, 3) := by decide +kernel
theorem dX5_refusalOfRow_4 : decode cX5_refusalOfRow 4 = .ok (.ifCond .ne 5, 3) := by decide +kernel
theorem dX5_refusalOfRow_7 : decode cX5_refusalOfRow 7 = .ok (.iconst (-1), 1) := by decide +kernel
theorem dX5_refusalOfRow_8 : decode cX5_refusalOfRow 8 = .ok (.ireturn, 1) := by decide +kernel
theorem dX5_refusalOfRow_9 : decode cX5_refusalOfRow 9 = .ok (.iload_n 2, 1) := by decide +kernel
theorem dX5_refusalOfRow_10 : decode cX5_refusalOfRow 10 = .ok (.invokestatic 58, 3) := by decide +kernel
theorem dX5_refusalOfRow_13 : decode cX5_refusalOfRow 13 = .ok (.ifCond .eq 13, 3) := by decide +kernel
theorem dX5_refusalOfRow_16 : decode cX5_refusalOfRow 16 = .ok (.iload_n 3, 1) := by decide +kernel
theorem dX5_refusalOfRow_17 : decode cX5_refusalOfRow 17 = .ok (.ifCond .lt 9, 3) := by decide +kernel
theorem dX5_refusalOfRow_20 : decode cX5_refusalOfRow 20 = .ok (.iload_n 3, 1) := by decide +kernel
theorem dX5_refusalOfRow_21 : decode cX5_refusalOfRow 21 = .ok (.iload 4, 2) := by decide +kernel
theorem dX5_refusalOfRow_23 : decode cX5_refusalOfRow 23 = .ok (.if_icmp .le 6, 3) := by decide +kernel
theorem dX5_refusalOfRow_26 : decode cX5_refusalOfRow 26 = .ok (.bipush (-2), 2) := by decide +kernel
theorem dX5_refusalOfRow_28 : decode cX5_refusalOfRow 28 = .ok (.ireturn, 1) := by decide +kernel
theorem dX5_refusalOfRow_29 : decode cX5_refusalOfRow 29 = .ok (.aload_n 0, 1) := by decide +kernel
theorem dX5_refusalOfRow_30 : decode cX5_refusalOfRow 30 = .ok (.getfield 21, 3) := by decide +kernel
theorem dX5_refusalOfRow_33 : decode cX5_refusalOfRow 33 = .ok (.invokevirtual 166, 3) := by decide +kernel
theorem dX5_refusalOfRow_36 : decode cX5_refusalOfRow 36 = .ok (.ifCond .eq 7, 3) := by decide +kernel
theorem dX5_refusalOfRow_39 : decode cX5_refusalOfRow 39 = .ok (.iconst 0, 1) := by decide +kernel
theorem dX5_refusalOfRow_40 : decode cX5_refusalOfRow 40 = .ok (.goto 5, 3) := by decide +kernel
theorem dX5_refusalOfRow_43 : decode cX5_refusalOfRow 43 = .ok (.bipush (-3), 2) := by decide +kernel
theorem dX5_refusalOfRow_45 : decode cX5_refusalOfRow 45 = .ok (.ireturn, 1) := by decide +kernel
theorem dX5_takeNumbers_0 : decode cX5_takeNumbers 0 = .ok (.aload_n 0, 1) := by decide +kernel
theorem dX5_takeNumbers_1 : decode cX5_takeNumbers 1 = .ok (.getfield 12, 3) := by decide +kernel
theorem dX5_takeNumbers_4 : decode cX5_takeNumbers 4 = .ok (.iload_n 1, 1) := by decide +kernel
theorem dX5_takeNumbers_5 : decode cX5_takeNumbers 5 = .ok (.iload_n 2, 1) := by decide +kernel
theorem dX5_takeNumbers_6 : decode cX5_takeNumbers 6 = .ok (.invokevirtual 61, 3) := by decide +kernel
theorem dX5_takeNumbers_9 : decode cX5_takeNumbers 9 = .ok (.istore 6, 2) := by decide +kernel
theorem dX5_takeNumbers_11 : decode cX5_takeNumbers 11 = .ok (.iload 6, 2) := by decide +kernel
theorem dX5_takeNumbers_13 : decode cX5_takeNumbers 13 = .ok (.ifCond .ne 16, 3) := by decide +kernel
theorem dX5_takeNumbers_16 : decode cX5_takeNumbers 16 = .ok (.aload_n 0, 1) := by decide +kernel
theorem dX5_takeNumbers_17 : decode cX5_takeNumbers 17 = .ok (.getfield 12, 3) := by decide +kernel
theorem dX5_takeNumbers_20 : decode cX5_takeNumbers 20 = .ok (.iload_n 1, 1) := by decide +kernel
theorem dX5_takeNumbers_21 : decode cX5_takeNumbers 21 = .ok (.iload_n 3, 1) := by decide +kernel
theorem dX5_takeNumbers_22 : decode cX5_takeNumbers 22 = .ok (.iload 4, 2) := by decide +kernel
theorem dX5_takeNumbers_24 : decode cX5_takeNumbers 24 = .ok (.invokevirtual 65, 3) := by decide +kernel
theorem dX5_takeNumbers_27 : decode cX5_takeNumbers 27 = .ok (.istore 6, 2) := by decide +kernel
theorem dX5_takeNumbers_29 : decode cX5_takeNumbers 29 = .ok (.iload 6, 2) := by decide +kernel
theorem dX5_takeNumbers_31 : decode cX5_takeNumbers 31 = .ok (.ifCond .eq 10, 3) := by decide +kernel
theorem dX5_takeNumbers_34 : decode cX5_takeNumbers 34 = .ok (.aload_n 0, 1) := by decide +kernel
theorem dX5_takeNumbers_35 : decode cX5_takeNumbers 35 = .ok (.iload 6, 2) := by decide +kernel
theorem dX5_takeNumbers_37 : decode cX5_takeNumbers 37 = .ok (.invokevirtual 69, 3) := by decide +kernel
theorem dX5_takeNumbers_40 : decode cX5_takeNumbers 40 = .ok (.ireturn, 1) := by decide +kernel
theorem dX5_takeNumbers_41 : decode cX5_takeNumbers 41 = .ok (.aload_n 0, 1) := by decide +kernel
theorem dX5_takeNumbers_42 : decode cX5_takeNumbers 42 = .ok (.getfield 12, 3) := by decide +kernel
theorem dX5_takeNumbers_45 : decode cX5_takeNumbers 45 = .ok (.iload_n 1, 1) := by decide +kernel
theorem dX5_takeNumbers_46 : decode cX5_takeNumbers 46 = .ok (.iload_n 3, 1) := by decide +kernel
theorem dX5_takeNumbers_47 : decode cX5_takeNumbers 47 = .ok (.iload 4, 2) := by decide +kernel
theorem dX5_takeNumbers_49 : decode cX5_takeNumbers 49 = .ok (.aload_n 0, 1) := by decide +kernel
theorem dX5_takeNumbers_50 : decode cX5_takeNumbers 50 = .ok (.getfield 46, 3) := by decide +kernel
theorem dX5_takeNumbers_53 : decode cX5_takeNumbers 53 = .ok (.invokevirtual 76, 3) := by decide +kernel
theorem dX5_takeNumbers_56 : decode cX5_takeNumbers 56 = .ok (.iconst 0, 1) := by decide +kernel
theorem dX5_takeNumbers_57 : decode cX5_takeNumbers 57 = .ok (.istore 7, 2) := by decide +kernel
theorem dX5_takeNumbers_59 : decode cX5_takeNumbers 59 = .ok (.iload 7, 2) := by decide +kernel
theorem dX5_takeNumbers_61 : decode cX5_takeNumbers 61 = .ok (.iload 4, 2) := by decide +kernel
theorem dX5_takeNumbers_63 : decode cX5_takeNumbers 63 = .ok (.if_icmp .ge 33, 3) := by decide +kernel
theorem dX5_takeNumbers_66 : decode cX5_takeNumbers 66 = .ok (.aload_n 0, 1) := by decide +kernel
theorem dX5_takeNumbers_67 : decode cX5_takeNumbers 67 = .ok (.getfield 46, 3) := by decide +kernel
theorem dX5_takeNumbers_70 : decode cX5_takeNumbers 70 = .ok (.iload 7, 2) := by decide +kernel
theorem dX5_takeNumbers_72 : decode cX5_takeNumbers 72 = .ok (.iaload, 1) := by decide +kernel
theorem dX5_takeNumbers_73 : decode cX5_takeNumbers 73 = .ok (.ifCond .lt 15, 3) := by decide +kernel
theorem dX5_takeNumbers_76 : decode cX5_takeNumbers 76 = .ok (.aload_n 0, 1) := by decide +kernel
theorem dX5_takeNumbers_77 : decode cX5_takeNumbers 77 = .ok (.getfield 46, 3) := by decide +kernel
theorem dX5_takeNumbers_80 : decode cX5_takeNumbers 80 = .ok (.iload 7, 2) := by decide +kernel
theorem dX5_takeNumbers_82 : decode cX5_takeNumbers 82 = .ok (.iaload, 1) := by decide +kernel
theorem dX5_takeNumbers_83 : decode cX5_takeNumbers 83 = .ok (.iload 5, 2) := by decide +kernel
theorem dX5_takeNumbers_85 : decode cX5_takeNumbers 85 = .ok (.if_icmp .lt 5, 3) := by decide +kernel
theorem dX5_takeNumbers_88 : decode cX5_takeNumbers 88 = .ok (.iconst (-1), 1) := by decide +kernel
theorem dX5_takeNumbers_89 : decode cX5_takeNumbers 89 = .ok (.ireturn, 1) := by decide +kernel
theorem dX5_takeNumbers_90 : decode cX5_takeNumbers 90 = .ok (.iinc 7 1, 3) := by decide +kernel
theorem dX5_takeNumbers_93 : decode cX5_takeNumbers 93 = .ok (.goto (-34), 3) := by decide +kernel
theorem dX5_takeNumbers_96 : decode cX5_takeNumbers 96 = .ok (.iconst 0, 1) := by decide +kernel
theorem dX5_takeNumbers_97 : decode cX5_takeNumbers 97 = .ok (.ireturn, 1) := by decide +kernel
theorem dX5_isOfPlans_0 : decode cX5_isOfPlans 0 = .ok (.iload_n 0, 1) := by decide +kernel
theorem dX5_isOfPlans_1 : decode cX5_isOfPlans 1 = .ok (.ifCond .lt 8, 3) := by decide +kernel
theorem dX5_isOfPlans_4 : decode cX5_isOfPlans 4 = .ok (.iload_n 0, 1) := by decide +kernel
theorem dX5_isOfPlans_5 : decode cX5_isOfPlans 5 = .ok (.iconst 3, 1) := by decide +kernel
theorem dX5_isOfPlans_6 : decode cX5_isOfPlans 6 = .ok (.if_icmp .le 27, 3) := by decide +kernel
theorem dX5_isOfPlans_9 : decode cX5_isOfPlans 9 = .ok (.iload_n 0, 1) := by decide +kernel
theorem dX5_isOfPlans_10 : decode cX5_isOfPlans 10 = .ok (.bipush 10, 2) := by decide +kernel
theorem dX5_isOfPlans_12 : decode cX5_isOfPlans 12 = .ok (.if_icmp .lt 9, 3) := by decide +kernel
theorem dX5_isOfPlans_15 : decode cX5_isOfPlans 15 = .ok (.iload_n 0, 1) := by decide +kernel
theorem dX5_isOfPlans_16 : decode cX5_isOfPlans 16 = .ok (.bipush 15, 2) := by decide +kernel
theorem dX5_isOfPlans_18 : decode cX5_isOfPlans 18 = .ok (.if_icmp .le 15, 3) := by decide +kernel
theorem dX5_isOfPlans_21 : decode cX5_isOfPlans 21 = .ok (.iload_n 0, 1) := by decide +kernel
theorem dX5_isOfPlans_22 : decode cX5_isOfPlans 22 = .ok (.bipush 20, 2) := by decide +kernel
theorem dX5_isOfPlans_24 : decode cX5_isOfPlans 24 = .ok (.if_icmp .lt 13, 3) := by decide +kernel
theorem dX5_isOfPlans_27 : decode cX5_isOfPlans 27 = .ok (.iload_n 0, 1) := by decide +kernel
theorem dX5_isOfPlans_28 : decode cX5_isOfPlans 28 = .ok (.bipush 25, 2) := by decide +kernel
theorem dX5_isOfPlans_30 : decode cX5_isOfPlans 30 = .ok (.if_icmp .gt 7, 3) := by decide +kernel
theorem dX5_isOfPlans_33 : decode cX5_isOfPlans 33 = .ok (.iconst 1, 1) := by decide +kernel
theorem dX5_isOfPlans_34 : decode cX5_isOfPlans 34 = .ok (.goto 4, 3) := by decide +kernel
theorem dX5_isOfPlans_37 : decode cX5_isOfPlans 37 = .ok (.iconst 0, 1) := by decide +kernel
theorem dX5_isOfPlans_38 : decode cX5_isOfPlans 38 = .ok (.ireturn, 1) := by decide +kernel
theorem dX5_readyBehind_0 : decode cX5_readyBehind 0 = .ok (.aload_n 0, 1) := by decide +kernel
theorem dX5_readyBehind_1 : decode cX5_readyBehind 1 = .ok (.getfield 21, 3) := by decide +kernel
theorem dX5_readyBehind_4 : decode cX5_readyBehind 4 = .ok (.iload_n 1, 1) := by decide +kernel
theorem dX5_readyBehind_5 : decode cX5_readyBehind 5 = .ok (.invokevirtual 90, 3) := by decide +kernel
theorem dX5_readyBehind_8 : decode cX5_readyBehind 8 = .ok (.ifCond .eq 15, 3) := by decide +kernel
theorem dX5_readyBehind_11 : decode cX5_readyBehind 11 = .ok (.aload_n 0, 1) := by decide +kernel
theorem dX5_readyBehind_12 : decode cX5_readyBehind 12 = .ok (.getfield 35, 3) := by decide +kernel
theorem dX5_readyBehind_15 : decode cX5_readyBehind 15 = .ok (.getfield 254, 3) := by decide +kernel
theorem dX5_readyBehind_18 : decode cX5_readyBehind 18 = .ok (.iload_n 1, 1) := by decide +kernel
theorem dX5_readyBehind_19 : decode cX5_readyBehind 19 = .ok (.iaload, 1) := by decide +kernel
theorem dX5_readyBehind_20 : decode cX5_readyBehind 20 = .ok (.goto 5, 3) := by decide +kernel
theorem dX5_readyBehind_23 : decode cX5_readyBehind 23 = .ok (.bipush (-9), 2) := by decide +kernel
theorem dX5_readyBehind_25 : decode cX5_readyBehind 25 = .ok (.ireturn, 1) := by decide +kernel
theorem dX5_leastBeside_0 : decode cX5_leastBeside 0 = .ok (.aload_n 0, 1) := by decide +kernel
theorem dX5_leastBeside_1 : decode cX5_leastBeside 1 = .ok (.getfield 21, 3) := by decide +kernel
theorem dX5_leastBeside_4 : decode cX5_leastBeside 4 = .ok (.iload_n 1, 1) := by decide +kernel
theorem dX5_leastBeside_5 : decode cX5_leastBeside 5 = .ok (.invokevirtual 90, 3) := by decide +kernel
theorem dX5_leastBeside_8 : decode cX5_leastBeside 8 = .ok (.ifCond .eq 24, 3) := by decide +kernel
theorem dX5_leastBeside_11 : decode cX5_leastBeside 11 = .ok (.aload_n 0, 1) := by decide +kernel
theorem dX5_leastBeside_12 : decode cX5_leastBeside 12 = .ok (.getfield 21, 3) := by decide +kernel
theorem dX5_leastBeside_15 : decode cX5_leastBeside 15 = .ok (.iload_n 1, 1) := by decide +kernel
theorem dX5_leastBeside_16 : decode cX5_leastBeside 16 = .ok (.aload_n 0, 1) := by decide +kernel
theorem dX5_leastBeside_17 : decode cX5_leastBeside 17 = .ok (.getfield 35, 3) := by decide +kernel
theorem dX5_leastBeside_20 : decode cX5_leastBeside 20 = .ok (.getfield 141, 3) := by decide +kernel
theorem dX5_leastBeside_23 : decode cX5_leastBeside 23 = .ok (.invokevirtual 257, 3) := by decide +kernel
theorem dX5_leastBeside_26 : decode cX5_leastBeside 26 = .ok (.invokestatic 260, 3) := by decide +kernel
theorem dX5_leastBeside_29 : decode cX5_leastBeside 29 = .ok (.goto 5, 3) := by decide +kernel
theorem dX5_leastBeside_32 : decode cX5_leastBeside 32 = .ok (.bipush (-9), 2) := by decide +kernel
theorem dX5_leastBeside_34 : decode cX5_leastBeside 34 = .ok (.ireturn, 1) := by decide +kernel
theorem dX5_least_0 : decode cX5_least 0 = .ok (.iconst 0, 1) := by decide +kernel
theorem dX5_least_1 : decode cX5_least 1 = .ok (.istore_n 1, 1) := by decide +kernel
theorem dX5_least_2 : decode cX5_least 2 = .ok (.iload_n 1, 1) := by decide +kernel
theorem dX5_least_3 : decode cX5_least 3 = .ok (.bipush 6, 2) := by decide +kernel
theorem dX5_least_5 : decode cX5_least 5 = .ok (.if_icmp .ge 19, 3) := by decide +kernel
theorem dX5_least_8 : decode cX5_least 8 = .ok (.iload_n 0, 1) := by decide +kernel
theorem dX5_least_9 : decode cX5_least 9 = .ok (.iload_n 1, 1) := by decide +kernel
theorem dX5_least_10 : decode cX5_least 10 = .ok (.invokestatic 263, 3) := by decide +kernel
theorem dX5_least_13 : decode cX5_least 13 = .ok (.ifCond .eq 5, 3) := by decide +kernel
theorem dX5_least_16 : decode cX5_least 16 = .ok (.iload_n 1, 1) := by decide +kernel
theorem dX5_least_17 : decode cX5_least 17 = .ok (.ireturn, 1) := by decide +kernel
theorem dX5_least_18 : decode cX5_least 18 = .ok (.iinc 1 1, 3) := by decide +kernel
theorem dX5_least_21 : decode cX5_least 21 = .ok (.goto (-19), 3) := by decide +kernel
theorem dX5_least_24 : decode cX5_least 24 = .ok (.bipush (-9), 2) := by decide +kernel
theorem dX5_least_26 : decode cX5_least 26 = .ok (.ireturn, 1) := by decide +kernel
theorem dX5_holds_0 : decode cX5_holds 0 = .ok (.iload_n 0, 1) := by decide +kernel
theorem dX5_holds_1 : decode cX5_holds 1 = .ok (.iload_n 1, 1) := by decide +kernel
theorem dX5_holds_2 : decode cX5_holds 2 = .ok (.ishr, 1) := by decide +kernel
theorem dX5_holds_3 : decode cX5_holds 3 = .ok (.iconst 1, 1) := by decide +kernel
theorem dX5_holds_4 : decode cX5_holds 4 = .ok (.iand, 1) := by decide +kernel
theorem dX5_holds_5 : decode cX5_holds 5 = .ok (.ifCond .eq 7, 3) := by decide +kernel
theorem dX5_holds_8 : decode cX5_holds 8 = .ok (.iconst 1, 1) := by decide +kernel
theorem dX5_holds_9 : decode cX5_holds 9 = .ok (.goto 4, 3) := by decide +kernel
theorem dX5_holds_12 : decode cX5_holds 12 = .ok (.iconst 0, 1) := by decide +kernel
theorem dX5_holds_13 : decode cX5_holds 13 = .ok (.ireturn, 1) := by decide +kernel
theorem dX5_look_0 : decode cX5_look 0 = .ok (.iload_n 0, 1) := by decide +kernel
theorem dX5_look_1 : decode cX5_look 1 = .ok (.lookupswitch 37 #[(1, 33), (2, 27)], 27) := by decide +kernel
theorem dX5_look_28 : decode cX5_look 28 = .ok (.iconst 2, 1) := by decide +kernel
theorem dX5_look_29 : decode cX5_look 29 = .ok (.iload_n 1, 1) := by decide +kernel
theorem dX5_look_30 : decode cX5_look 30 = .ok (.iconst 1, 1) := by decide +kernel
theorem dX5_look_31 : decode cX5_look 31 = .ok (.iadd, 1) := by decide +kernel
theorem dX5_look_32 : decode cX5_look 32 = .ok (.imul, 1) := by decide +kernel
theorem dX5_look_33 : decode cX5_look 33 = .ok (.ireturn, 1) := by decide +kernel
theorem dX5_look_34 : decode cX5_look 34 = .ok (.iload_n 1, 1) := by decide +kernel
theorem dX5_look_35 : decode cX5_look 35 = .ok (.iconst 1, 1) := by decide +kernel
theorem dX5_look_36 : decode cX5_look 36 = .ok (.iadd, 1) := by decide +kernel
theorem dX5_look_37 : decode cX5_look 37 = .ok (.ireturn, 1) := by decide +kernel
theorem dX5_look_38 : decode cX5_look 38 = .ok (.iload_n 1, 1) := by decide +kernel
theorem dX5_look_39 : decode cX5_look 39 = .ok (.ireturn, 1) := by decide +kernel
theorem dX5_waysOfAtLeast_0 : decode cX5_waysOfAtLeast 0 = .ok (.lconst 1, 1) := by decide +kernel
theorem dX5_waysOfAtLeast_1 : decode cX5_waysOfAtLeast 1 = .ok (.lstore_n 2, 1) := by decide +kernel
theorem dX5_waysOfAtLeast_2 : decode cX5_waysOfAtLeast 2 = .ok (.lconst 0, 1) := by decide +kernel
theorem dX5_waysOfAtLeast_3 : decode cX5_waysOfAtLeast 3 = .ok (.lstore 4, 2) := by decide +kernel
theorem dX5_waysOfAtLeast_5 : decode cX5_waysOfAtLeast 5 = .ok (.iconst 0, 1) := by decide +kernel
theorem dX5_waysOfAtLeast_6 : decode cX5_waysOfAtLeast 6 = .ok (.istore 6, 2) := by decide +kernel
theorem dX5_waysOfAtLeast_8 : decode cX5_waysOfAtLeast 8 = .ok (.iload 6, 2) := by decide +kernel
theorem dX5_waysOfAtLeast_10 : decode cX5_waysOfAtLeast 10 = .ok (.iload_n 0, 1) := by decide +kernel
theorem dX5_waysOfAtLeast_11 : decode cX5_waysOfAtLeast 11 = .ok (.if_icmp .gt 35, 3) := by decide +kernel
theorem dX5_waysOfAtLeast_14 : decode cX5_waysOfAtLeast 14 = .ok (.iload 6, 2) := by decide +kernel
theorem dX5_waysOfAtLeast_16 : decode cX5_waysOfAtLeast 16 = .ok (.iload_n 1, 1) := by decide +kernel
theorem dX5_waysOfAtLeast_17 : decode cX5_waysOfAtLeast 17 = .ok (.if_icmp .lt 9, 3) := by decide +kernel
theorem dX5_waysOfAtLeast_20 : decode cX5_waysOfAtLeast 20 = .ok (.lload 4, 2) := by decide +kernel
theorem dX5_waysOfAtLeast_22 : decode cX5_waysOfAtLeast 22 = .ok (.lload_n 2, 1) := by decide +kernel
theorem dX5_waysOfAtLeast_23 : decode cX5_waysOfAtLeast 23 = .ok (.ladd, 1) := by decide +kernel
theorem dX5_waysOfAtLeast_24 : decode cX5_waysOfAtLeast 24 = .ok (.lstore 4, 2) := by decide +kernel
theorem dX5_waysOfAtLeast_26 : decode cX5_waysOfAtLeast 26 = .ok (.lload_n 2, 1) := by decide +kernel
theorem dX5_waysOfAtLeast_27 : decode cX5_waysOfAtLeast 27 = .ok (.iload_n 0, 1) := by decide +kernel
theorem dX5_waysOfAtLeast_28 : decode cX5_waysOfAtLeast 28 = .ok (.iload 6, 2) := by decide +kernel
theorem dX5_waysOfAtLeast_30 : decode cX5_waysOfAtLeast 30 = .ok (.isub, 1) := by decide +kernel
theorem dX5_waysOfAtLeast_31 : decode cX5_waysOfAtLeast 31 = .ok (.i2l, 1) := by decide +kernel
theorem dX5_waysOfAtLeast_32 : decode cX5_waysOfAtLeast 32 = .ok (.lmul, 1) := by decide +kernel
theorem dX5_waysOfAtLeast_33 : decode cX5_waysOfAtLeast 33 = .ok (.iload 6, 2) := by decide +kernel
theorem dX5_waysOfAtLeast_35 : decode cX5_waysOfAtLeast 35 = .ok (.iconst 1, 1) := by decide +kernel
theorem dX5_waysOfAtLeast_36 : decode cX5_waysOfAtLeast 36 = .ok (.iadd, 1) := by decide +kernel
theorem dX5_waysOfAtLeast_37 : decode cX5_waysOfAtLeast 37 = .ok (.i2l, 1) := by decide +kernel
theorem dX5_waysOfAtLeast_38 : decode cX5_waysOfAtLeast 38 = .ok (.ldiv, 1) := by decide +kernel
theorem dX5_waysOfAtLeast_39 : decode cX5_waysOfAtLeast 39 = .ok (.lstore_n 2, 1) := by decide +kernel
theorem dX5_waysOfAtLeast_40 : decode cX5_waysOfAtLeast 40 = .ok (.iinc 6 1, 3) := by decide +kernel
theorem dX5_waysOfAtLeast_43 : decode cX5_waysOfAtLeast 43 = .ok (.goto (-35), 3) := by decide +kernel
theorem dX5_waysOfAtLeast_46 : decode cX5_waysOfAtLeast 46 = .ok (.lload 4, 2) := by decide +kernel
theorem dX5_waysOfAtLeast_48 : decode cX5_waysOfAtLeast 48 = .ok (.lreturn, 1) := by decide +kernel
theorem dX5_leave_0 : decode cX5_leave 0 = .ok (.aload_n 0, 1) := by decide +kernel
theorem dX5_leave_1 : decode cX5_leave 1 = .ok (.bipush 31, 2) := by decide +kernel
theorem dX5_leave_3 : decode cX5_leave 3 = .ok (.aload_n 0, 1) := by decide +kernel
theorem dX5_leave_4 : decode cX5_leave 4 = .ok (.getfield 248, 3) := by decide +kernel
theorem dX5_leave_7 : decode cX5_leave 7 = .ok (.imul, 1) := by decide +kernel
theorem dX5_leave_8 : decode cX5_leave 8 = .ok (.iload_n 1, 1) := by decide +kernel
theorem dX5_leave_9 : decode cX5_leave 9 = .ok (.iadd, 1) := by decide +kernel
theorem dX5_leave_10 : decode cX5_leave 10 = .ok (.putfield 248, 3) := by decide +kernel
theorem dX5_leave_13 : decode cX5_leave 13 = .ok (.return_, 1) := by decide +kernel
theorem dX5_tellPicking_0 : decode cX5_tellPicking 0 = .ok (.aload_n 0, 1) := by decide +kernel
theorem dX5_tellPicking_1 : decode cX5_tellPicking 1 = .ok (.iconst 1, 1) := by decide +kernel
theorem dX5_tellPicking_2 : decode cX5_tellPicking 2 = .ok (.invokevirtual 266, 3) := by decide +kernel
theorem dX5_tellPicking_5 : decode cX5_tellPicking 5 = .ok (.aload_n 0, 1) := by decide +kernel
theorem dX5_tellPicking_6 : decode cX5_tellPicking 6 = .ok (.getfield 21, 3) := by decide +kernel
theorem dX5_tellPicking_9 : decode cX5_tellPicking 9 = .ok (.getfield 99, 3) := by decide +kernel
theorem dX5_tellPicking_12 : decode cX5_tellPicking 12 = .ok (.iload_n 1, 1) := by decide +kernel
theorem dX5_tellPicking_13 : decode cX5_tellPicking 13 = .ok (.iaload, 1) := by decide +kernel
theorem dX5_tellPicking_14 : decode cX5_tellPicking 14 = .ok (.ireturn, 1) := by decide +kernel
theorem dX5_tellSure_0 : decode cX5_tellSure 0 = .ok (.aload_n 0, 1) := by decide +kernel
theorem dX5_tellSure_1 : decode cX5_tellSure 1 = .ok (.iconst 2, 1) := by decide +kernel
theorem dX5_tellSure_2 : decode cX5_tellSure 2 = .ok (.invokevirtual 266, 3) := by decide +kernel
theorem dX5_tellSure_5 : decode cX5_tellSure 5 = .ok (.aload_n 0, 1) := by decide +kernel
theorem dX5_tellSure_6 : decode cX5_tellSure 6 = .ok (.iload_n 1, 1) := by decide +kernel
theorem dX5_tellSure_7 : decode cX5_tellSure 7 = .ok (.invokevirtual 239, 3) := by decide +kernel
theorem dX5_tellSure_10 : decode cX5_tellSure 10 = .ok (.bipush 100, 2) := by decide +kernel
theorem dX5_tellSure_12 : decode cX5_tellSure 12 = .ok (.iadd, 1) := by decide +kernel
theorem dX5_tellSure_13 : decode cX5_tellSure 13 = .ok (.ireturn, 1) := by decide +kernel
theorem dX5_tellDoubtful_0 : decode cX5_tellDoubtful 0 = .ok (.aload_n 0, 1) := by decide +kernel
theorem dX5_tellDoubtful_1 : decode cX5_tellDoubtful 1 = .ok (.iconst 3, 1) := by decide +kernel
theorem dX5_tellDoubtful_2 : decode cX5_tellDoubtful 2 = .ok (.invokevirtual 266, 3) := by decide +kernel
theorem dX5_tellDoubtful_5 : decode cX5_tellDoubtful 5 = .ok (.aload_n 0, 1) := by decide +kernel
theorem dX5_tellDoubtful_6 : decode cX5_tellDoubtful 6 = .ok (.iload_n 1, 1) := by decide +kernel
theorem dX5_tellDoubtful_7 : decode cX5_tellDoubtful 7 = .ok (.invokevirtual 236, 3) := by decide +kernel
theorem dX5_tellDoubtful_10 : decode cX5_tellDoubtful 10 = .ok (.aload_n 0, 1) := by decide +kernel
theorem dX5_tellDoubtful_11 : decode cX5_tellDoubtful 11 = .ok (.iload_n 1, 1) := by decide +kernel
theorem dX5_tellDoubtful_12 : decode cX5_tellDoubtful 12 = .ok (.invokevirtual 239, 3) := by decide +kernel
theorem dX5_tellDoubtful_15 : decode cX5_tellDoubtful 15 = .ok (.iadd, 1) := by decide +kernel
theorem dX5_tellDoubtful_16 : decode cX5_tellDoubtful 16 = .ok (.ireturn, 1) := by decide +kernel
theorem dX5_dropByLent_0 : decode cX5_dropByLent 0 = .ok (.aload_n 0, 1) := by decide +kernel
theorem dX5_dropByLent_1 : decode cX5_dropByLent 1 = .ok (.iconst 4, 1) := by decide +kernel
theorem dX5_dropByLent_2 : decode cX5_dropByLent 2 = .ok (.invokevirtual 266, 3) := by decide +kernel
theorem dX5_dropByLent_5 : decode cX5_dropByLent 5 = .ok (.iload_n 1, 1) := by decide +kernel
theorem dX5_dropByLent_6 : decode cX5_dropByLent 6 = .ok (.ireturn, 1) := by decide +kernel
theorem dX5_dropByOwn_0 : decode cX5_dropByOwn 0 = .ok (.aload_n 0, 1) := by decide +kernel
theorem dX5_dropByOwn_1 : decode cX5_dropByOwn 1 = .ok (.iconst 5, 1) := by decide +kernel
theorem dX5_dropByOwn_2 : decode cX5_dropByOwn 2 = .ok (.invokevirtual 266, 3) := by decide +kernel
theorem dX5_dropByOwn_5 : decode cX5_dropByOwn 5 = .ok (.bipush 70, 2) := by decide +kernel
theorem dX5_dropByOwn_7 : decode cX5_dropByOwn 7 = .ok (.ireturn, 1) := by decide +kernel
theorem dX6_init_0 : decode cX6_init 0 = .ok (.aload_n 0, 1) := by decide +kernel
theorem dX6_init_1 : decode cX6_init 1 = .ok (.invokespecial 1, 3) := by decide +kernel
theorem dX6_init_4 : decode cX6_init 4 = .ok (.aload_n 0, 1) := by decide +kernel
theorem dX6_init_5 : decode cX6_init 5 = .ok (.bipush 6, 2) := by decide +kernel
theorem dX6_init_7 : decode cX6_init 7 = .ok (.newarray .int, 2) := by decide +kernel
theorem dX6_init_9 : decode cX6_init 9 = .ok (.putfield 7, 3) := by decide +kernel
theorem dX6_init_12 : decode cX6_init 12 = .ok (.aload_n 0, 1) := by decide +kernel
theorem dX6_init_13 : decode cX6_init 13 = .ok (.bipush 6, 2) := by decide +kernel
theorem dX6_init_15 : decode cX6_init 15 = .ok (.newarray .int, 2) := by decide +kernel
theorem dX6_init_17 : decode cX6_init 17 = .ok (.putfield 13, 3) := by decide +kernel
theorem dX6_init_20 : decode cX6_init 20 = .ok (.aload_n 0, 1) := by decide +kernel
theorem dX6_init_21 : decode cX6_init 21 = .ok (.bipush 6, 2) := by decide +kernel
theorem dX6_init_23 : decode cX6_init 23 = .ok (.newarray .int, 2) := by decide +kernel
theorem dX6_init_25 : decode cX6_init 25 = .ok (.putfield 16, 3) := by decide +kernel
theorem dX6_init_28 : decode cX6_init 28 = .ok (.aload_n 0, 1) := by decide +kernel
theorem dX6_init_29 : decode cX6_init 29 = .ok (.bipush 6, 2) := by decide +kernel
theorem dX6_init_31 : decode cX6_init 31 = .ok (.newarray .int, 2) := by decide +kernel
theorem dX6_init_33 : decode cX6_init 33 = .ok (.putfield 19, 3) := by decide +kernel
theorem dX6_init_36 : decode cX6_init 36 = .ok (.aload_n 0, 1) := by decide +kernel
theorem dX6_init_37 : decode cX6_init 37 = .ok (.iconst 5, 1) := by decide +kernel
theorem dX6_init_38 : decode cX6_init 38 = .ok (.newarray .int, 2) := by decide +kernel
theorem dX6_init_40 : decode cX6_init 40 = .ok (.putfield 22, 3) := by decide +kernel
theorem dX6_init_43 : decode cX6_init 43 = .ok (.aload_n 0, 1) := by decide +kernel
theorem dX6_init_44 : decode cX6_init 44 = .ok (.bipush 6, 2) := by decide +kernel
theorem dX6_init_46 : decode cX6_init 46 = .ok (.newarray .int, 2) := by decide +kernel
theorem dX6_init_48 : decode cX6_init 48 = .ok (.putfield 25, 3) := by decide +kernel
theorem dX6_init_51 : decode cX6_init 51 = .ok (.aload_n 0, 1) := by decide +kernel
theorem dX6_init_52 : decode cX6_init 52 = .ok (.bipush 6, 2) := by decide +kernel
theorem dX6_init_54 : decode cX6_init 54 = .ok (.newarray .int, 2) := by decide +kernel
theorem dX6_init_56 : decode cX6_init 56 = .ok (.putfield 28, 3) := by decide +kernel
theorem dX6_init_59 : decode cX6_init 59 = .ok (.aload_n 0, 1) := by decide +kernel
theorem dX6_init_60 : decode cX6_init 60 = .ok (.bipush 6, 2) := by decide +kernel
theorem dX6_init_62 : decode cX6_init 62 = .ok (.newarray .int, 2) := by decide +kernel
theorem dX6_init_64 : decode cX6_init 64 = .ok (.putfield 31, 3) := by decide +kernel
theorem dX6_init_67 : decode cX6_init 67 = .ok (.aload_n 0, 1) := by decide +kernel
theorem dX6_init_68 : decode cX6_init 68 = .ok (.bipush 6, 2) := by decide +kernel
theorem dX6_init_70 : decode cX6_init 70 = .ok (.newarray .int, 2) := by decide +kernel
theorem dX6_init_72 : decode cX6_init 72 = .ok (.putfield 34, 3) := by decide +kernel
theorem dX6_init_75 : decode cX6_init 75 = .ok (.aload_n 0, 1) := by decide +kernel
theorem dX6_init_76 : decode cX6_init 76 = .ok (.iconst 5, 1) := by decide +kernel
theorem dX6_init_77 : decode cX6_init 77 = .ok (.newarray .int, 2) := by decide +kernel
theorem dX6_init_79 : decode cX6_init 79 = .ok (.putfield 37, 3) := by decide +kernel
theorem dX6_init_82 : decode cX6_init 82 = .ok (.aload_n 0, 1) := by decide +kernel
theorem dX6_init_83 : decode cX6_init 83 = .ok (.bipush 6, 2) := by decide +kernel
theorem dX6_init_85 : decode cX6_init 85 = .ok (.newarray .int, 2) := by decide +kernel
theorem dX6_init_87 : decode cX6_init 87 = .ok (.putfield 40, 3) := by decide +kernel
theorem dX6_init_90 : decode cX6_init 90 = .ok (.aload_n 0, 1) := by decide +kernel
theorem dX6_init_91 : decode cX6_init 91 = .ok (.bipush 6, 2) := by decide +kernel
theorem dX6_init_93 : decode cX6_init 93 = .ok (.newarray .int, 2) := by decide +kernel
theorem dX6_init_95 : decode cX6_init 95 = .ok (.putfield 43, 3) := by decide +kernel
theorem dX6_init_98 : decode cX6_init 98 = .ok (.aload_n 0, 1) := by decide +kernel
theorem dX6_init_99 : decode cX6_init 99 = .ok (.bipush 6, 2) := by decide +kernel
theorem dX6_init_101 : decode cX6_init 101 = .ok (.newarray .int, 2) := by decide +kernel
theorem dX6_init_103 : decode cX6_init 103 = .ok (.putfield 46, 3) := by decide +kernel
theorem dX6_init_106 : decode cX6_init 106 = .ok (.aload_n 0, 1) := by decide +kernel
theorem dX6_init_107 : decode cX6_init 107 = .ok (.iconst 5, 1) := by decide +kernel
theorem dX6_init_108 : decode cX6_init 108 = .ok (.newarray .int, 2) := by decide +kernel
theorem dX6_init_110 : decode cX6_init 110 = .ok (.putfield 49, 3) := by decide +kernel
theorem dX6_init_113 : decode cX6_init 113 = .ok (.aload_n 0, 1) := by decide +kernel
theorem dX6_init_114 : decode cX6_init 114 = .ok (.bipush 64, 2) := by decide +kernel
theorem dX6_init_116 : decode cX6_init 116 = .ok (.newarray .int, 2) := by decide +kernel
theorem dX6_init_118 : decode cX6_init 118 = .ok (.putfield 52, 3) := by decide +kernel
theorem dX6_init_121 : decode cX6_init 121 = .ok (.aload_n 0, 1) := by decide +kernel
theorem dX6_init_122 : decode cX6_init 122 = .ok (.bipush 64, 2) := by decide +kernel
theorem dX6_init_124 : decode cX6_init 124 = .ok (.newarray .int, 2) := by decide +kernel
theorem dX6_init_126 : decode cX6_init 126 = .ok (.putfield 55, 3) := by decide +kernel
theorem dX6_init_129 : decode cX6_init 129 = .ok (.aload_n 0, 1) := by decide +kernel
theorem dX6_init_130 : decode cX6_init 130 = .ok (.bipush 8, 2) := by decide +kernel
theorem dX6_init_132 : decode cX6_init 132 = .ok (.newarray .int, 2) := by decide +kernel
theorem dX6_init_134 : decode cX6_init 134 = .ok (.putfield 58, 3) := by decide +kernel
theorem dX6_init_137 : decode cX6_init 137 = .ok (.aload_n 0, 1) := by decide +kernel
theorem dX6_init_138 : decode cX6_init 138 = .ok (.bipush 8, 2) := by decide +kernel
theorem dX6_init_140 : decode cX6_init 140 = .ok (.newarray .int, 2) := by decide +kernel
theorem dX6_init_142 : decode cX6_init 142 = .ok (.putfield 61, 3) := by decide +kernel
theorem dX6_init_145 : decode cX6_init 145 = .ok (.aload_n 0, 1) := by decide +kernel
theorem dX6_init_146 : decode cX6_init 146 = .ok (.iconst 4, 1) := by decide +kernel
theorem dX6_init_147 : decode cX6_init 147 = .ok (.newarray .int, 2) := by decide +kernel
theorem dX6_init_149 : decode cX6_init 149 = .ok (.putfield 64, 3) := by decide +kernel
theorem dX6_init_152 : decode cX6_init 152 = .ok (.aload_n 0, 1) := by decide +kernel
theorem dX6_init_153 : decode cX6_init 153 = .ok (.iconst 4, 1) := by decide +kernel
theorem dX6_init_154 : decode cX6_init 154 = .ok (.newarray .int, 2) := by decide +kernel
theorem dX6_init_156 : decode cX6_init 156 = .ok (.putfield 67, 3) := by decide +kernel
theorem dX6_init_159 : decode cX6_init 159 = .ok (.aload_n 0, 1) := by decide +kernel
theorem dX6_init_160 : decode cX6_init 160 = .ok (.sipush 240, 3) := by decide +kernel
theorem dX6_init_163 : decode cX6_init 163 = .ok (.newarray .int, 2) := by decide +kernel
theorem dX6_init_165 : decode cX6_init 165 = .ok (.putfield 70, 3) := by decide +kernel
theorem dX6_init_168 : decode cX6_init 168 = .ok (.aload_n 0, 1) := by decide +kernel
theorem dX6_init_169 : decode cX6_init 169 = .ok (.bipush 60, 2) := by decide +kernel
theorem dX6_init_171 : decode cX6_init 171 = .ok (.newarray .int, 2) := by decide +kernel
theorem dX6_init_173 : decode cX6_init 173 = .ok (.putfield 73, 3) := by decide +kernel
theorem dX6_init_176 : decode cX6_init 176 = .ok (.iconst 0, 1) := by decide +kernel
theorem dX6_init_177 : decode cX6_init 177 = .ok (.istore_n 1, 1) := by decide +kernel
theorem dX6_init_178 : decode cX6_init 178 = .ok (.iload_n 1, 1) := by decide +kernel
theorem dX6_init_179 : decode cX6_init 179 = .ok (.iconst 4, 1) := by decide +kernel
theorem dX6_init_180 : decode cX6_init 180 = .ok (.if_icmp .ge 16, 3) := by decide +kernel
theorem dX6_init_183 : decode cX6_init 183 = .ok (.aload_n 0, 1) := by decide +kernel
theorem dX6_init_184 : decode cX6_init 184 = .ok (.getfield 64, 3) := by decide +kernel
theorem dX6_init_187 : decode cX6_init 187 = .ok (.iload_n 1, 1) := by decide +kernel
theorem dX6_init_188 : decode cX6_init 188 = .ok (.iconst (-1), 1) := by decide +kernel
theorem dX6_init_189 : decode cX6_init 189 = .ok (.iastore, 1) := by decide +kernel
theorem dX6_init_190 : decode cX6_init 190 = .ok (.iinc 1 1, 3) := by decide +kernel
theorem dX6_init_193 : decode cX6_init 193 = .ok (.goto (-15), 3) := by decide +kernel
theorem dX6_init_196 : decode cX6_init 196 = .ok (.return_, 1) := by decide +kernel
theorem dX6_in_0 : decode cX6_in 0 = .ok (.lload_n 0, 1) := by decide +kernel
theorem dX6_in_1 : decode cX6_in 1 = .ok (.lload_n 2, 1) := by decide +kernel
theorem dX6_in_2 : decode cX6_in 2 = .ok (.lcmp, 1) := by decide +kernel
theorem dX6_in_3 : decode cX6_in 3 = .ok (.ifCond .lt 14, 3) := by decide +kernel
theorem dX6_in_6 : decode cX6_in 6 = .ok (.lload_n 0, 1) := by decide +kernel
theorem dX6_in_7 : decode cX6_in 7 = .ok (.lload 4, 2) := by decide +kernel
theorem dX6_in_9 : decode cX6_in 9 = .ok (.lcmp, 1) := by decide +kernel
theorem dX6_in_10 : decode cX6_in 10 = .ok (.ifCond .gt 7, 3) := by decide +kernel
theorem dX6_in_13 : decode cX6_in 13 = .ok (.iconst 1, 1) := by decide +kernel
theorem dX6_in_14 : decode cX6_in 14 = .ok (.goto 4, 3) := by decide +kernel
theorem dX6_in_17 : decode cX6_in 17 = .ok (.iconst 0, 1) := by decide +kernel
theorem dX6_in_18 : decode cX6_in 18 = .ok (.ireturn, 1) := by decide +kernel
theorem dX6_lost_0 : decode cX6_lost 0 = .ok (.ldc2_w 76, 3) := by decide +kernel
theorem dX6_lost_3 : decode cX6_lost 3 = .ok (.lreturn, 1) := by decide +kernel
theorem dX6_isIn_0 : decode cX6_isIn 0 = .ok (.iload_n 0, 1) := by decide +kernel
theorem dX6_isIn_1 : decode cX6_isIn 1 = .ok (.iload_n 1, 1) := by decide +kernel
theorem dX6_isIn_2 : decode cX6_isIn 2 = .ok (.ishr, 1) := by decide +kernel
theorem dX6_isIn_3 : decode cX6_isIn 3 = .ok (.iconst 1, 1) := by decide +kernel
theorem dX6_isIn_4 : decode cX6_isIn 4 = .ok (.iand, 1) := by decide +kernel
theorem dX6_isIn_5 : decode cX6_isIn 5 = .ok (.iconst 1, 1) := by decide +kernel
theorem dX6_isIn_6 : decode cX6_isIn 6 = .ok (.if_icmp .ne 7, 3) := by decide +kernel
theorem dX6_isIn_9 : decode cX6_isIn 9 = .ok (.iconst 1, 1) := by decide +kernel
theorem dX6_isIn_10 : decode cX6_isIn 10 = .ok (.goto 4, 3) := by decide +kernel
theorem dX6_isIn_13 : decode cX6_isIn 13 = .ok (.iconst 0, 1) := by decide +kernel
theorem dX6_isIn_14 : decode cX6_isIn 14 = .ok (.ireturn, 1) := by decide +kernel
theorem dX6_share_0 : decode cX6_share 0 = .ok (.lload_n 0, 1) := by decide +kernel
theorem dX6_share_1 : decode cX6_share 1 = .ok (.lstore 5, 2) := by decide +kernel
theorem dX6_share_3 : decode cX6_share 3 = .ok (.lload_n 2, 1) := by decide +kernel
theorem dX6_share_4 : decode cX6_share 4 = .ok (.lstore 7, 2) := by decide +kernel
theorem dX6_share_6 : decode cX6_share 6 = .ok (.lload 7, 2) := by decide +kernel
theorem dX6_share_8 : decode cX6_share 8 = .ok (.lconst 0, 1) := by decide +kernel
theorem dX6_share_9 : decode cX6_share 9 = .ok (.lcmp, 1) := by decide +kernel
theorem dX6_share_10 : decode cX6_share 10 = .ok (.ifCond .eq 21, 3) := by decide +kernel
theorem dX6_share_13 : decode cX6_share 13 = .ok (.lload 5, 2) := by decide +kernel
theorem dX6_share_15 : decode cX6_share 15 = .ok (.lload 7, 2) := by decide +kernel
theorem dX6_share_17 : decode cX6_share 17 = .ok (.lrem, 1) := by decide +kernel
theorem dX6_share_18 : decode cX6_share 18 = .ok (.lstore 9, 2) := by decide +kernel
theorem dX6_share_20 : decode cX6_share 20 = .ok (.lload 7, 2) := by decide +kernel
theorem dX6_share_22 : decode cX6_share 22 = .ok (.lstore 5, 2) := by decide +kernel
theorem dX6_share_24 : decode cX6_share 24 = .ok (.lload 9, 2) := by decide +kernel
theorem dX6_share_26 : decode cX6_share 26 = .ok (.lstore 7, 2) := by decide +kernel
theorem dX6_share_28 : decode cX6_share 28 = .ok (.goto (-22), 3) := by decide +kernel
theorem dX6_share_31 : decode cX6_share 31 = .ok (.iload 4, 2) := by decide +kernel
theorem dX6_share_33 : decode cX6_share 33 = .ok (.ifCond .ne 7, 3) := by decide +kernel
theorem dX6_share_36 : decode cX6_share 36 = .ok (.lload_n 0, 1) := by decide +kernel
theorem dX6_share_37 : decode cX6_share 37 = .ok (.goto 4, 3) := by decide +kernel
theorem dX6_share_40 : decode cX6_share 40 = .ok (.lload_n 2, 1) := by decide +kernel
theorem dX6_share_41 : decode cX6_share 41 = .ok (.lload 5, 2) := by decide +kernel
theorem dX6_share_43 : decode cX6_share 43 = .ok (.ldiv, 1) := by decide +kernel
theorem dX6_share_44 : decode cX6_share 44 = .ok (.lreturn, 1) := by decide +kernel
theorem dX6_refused_0 : decode cX6_refused 0 = .ok (.aload_n 0, 1) := by decide +kernel
theorem dX6_refused_1 : decode cX6_refused 1 = .ok (.iconst 0, 1) := by decide +kernel
theorem dX6_refused_2 : decode cX6_refused 2 = .ok (.putfield 78, 3) := by decide +kernel
theorem dX6_refused_5 : decode cX6_refused 5 = .ok (.iload_n 1, 1) := by decide +kernel
theorem dX6_refused_6 : decode cX6_refused 6 = .ok (.ireturn, 1) := by decide +kernel
theorem dX6_failed_0 : decode cX6_failed 0 = .ok (.aload_n 0, 1) := by decide +kernel
theorem dX6_failed_1 : decode cX6_failed 1 = .ok (.iload_n 1, 1) := by decide +kernel
theorem dX6_failed_2 : decode cX6_failed 2 = .ok (.putfield 78, 3) := by decide +kernel
theorem dX6_failed_5 : decode cX6_failed 5 = .ok (.bipush (-10), 2) := by decide +kernel
theorem dX6_failed_7 : decode cX6_failed 7 = .ok (.iload_n 1, 1) := by decide +kernel
theorem dX6_failed_8 : decode cX6_failed 8 = .ok (.isub, 1) := by decide +kernel
theorem dX6_failed_9 : decode cX6_failed 9 = .ok (.ireturn, 1) := by decide +kernel
theorem dX6_failedLong_0 : decode cX6_failedLong 0 = .ok (.aload_n 0, 1) := by decide +kernel
theorem dX6_failedLong_1 : decode cX6_failedLong 1 = .ok (.iload_n 1, 1) := by decide +kernel
theorem dX6_failedLong_2 : decode cX6_failedLong 2 = .ok (.putfield 78, 3) := by decide +kernel
theorem dX6_failedLong_5 : decode cX6_failedLong 5 = .ok (.invokestatic 82, 3) := by decide +kernel
theorem dX6_failedLong_8 : decode cX6_failedLong 8 = .ok (.lreturn, 1) := by decide +kernel
theorem dX6_noSort_0 : decode cX6_noSort 0 = .ok (.iload_n 1, 1) := by decide +kernel
theorem dX6_noSort_1 : decode cX6_noSort 1 = .ok (.i2l, 1) := by decide +kernel
theorem dX6_noSort_2 : decode cX6_noSort 2 = .ok (.lconst 0, 1) := by decide +kernel
theorem dX6_noSort_3 : decode cX6_noSort 3 = .ok (.aload_n 0, 1) := by decide +kernel
theorem dX6_noSort_4 : decode cX6_noSort 4 = .ok (.getfield 86, 3) := by decide +kernel
theorem dX6_noSort_7 : decode cX6_noSort 7 = .ok (.i2l, 1) := by decide +kernel
theorem dX6_noSort_8 : decode cX6_noSort 8 = .ok (.lconst 1, 1) := by decide +kernel
theorem dX6_noSort_9 : decode cX6_noSort 9 = .ok (.lsub, 1) := by decide +kernel
theorem dX6_noSort_10 : decode cX6_noSort 10 = .ok (.invokestatic 89, 3) := by decide +kernel
theorem dX6_noSort_13 : decode cX6_noSort 13 = .ok (.ifCond .ne 7, 3) := by decide +kernel
theorem dX6_noSort_16 : decode cX6_noSort 16 = .ok (.iconst 1, 1) := by decide +kernel
theorem dX6_noSort_17 : decode cX6_noSort 17 = .ok (.goto 4, 3) := by decide +kernel
theorem dX6_noSort_20 : decode cX6_noSort 20 = .ok (.iconst 0, 1) := by decide +kernel
theorem dX6_noSort_21 : decode cX6_noSort 21 = .ok (.ireturn, 1) := by decide +kernel
theorem dX6_noSign_0 : decode cX6_noSign 0 = .ok (.iload_n 1, 1) := by decide +kernel
theorem dX6_noSign_1 : decode cX6_noSign 1 = .ok (.i2l, 1) := by decide +kernel
theorem dX6_noSign_2 : decode cX6_noSign 2 = .ok (.lconst 0, 1) := by decide +kernel
theorem dX6_noSign_3 : decode cX6_noSign 3 = .ok (.aload_n 0, 1) := by decide +kernel
theorem dX6_noSign_4 : decode cX6_noSign 4 = .ok (.getfield 93, 3) := by decide +kernel
theorem dX6_noSign_7 : decode cX6_noSign 7 = .ok (.i2l, 1) := by decide +kernel
theorem dX6_noSign_8 : decode cX6_noSign 8 = .ok (.lconst 1, 1) := by decide +kernel
theorem dX6_noSign_9 : decode cX6_noSign 9 = .ok (.lsub, 1) := by decide +kernel
theorem dX6_noSign_10 : decode cX6_noSign 10 = .ok (.invokestatic 89, 3) := by decide +kernel
theorem dX6_noSign_13 : decode cX6_noSign 13 = .ok (.ifCond .ne 7, 3) := by decide +kernel
theorem dX6_noSign_16 : decode cX6_noSign 16 = .ok (.iconst 1, 1) := by decide +kernel
theorem dX6_noSign_17 : decode cX6_noSign 17 = .ok (.goto 4, 3) := by decide +kernel
theorem dX6_noSign_20 : decode cX6_noSign 20 = .ok (.iconst 0, 1) := by decide +kernel
theorem dX6_noSign_21 : decode cX6_noSign 21 = .ok (.ireturn, 1) := by decide +kernel
theorem dX6_all_0 : decode cX6_all 0 = .ok (.iconst 1, 1) := by decide +kernel
theorem dX6_all_1 : decode cX6_all 1 = .ok (.aload_n 0, 1) := by decide +kernel
theorem dX6_all_2 : decode cX6_all 2 = .ok (.getfield 86, 3) := by decide +kernel
theorem dX6_all_5 : decode cX6_all 5 = .ok (.ishl, 1) := by decide +kernel
theorem dX6_all_6 : decode cX6_all 6 = .ok (.iconst 1, 1) := by decide +kernel
theorem dX6_all_7 : decode cX6_all 7 = .ok (.isub, 1) := by decide +kernel
theorem dX6_all_8 : decode cX6_all 8 = .ok (.ireturn, 1) := by decide +kernel
theorem dX6_codeAt_0 : decode cX6_codeAt 0 = .ok (.aload_n 0, 1) := by decide +kernel
theorem dX6_codeAt_1 : decode cX6_codeAt 1 = .ok (.getfield 96, 3) := by decide +kernel
theorem dX6_codeAt_4 : decode cX6_codeAt 4 = .ok (.iload_n 2, 1) := by decide +kernel
theorem dX6_codeAt_5 : decode cX6_codeAt 5 = .ok (.if_icmp .ge 17, 3) := by decide +kernel
theorem dX6_codeAt_8 : decode cX6_codeAt 8 = .ok (.aload_n 0, 1) := by decide +kernel
theorem dX6_codeAt_9 : decode cX6_codeAt 9 = .ok (.getfield 70, 3) := by decide +kernel
theorem dX6_codeAt_12 : decode cX6_codeAt 12 = .ok (.iload_n 1, 1) := by decide +kernel
theorem dX6_codeAt_13 : decode cX6_codeAt 13 = .ok (.aload_n 0, 1) := by decide +kernel
theorem dX6_codeAt_14 : decode cX6_codeAt 14 = .ok (.getfield 96, 3) := by decide +kernel
theorem dX6_codeAt_17 : decode cX6_codeAt 17 = .ok (.iadd, 1) := by decide +kernel
theorem dX6_codeAt_18 : decode cX6_codeAt 18 = .ok (.iaload, 1) := by decide +kernel
theorem dX6_codeAt_19 : decode cX6_codeAt 19 = .ok (.goto 5, 3) := by decide +kernel
theorem dX6_codeAt_22 : decode cX6_codeAt 22 = .ok (.bipush (-9), 2) := by decide +kernel
theorem dX6_codeAt_24 : decode cX6_codeAt 24 = .ok (.ireturn, 1) := by decide +kernel
theorem dX6_figure_0 : decode cX6_figure 0 = .ok (.aload_n 0, 1) := by decide +kernel
theorem dX6_figure_1 : decode cX6_figure 1 = .ok (.iload_n 1, 1) := by decide +kernel
theorem dX6_figure_2 : decode cX6_figure 2 = .ok (.iload_n 2, 1) := by decide +kernel
theorem dX6_figure_3 : decode cX6_figure 3 = .ok (.invokevirtual 99, 3) := by decide +kernel
theorem dX6_figure_6 : decode cX6_figure 6 = .ok (.bipush 48, 2) := by decide +kernel
theorem dX6_figure_8 : decode cX6_figure 8 = .ok (.isub, 1) := by decide +kernel
theorem dX6_figure_9 : decode cX6_figure 9 = .ok (.istore 5, 2) := by decide +kernel
theorem dX6_figure_11 : decode cX6_figure 11 = .ok (.iload 5, 2) := by decide +kernel
theorem dX6_figure_13 : decode cX6_figure 13 = .ok (.i2l, 1) := by decide +kernel
theorem dX6_figure_14 : decode cX6_figure 14 = .ok (.iload_n 3, 1) := by decide +kernel
theorem dX6_figure_15 : decode cX6_figure 15 = .ok (.i2l, 1) := by decide +kernel
theorem dX6_figure_16 : decode cX6_figure 16 = .ok (.iload 4, 2) := by decide +kernel
theorem dX6_figure_18 : decode cX6_figure 18 = .ok (.i2l, 1) := by decide +kernel
theorem dX6_figure_19 : decode cX6_figure 19 = .ok (.invokestatic 89, 3) := by decide +kernel
theorem dX6_figure_22 : decode cX6_figure 22 = .ok (.istore 6, 2) := by decide +kernel
theorem dX6_figure_24 : decode cX6_figure 24 = .ok (.aload_n 0, 1) := by decide +kernel
theorem dX6_figure_25 : decode cX6_figure 25 = .ok (.dup, 1) := by decide +kernel
theorem dX6_figure_26 : decode cX6_figure 26 = .ok (.getfield 96, 3) := by decide +kernel
theorem dX6_figure_29 : decode cX6_figure 29 = .ok (.iload 6, 2) := by decide +kernel
theorem dX6_figure_31 : decode cX6_figure 31 = .ok (.ifCond .eq 7, 3) := by decide +kernel
theorem dX6_figure_34 : decode cX6_figure 34 = .ok (.iconst 1, 1) := by decide +kernel
theorem dX6_figure_35 : decode cX6_figure 35 = .ok (.goto 4, 3) := by decide +kernel
theorem dX6_figure_38 : decode cX6_figure 38 = .ok (.iconst 0, 1) := by decide +kernel
theorem dX6_figure_39 : decode cX6_figure 39 = .ok (.iadd, 1) := by decide +kernel
theorem dX6_figure_40 : decode cX6_figure 40 = .ok (.putfield 96, 3) := by decide +kernel
theorem dX6_figure_43 : decode cX6_figure 43 = .ok (.iload 6, 2) := by decide +kernel
theorem dX6_figure_45 : decode cX6_figure 45 = .ok (.ifCond .eq 8, 3) := by decide +kernel
theorem dX6_figure_48 : decode cX6_figure 48 = .ok (.iload 5, 2) := by decide +kernel
theorem dX6_figure_50 : decode cX6_figure 50 = .ok (.goto 5, 3) := by decide +kernel
theorem dX6_figure_53 : decode cX6_figure 53 = .ok (.bipush (-9), 2) := by decide +kernel
theorem dX6_figure_55 : decode cX6_figure 55 = .ok (.ireturn, 1) := by decide +kernel
theorem dX6_readsSort_0 : decode cX6_readsSort 0 = .ok (.aload_n 0, 1) := by decide +kernel
theorem dX6_readsSort_1 : decode cX6_readsSort 1 = .ok (.getfield 103, 3) := by decide +kernel
theorem dX6_readsSort_4 : decode cX6_readsSort 4 = .ok (.bipush 6, 2) := by decide +kernel
theorem dX6_readsSort_6 : decode cX6_readsSort 6 = .ok (.if_icmp .eq 14, 3) := by decide +kernel
theorem dX6_readsSort_9 : decode cX6_readsSort 9 = .ok (.aload_n 0, 1) := by decide +kernel
theorem dX6_readsSort_10 : decode cX6_readsSort 10 = .ok (.iload_n 1, 1) := by decide +kernel
theorem dX6_readsSort_11 : decode cX6_readsSort 11 = .ok (.iload_n 2, 1) := by decide +kernel
theorem dX6_readsSort_12 : decode cX6_readsSort 12 = .ok (.invokevirtual 99, 3) := by decide +kernel
theorem dX6_readsSort_15 : decode cX6_readsSort 15 = .ok (.bipush 59, 2) := by decide +kernel
theorem dX6_readsSort_17 : decode cX6_readsSort 17 = .ok (.if_icmp .eq 5, 3) := by decide +kernel
theorem dX6_readsSort_20 : decode cX6_readsSort 20 = .ok (.iconst 0, 1) := by decide +kernel
theorem dX6_readsSort_21 : decode cX6_readsSort 21 = .ok (.ireturn, 1) := by decide +kernel
theorem dX6_readsSort_22 : decode cX6_readsSort 22 = .ok (.aload_n 0, 1) := by decide +kernel
theorem dX6_readsSort_23 : decode cX6_readsSort 23 = .ok (.dup, 1) := by decide +kernel
theorem dX6_readsSort_24 : decode cX6_readsSort 24 = .ok (.getfield 96, 3) := by decide +kernel
theorem dX6_readsSort_27 : decode cX6_readsSort 27 = .ok (.iconst 1, 1) := by decide +kernel
theorem dX6_readsSort_28 : decode cX6_readsSort 28 = .ok (.iadd, 1) := by decide +kernel
theorem dX6_readsSort_29 : decode cX6_readsSort 29 = .ok (.putfield 96, 3) := by decide +kernel
theorem dX6_readsSort_32 : decode cX6_readsSort 32 = .ok (.aload_n 0, 1) := by decide +kernel
theorem dX6_readsSort_33 : decode cX6_readsSort 33 = .ok (.iload_n 1, 1) := by decide +kernel
theorem dX6_readsSort_34 : decode cX6_readsSort 34 = .ok (.iload_n 2, 1) := by decide +kernel
theorem dX6_readsSort_35 : decode cX6_readsSort 35 = .ok (.invokevirtual 99, 3) := by decide +kernel
theorem dX6_readsSort_38 : decode cX6_readsSort 38 = .ok (.istore_n 3, 1) := by decide +kernel
theorem dX6_readsSort_39 : decode cX6_readsSort 39 = .ok (.iload_n 3, 1) := by decide +kernel
theorem dX6_readsSort_40 : decode cX6_readsSort 40 = .ok (.bipush 112, 2) := by decide +kernel
theorem dX6_readsSort_42 : decode cX6_readsSort 42 = .ok (.if_icmp .eq 17, 3) := by decide +kernel
theorem dX6_readsSort_45 : decode cX6_readsSort 45 = .ok (.iload_n 3, 1) := by decide +kernel
theorem dX6_readsSort_46 : decode cX6_readsSort 46 = .ok (.bipush 115, 2) := by decide +kernel
theorem dX6_readsSort_48 : decode cX6_readsSort 48 = .ok (.if_icmp .eq 11, 3) := by decide +kernel
theorem dX6_readsSort_51 : decode cX6_readsSort 51 = .ok (.iload_n 3, 1) := by decide +kernel
theorem dX6_readsSort_52 : decode cX6_readsSort 52 = .ok (.bipush 100, 2) := by decide +kernel
theorem dX6_readsSort_54 : decode cX6_readsSort 54 = .ok (.if_icmp .eq 5, 3) := by decide +kernel
theorem dX6_readsSort_57 : decode cX6_readsSort 57 = .ok (.iconst 0, 1) := by decide +kernel
theorem dX6_readsSort_58 : decode cX6_readsSort 58 = .ok (.ireturn, 1) := by decide +kernel
theorem dX6_readsSort_59 : decode cX6_readsSort 59 = .ok (.aload_n 0, 1) := by decide +kernel
theorem dX6_readsSort_60 : decode cX6_readsSort 60 = .ok (.dup, 1) := by decide +kernel
theorem dX6_readsSort_61 : decode cX6_readsSort 61 = .ok (.getfield 96, 3) := by decide +kernel
theorem dX6_readsSort_64 : decode cX6_readsSort 64 = .ok (.iconst 1, 1) := by decide +kernel
theorem dX6_readsSort_65 : decode cX6_readsSort 65 = .ok (.iadd, 1) := by decide +kernel
theorem dX6_readsSort_66 : decode cX6_readsSort 66 = .ok (.putfield 96, 3) := by decide +kernel
theorem dX6_readsSort_69 : decode cX6_readsSort 69 = .ok (.aload_n 0, 1) := by decide +kernel
theorem dX6_readsSort_70 : decode cX6_readsSort 70 = .ok (.iload_n 1, 1) := by decide +kernel
theorem dX6_readsSort_71 : decode cX6_readsSort 71 = .ok (.iload_n 2, 1) := by decide +kernel
theorem dX6_readsSort_72 : decode cX6_readsSort 72 = .ok (.iconst 0, 1) := by decide +kernel
theorem dX6_readsSort_73 : decode cX6_readsSort 73 = .ok (.bipush 9, 2) := by decide +kernel
theorem dX6_readsSort_75 : decode cX6_readsSort 75 = .ok (.invokevirtual 106, 3) := by decide +kernel
theorem dX6_readsSort_78 : decode cX6_readsSort 78 = .ok (.istore 4, 2) := by decide +kernel
theorem dX6_readsSort_80 : decode cX6_readsSort 80 = .ok (.iload 4, 2) := by decide +kernel
theorem dX6_readsSort_82 : decode cX6_readsSort 82 = .ok (.ifCond .ge 8, 3) := by decide +kernel
theorem dX6_readsSort_85 : decode cX6_readsSort 85 = .ok (.bipush (-9), 2) := by decide +kernel
theorem dX6_readsSort_87 : decode cX6_readsSort 87 = .ok (.goto 12, 3) := by decide +kernel
theorem dX6_readsSort_90 : decode cX6_readsSort 90 = .ok (.aload_n 0, 1) := by decide +kernel
theorem dX6_readsSort_91 : decode cX6_readsSort 91 = .ok (.iload_n 1, 1) := by decide +kernel
theorem dX6_readsSort_92 : decode cX6_readsSort 92 = .ok (.iload_n 2, 1) := by decide +kernel
theorem dX6_readsSort_93 : decode cX6_readsSort 93 = .ok (.iconst 1, 1) := by decide +kernel
theorem dX6_readsSort_94 : decode cX6_readsSort 94 = .ok (.bipush 9, 2) := by decide +kernel
theorem dX6_readsSort_96 : decode cX6_readsSort 96 = .ok (.invokevirtual 106, 3) := by decide +kernel
theorem dX6_readsSort_99 : decode cX6_readsSort 99 = .ok (.istore 5, 2) := by decide +kernel
theorem dX6_readsSort_101 : decode cX6_readsSort 101 = .ok (.iload 5, 2) := by decide +kernel
theorem dX6_readsSort_103 : decode cX6_readsSort 103 = .ok (.ifCond .ge 8, 3) := by decide +kernel
theorem dX6_readsSort_106 : decode cX6_readsSort 106 = .ok (.bipush (-9), 2) := by decide +kernel
theorem dX6_readsSort_108 : decode cX6_readsSort 108 = .ok (.goto 11, 3) := by decide +kernel
theorem dX6_readsSort_111 : decode cX6_readsSort 111 = .ok (.aload_n 0, 1) := by decide +kernel
theorem dX6_readsSort_112 : decode cX6_readsSort 112 = .ok (.iload_n 1, 1) := by decide +kernel
theorem dX6_readsSort_113 : decode cX6_readsSort 113 = .ok (.iload_n 2, 1) := by decide +kernel
theorem dX6_readsSort_114 : decode cX6_readsSort 114 = .ok (.iconst 0, 1) := by decide +kernel
theorem dX6_readsSort_115 : decode cX6_readsSort 115 = .ok (.iconst 5, 1) := by decide +kernel
theorem dX6_readsSort_116 : decode cX6_readsSort 116 = .ok (.invokevirtual 106, 3) := by decide +kernel
theorem dX6_readsSort_119 : decode cX6_readsSort 119 = .ok (.istore 6, 2) := by decide +kernel
theorem dX6_readsSort_121 : decode cX6_readsSort 121 = .ok (.iload 6, 2) := by decide +kernel
theorem dX6_readsSort_123 : decode cX6_readsSort 123 = .ok (.ifCond .ge 5, 3) := by decide +kernel
theorem dX6_readsSort_126 : decode cX6_readsSort 126 = .ok (.iconst 0, 1) := by decide +kernel
theorem dX6_readsSort_127 : decode cX6_readsSort 127 = .ok (.ireturn, 1) := by decide +kernel
theorem dX6_readsSort_128 : decode cX6_readsSort 128 = .ok (.aload_n 0, 1) := by decide +kernel
theorem dX6_readsSort_129 : decode cX6_readsSort 129 = .ok (.getfield 25, 3) := by decide +kernel
theorem dX6_readsSort_132 : decode cX6_readsSort 132 = .ok (.aload_n 0, 1) := by decide +kernel
theorem dX6_readsSort_133 : decode cX6_readsSort 133 = .ok (.getfield 103, 3) := by decide +kernel
theorem dX6_readsSort_136 : decode cX6_readsSort 136 = .ok (.iload_n 3, 1) := by decide +kernel
theorem dX6_readsSort_137 : decode cX6_readsSort 137 = .ok (.bipush 112, 2) := by decide +kernel
theorem dX6_readsSort_139 : decode cX6_readsSort 139 = .ok (.if_icmp .ne 7, 3) := by decide +kernel
theorem dX6_readsSort_142 : decode cX6_readsSort 142 = .ok (.iconst 0, 1) := by decide +kernel
theorem dX6_readsSort_143 : decode cX6_readsSort 143 = .ok (.goto 14, 3) := by decide +kernel
theorem dX6_readsSort_146 : decode cX6_readsSort 146 = .ok (.iload_n 3, 1) := by decide +kernel
theorem dX6_readsSort_147 : decode cX6_readsSort 147 = .ok (.bipush 115, 2) := by decide +kernel
theorem dX6_readsSort_149 : decode cX6_readsSort 149 = .ok (.if_icmp .ne 7, 3) := by decide +kernel
theorem dX6_readsSort_152 : decode cX6_readsSort 152 = .ok (.iconst 1, 1) := by decide +kernel
theorem dX6_readsSort_153 : decode cX6_readsSort 153 = .ok (.goto 4, 3) := by decide +kernel
theorem dX6_readsSort_156 : decode cX6_readsSort 156 = .ok (.iconst 2, 1) := by decide +kernel
theorem dX6_readsSort_157 : decode cX6_readsSort 157 = .ok (.iastore, 1) := by decide +kernel
theorem dX6_readsSort_158 : decode cX6_readsSort 158 = .ok (.aload_n 0, 1) := by decide +kernel
theorem dX6_readsSort_159 : decode cX6_readsSort 159 = .ok (.getfield 28, 3) := by decide +kernel
theorem dX6_readsSort_162 : decode cX6_readsSort 162 = .ok (.aload_n 0, 1) := by decide +kernel
theorem dX6_readsSort_163 : decode cX6_readsSort 163 = .ok (.getfield 103, 3) := by decide +kernel
theorem dX6_readsSort_166 : decode cX6_readsSort 166 = .ok (.iload 4, 2) := by decide +kernel
theorem dX6_readsSort_168 : decode cX6_readsSort 168 = .ok (.iastore, 1) := by decide +kernel
theorem dX6_readsSort_169 : decode cX6_readsSort 169 = .ok (.aload_n 0, 1) := by decide +kernel
theorem dX6_readsSort_170 : decode cX6_readsSort 170 = .ok (.getfield 31, 3) := by decide +kernel
theorem dX6_readsSort_173 : decode cX6_readsSort 173 = .ok (.aload_n 0, 1) := by decide +kernel
theorem dX6_readsSort_174 : decode cX6_readsSort 174 = .ok (.getfield 103, 3) := by decide +kernel
theorem dX6_readsSort_177 : decode cX6_readsSort 177 = .ok (.iload 5, 2) := by decide +kernel
theorem dX6_readsSort_179 : decode cX6_readsSort 179 = .ok (.iastore, 1) := by decide +kernel
theorem dX6_readsSort_180 : decode cX6_readsSort 180 = .ok (.aload_n 0, 1) := by decide +kernel
theorem dX6_readsSort_181 : decode cX6_readsSort 181 = .ok (.getfield 34, 3) := by decide +kernel
theorem dX6_readsSort_184 : decode cX6_readsSort 184 = .ok (.aload_n 0, 1) := by decide +kernel
theorem dX6_readsSort_185 : decode cX6_readsSort 185 = .ok (.getfield 103, 3) := by decide +kernel
theorem dX6_readsSort_188 : decode cX6_readsSort 188 = .ok (.iload 6, 2) := by decide +kernel
theorem dX6_readsSort_190 : decode cX6_readsSort 190 = .ok (.iastore, 1) := by decide +kernel
theorem dX6_readsSort_191 : decode cX6_readsSort 191 = .ok (.aload_n 0, 1) := by decide +kernel
theorem dX6_readsSort_192 : decode cX6_readsSort 192 = .ok (.dup, 1) := by decide +kernel
theorem dX6_readsSort_193 : decode cX6_readsSort 193 = .ok (.getfield 103, 3) := by decide +kernel
theorem dX6_readsSort_196 : decode cX6_readsSort 196 = .ok (.iconst 1, 1) := by decide +kernel
theorem dX6_readsSort_197 : decode cX6_readsSort 197 = .ok (.iadd, 1) := by decide +kernel
theorem dX6_readsSort_198 : decode cX6_readsSort 198 = .ok (.putfield 103, 3) := by decide +kernel
theorem dX6_readsSort_201 : decode cX6_readsSort 201 = .ok (.iconst 1, 1) := by decide +kernel
theorem dX6_readsSort_202 : decode cX6_readsSort 202 = .ok (.ireturn, 1) := by decide +kernel
theorem dX6_readsSign_0 : decode cX6_readsSign 0 = .ok (.aload_n 0, 1) := by decide +kernel
theorem dX6_readsSign_1 : decode cX6_readsSign 1 = .ok (.getfield 110, 3) := by decide +kernel
theorem dX6_readsSign_4 : decode cX6_readsSign 4 = .ok (.iconst 5, 1) := by decide +kernel
theorem dX6_readsSign_5 : decode cX6_readsSign 5 = .ok (.if_icmp .eq 14, 3) := by decide +kernel
theorem dX6_readsSign_8 : decode cX6_readsSign 8 = .ok (.aload_n 0, 1) := by decide +kernel
theorem dX6_readsSign_9 : decode cX6_readsSign 9 = .ok (.iload_n 1, 1) := by decide +kernel
theorem dX6_readsSign_10 : decode cX6_readsSign 10 = .ok (.iload_n 2, 1) := by decide +kernel
theorem dX6_readsSign_11 : decode cX6_readsSign 11 = .ok (.invokevirtual 99, 3) := by decide +kernel
theorem dX6_readsSign_14 : decode cX6_readsSign 14 = .ok (.bipush 47, 2) := by decide +kernel
theorem dX6_readsSign_16 : decode cX6_readsSign 16 = .ok (.if_icmp .eq 5, 3) := by decide +kernel
theorem dX6_readsSign_19 : decode cX6_readsSign 19 = .ok (.iconst 0, 1) := by decide +kernel
theorem dX6_readsSign_20 : decode cX6_readsSign 20 = .ok (.ireturn, 1) := by decide +kernel
theorem dX6_readsSign_21 : decode cX6_readsSign 21 = .ok (.aload_n 0, 1) := by decide +kernel
theorem dX6_readsSign_22 : decode cX6_readsSign 22 = .ok (.dup, 1) := by decide +kernel
theorem dX6_readsSign_23 : decode cX6_readsSign 23 = .ok (.getfield 96, 3) := by decide +kernel
theorem dX6_readsSign_26 : decode cX6_readsSign 26 = .ok (.iconst 1, 1) := by decide +kernel
theorem dX6_readsSign_27 : decode cX6_readsSign 27 = .ok (.iadd, 1) := by decide +kernel
theorem dX6_readsSign_28 : decode cX6_readsSign 28 = .ok (.putfield 96, 3) := by decide +kernel
theorem dX6_readsSign_31 : decode cX6_readsSign 31 = .ok (.aload_n 0, 1) := by decide +kernel
theorem dX6_readsSign_32 : decode cX6_readsSign 32 = .ok (.iload_n 1, 1) := by decide +kernel
theorem dX6_readsSign_33 : decode cX6_readsSign 33 = .ok (.iload_n 2, 1) := by decide +kernel
theorem dX6_readsSign_34 : decode cX6_readsSign 34 = .ok (.iconst 0, 1) := by decide +kernel
theorem dX6_readsSign_35 : decode cX6_readsSign 35 = .ok (.bipush 6, 2) := by decide +kernel
theorem dX6_readsSign_37 : decode cX6_readsSign 37 = .ok (.invokevirtual 106, 3) := by decide +kernel
theorem dX6_readsSign_40 : decode cX6_readsSign 40 = .ok (.istore_n 3, 1) := by decide +kernel
theorem dX6_readsSign_41 : decode cX6_readsSign 41 = .ok (.iload_n 3, 1) := by decide +kernel
theorem dX6_readsSign_42 : decode cX6_readsSign 42 = .ok (.ifCond .ge 8, 3) := by decide +kernel
theorem dX6_readsSign_45 : decode cX6_readsSign 45 = .ok (.bipush (-9), 2) := by decide +kernel
theorem dX6_readsSign_47 : decode cX6_readsSign 47 = .ok (.goto 22, 3) := by decide +kernel
theorem dX6_readsSign_50 : decode cX6_readsSign 50 = .ok (.aload_n 0, 1) := by decide +kernel
theorem dX6_readsSign_51 : decode cX6_readsSign 51 = .ok (.iload_n 1, 1) := by decide +kernel
theorem dX6_readsSign_52 : decode cX6_readsSign 52 = .ok (.iload_n 2, 1) := by decide +kernel
theorem dX6_readsSign_53 : decode cX6_readsSign 53 = .ok (.iconst 0, 1) := by decide +kernel
theorem dX6_readsSign_54 : decode cX6_readsSign 54 = .ok (.iload_n 3, 1) := by decide +kernel
theorem dX6_readsSign_55 : decode cX6_readsSign 55 = .ok (.bipush 6, 2) := by decide +kernel
theorem dX6_readsSign_57 : decode cX6_readsSign 57 = .ok (.if_icmp .ne 7, 3) := by decide +kernel
theorem dX6_readsSign_60 : decode cX6_readsSign 60 = .ok (.iconst 3, 1) := by decide +kernel
theorem dX6_readsSign_61 : decode cX6_readsSign 61 = .ok (.goto 5, 3) := by decide +kernel
theorem dX6_readsSign_64 : decode cX6_readsSign 64 = .ok (.bipush 9, 2) := by decide +kernel
theorem dX6_readsSign_66 : decode cX6_readsSign 66 = .ok (.invokevirtual 106, 3) := by decide +kernel
theorem dX6_readsSign_69 : decode cX6_readsSign 69 = .ok (.istore 4, 2) := by decide +kernel
theorem dX6_readsSign_71 : decode cX6_readsSign 71 = .ok (.iload 4, 2) := by decide +kernel
theorem dX6_readsSign_73 : decode cX6_readsSign 73 = .ok (.ifCond .ge 5, 3) := by decide +kernel
theorem dX6_readsSign_76 : decode cX6_readsSign 76 = .ok (.iconst 0, 1) := by decide +kernel
theorem dX6_readsSign_77 : decode cX6_readsSign 77 = .ok (.ireturn, 1) := by decide +kernel
theorem dX6_readsSign_78 : decode cX6_readsSign 78 = .ok (.aload_n 0, 1) := by decide +kernel
theorem dX6_readsSign_79 : decode cX6_readsSign 79 = .ok (.getfield 37, 3) := by decide +kernel
theorem dX6_readsSign_82 : decode cX6_readsSign 82 = .ok (.aload_n 0, 1) := by decide +kernel
theorem dX6_readsSign_83 : decode cX6_readsSign 83 = .ok (.getfield 110, 3) := by decide +kernel
theorem dX6_readsSign_86 : decode cX6_readsSign 86 = .ok (.bipush 10, 2) := by decide +kernel
theorem dX6_readsSign_88 : decode cX6_readsSign 88 = .ok (.iload_n 3, 1) := by decide +kernel
theorem dX6_readsSign_89 : decode cX6_readsSign 89 = .ok (.imul, 1) := by decide +kernel
theorem dX6_readsSign_90 : decode cX6_readsSign 90 = .ok (.iload 4, 2) := by decide +kernel
theorem dX6_readsSign_92 : decode cX6_readsSign 92 = .ok (.iadd, 1) := by decide +kernel
theorem dX6_readsSign_93 : decode cX6_readsSign 93 = .ok (.iastore, 1) := by decide +kernel
theorem dX6_readsSign_94 : decode cX6_readsSign 94 = .ok (.aload_n 0, 1) := by decide +kernel
theorem dX6_readsSign_95 : decode cX6_readsSign 95 = .ok (.dup, 1) := by decide +kernel
theorem dX6_readsSign_96 : decode cX6_readsSign 96 = .ok (.getfield 110, 3) := by decide +kernel
theorem dX6_readsSign_99 : decode cX6_readsSign 99 = .ok (.iconst 1, 1) := by decide +kernel
theorem dX6_readsSign_100 : decode cX6_readsSign 100 = .ok (.iadd, 1) := by decide +kernel
theorem dX6_readsSign_101 : decode cX6_readsSign 101 = .ok (.putfield 110, 3) := by decide +kernel
theorem dX6_readsSign_104 : decode cX6_readsSign 104 = .ok (.iconst 1, 1) := by decide +kernel
theorem dX6_readsSign_105 : decode cX6_readsSign 105 = .ok (.ireturn, 1) := by decide +kernel
theorem dX6_readsFloor_0 : decode cX6_readsFloor 0 = .ok (.aload_n 0, 1) := by decide +kernel
theorem dX6_readsFloor_1 : decode cX6_readsFloor 1 = .ok (.iconst 0, 1) := by decide +kernel
theorem dX6_readsFloor_2 : decode cX6_readsFloor 2 = .ok (.putfield 96, 3) := by decide +kernel
theorem dX6_readsFloor_5 : decode cX6_readsFloor 5 = .ok (.aload_n 0, 1) := by decide +kernel
theorem dX6_readsFloor_6 : decode cX6_readsFloor 6 = .ok (.iconst 0, 1) := by decide +kernel
theorem dX6_readsFloor_7 : decode cX6_readsFloor 7 = .ok (.putfield 103, 3) := by decide +kernel
theorem dX6_readsFloor_10 : decode cX6_readsFloor 10 = .ok (.aload_n 0, 1) := by decide +kernel
theorem dX6_readsFloor_11 : decode cX6_readsFloor 11 = .ok (.iconst 0, 1) := by decide +kernel
theorem dX6_readsFloor_12 : decode cX6_readsFloor 12 = .ok (.putfield 110, 3) := by decide +kernel
theorem dX6_readsFloor_15 : decode cX6_readsFloor 15 = .ok (.aload_n 0, 1) := by decide +kernel
theorem dX6_readsFloor_16 : decode cX6_readsFloor 16 = .ok (.iload_n 1, 1) := by decide +kernel
theorem dX6_readsFloor_17 : decode cX6_readsFloor 17 = .ok (.iload_n 2, 1) := by decide +kernel
theorem dX6_readsFloor_18 : decode cX6_readsFloor 18 = .ok (.invokevirtual 99, 3) := by decide +kernel
theorem dX6_readsFloor_21 : decode cX6_readsFloor 21 = .ok (.bipush 116, 2) := by decide +kernel
theorem dX6_readsFloor_23 : decode cX6_readsFloor 23 = .ok (.if_icmp .ne 7, 3) := by decide +kernel
theorem dX6_readsFloor_26 : decode cX6_readsFloor 26 = .ok (.iconst 1, 1) := by decide +kernel
theorem dX6_readsFloor_27 : decode cX6_readsFloor 27 = .ok (.goto 4, 3) := by decide +kernel
theorem dX6_readsFloor_30 : decode cX6_readsFloor 30 = .ok (.iconst 0, 1) := by decide +kernel
theorem dX6_readsFloor_31 : decode cX6_readsFloor 31 = .ok (.istore_n 3, 1) := by decide +kernel
theorem dX6_readsFloor_32 : decode cX6_readsFloor 32 = .ok (.aload_n 0, 1) := by decide +kernel
theorem dX6_readsFloor_33 : decode cX6_readsFloor 33 = .ok (.dup, 1) := by decide +kernel
theorem dX6_readsFloor_34 : decode cX6_readsFloor 34 = .ok (.getfield 96, 3) := by decide +kernel
theorem dX6_readsFloor_37 : decode cX6_readsFloor 37 = .ok (.iload_n 3, 1) := by decide +kernel
theorem dX6_readsFloor_38 : decode cX6_readsFloor 38 = .ok (.ifCond .eq 7, 3) := by decide +kernel
theorem dX6_readsFloor_41 : decode cX6_readsFloor 41 = .ok (.iconst 1, 1) := by decide +kernel
theorem dX6_readsFloor_42 : decode cX6_readsFloor 42 = .ok (.goto 4, 3) := by decide +kernel
theorem dX6_readsFloor_45 : decode cX6_readsFloor 45 = .ok (.iconst 0, 1) := by decide +kernel
theorem dX6_readsFloor_46 : decode cX6_readsFloor 46 = .ok (.iadd, 1) := by decide +kernel
theorem dX6_readsFloor_47 : decode cX6_readsFloor 47 = .ok (.putfield 96, 3) := by decide +kernel
theorem dX6_readsFloor_50 : decode cX6_readsFloor 50 = .ok (.iload_n 3, 1) := by decide +kernel
theorem dX6_readsFloor_51 : decode cX6_readsFloor 51 = .ok (.ifCond .eq 32, 3) := by decide +kernel
theorem dX6_readsFloor_54 : decode cX6_readsFloor 54 = .ok (.aload_n 0, 1) := by decide +kernel
theorem dX6_readsFloor_55 : decode cX6_readsFloor 55 = .ok (.getfield 103, 3) := by decide +kernel
theorem dX6_readsFloor_58 : decode cX6_readsFloor 58 = .ok (.iconst 2, 1) := by decide +kernel
theorem dX6_readsFloor_59 : decode cX6_readsFloor 59 = .ok (.if_icmp .lt 14, 3) := by decide +kernel
theorem dX6_readsFloor_62 : decode cX6_readsFloor 62 = .ok (.aload_n 0, 1) := by decide +kernel
theorem dX6_readsFloor_63 : decode cX6_readsFloor 63 = .ok (.iload_n 1, 1) := by decide +kernel
theorem dX6_readsFloor_64 : decode cX6_readsFloor 64 = .ok (.iload_n 2, 1) := by decide +kernel
theorem dX6_readsFloor_65 : decode cX6_readsFloor 65 = .ok (.invokevirtual 99, 3) := by decide +kernel
theorem dX6_readsFloor_68 : decode cX6_readsFloor 68 = .ok (.bipush 59, 2) := by decide +kernel
theorem dX6_readsFloor_70 : decode cX6_readsFloor 70 = .ok (.if_icmp .ne 13, 3) := by decide +kernel
theorem dX6_readsFloor_73 : decode cX6_readsFloor 73 = .ok (.aload_n 0, 1) := by decide +kernel
theorem dX6_readsFloor_74 : decode cX6_readsFloor 74 = .ok (.iload_n 1, 1) := by decide +kernel
theorem dX6_readsFloor_75 : decode cX6_readsFloor 75 = .ok (.iload_n 2, 1) := by decide +kernel
theorem dX6_readsFloor_76 : decode cX6_readsFloor 76 = .ok (.invokevirtual 113, 3) := by decide +kernel
theorem dX6_readsFloor_79 : decode cX6_readsFloor 79 = .ok (.istore_n 3, 1) := by decide +kernel
theorem dX6_readsFloor_80 : decode cX6_readsFloor 80 = .ok (.goto (-30), 3) := by decide +kernel
theorem dX6_readsFloor_83 : decode cX6_readsFloor 83 = .ok (.iload_n 3, 1) := by decide +kernel
theorem dX6_readsFloor_84 : decode cX6_readsFloor 84 = .ok (.ifCond .eq 28, 3) := by decide +kernel
theorem dX6_readsFloor_87 : decode cX6_readsFloor 87 = .ok (.aload_n 0, 1) := by decide +kernel
theorem dX6_readsFloor_88 : decode cX6_readsFloor 88 = .ok (.getfield 110, 3) := by decide +kernel
theorem dX6_readsFloor_91 : decode cX6_readsFloor 91 = .ok (.ifCond .eq 11, 3) := by decide +kernel
theorem dX6_readsFloor_94 : decode cX6_readsFloor 94 = .ok (.aload_n 0, 1) := by decide +kernel
theorem dX6_readsFloor_95 : decode cX6_readsFloor 95 = .ok (.getfield 96, 3) := by decide +kernel
theorem dX6_readsFloor_98 : decode cX6_readsFloor 98 = .ok (.iload_n 2, 1) := by decide +kernel
theorem dX6_readsFloor_99 : decode cX6_readsFloor 99 = .ok (.if_icmp .ge 13, 3) := by decide +kernel
theorem dX6_readsFloor_102 : decode cX6_readsFloor 102 = .ok (.aload_n 0, 1) := by decide +kernel
theorem dX6_readsFloor_103 : decode cX6_readsFloor 103 = .ok (.iload_n 1, 1) := by decide +kernel
theorem dX6_readsFloor_104 : decode cX6_readsFloor 104 = .ok (.iload_n 2, 1) := by decide +kernel
theorem dX6_readsFloor_105 : decode cX6_readsFloor 105 = .ok (.invokevirtual 117, 3) := by decide +kernel
theorem dX6_readsFloor_108 : decode cX6_readsFloor 108 = .ok (.istore_n 3, 1) := by decide +kernel
theorem dX6_readsFloor_109 : decode cX6_readsFloor 109 = .ok (.goto (-26), 3) := by decide +kernel
theorem dX6_readsFloor_112 : decode cX6_readsFloor 112 = .ok (.iload_n 3, 1) := by decide +kernel
theorem dX6_readsFloor_113 : decode cX6_readsFloor 113 = .ok (.ireturn, 1) := by decide +kernel
theorem dX6_cellsBarred_0 : decode cX6_cellsBarred 0 = .ok (.aload_n 0, 1) := by decide +kernel
theorem dX6_cellsBarred_1 : decode cX6_cellsBarred 1 = .ok (.getfield 64, 3) := by decide +kernel
theorem dX6_cellsBarred_4 : decode cX6_cellsBarred 4 = .ok (.iload_n 1, 1) := by decide +kernel
theorem dX6_cellsBarred_5 : decode cX6_cellsBarred 5 = .ok (.iaload, 1) := by decide +kernel
theorem dX6_cellsBarred_6 : decode cX6_cellsBarred 6 = .ok (.ifCond .lt 19, 3) := by decide +kernel
theorem dX6_cellsBarred_9 : decode cX6_cellsBarred 9 = .ok (.aload_n 0, 1) := by decide +kernel
theorem dX6_cellsBarred_10 : decode cX6_cellsBarred 10 = .ok (.getfield 67, 3) := by decide +kernel
theorem dX6_cellsBarred_13 : decode cX6_cellsBarred 13 = .ok (.iload_n 1, 1) := by decide +kernel
theorem dX6_cellsBarred_14 : decode cX6_cellsBarred 14 = .ok (.iaload, 1) := by decide +kernel
theorem dX6_cellsBarred_15 : decode cX6_cellsBarred 15 = .ok (.iload_n 2, 1) := by decide +kernel
theorem dX6_cellsBarred_16 : decode cX6_cellsBarred 16 = .ok (.if_icmp .eq 9, 3) := by decide +kernel
theorem dX6_cellsBarred_19 : decode cX6_cellsBarred 19 = .ok (.aload_n 0, 1) := by decide +kernel
theorem dX6_cellsBarred_20 : decode cX6_cellsBarred 20 = .ok (.iconst 2, 1) := by decide +kernel
theorem dX6_cellsBarred_21 : decode cX6_cellsBarred 21 = .ok (.invokevirtual 120, 3) := by decide +kernel
theorem dX6_cellsBarred_24 : decode cX6_cellsBarred 24 = .ok (.ireturn, 1) := by decide +kernel
theorem dX6_cellsBarred_25 : decode cX6_cellsBarred 25 = .ok (.aload_n 0, 1) := by decide +kernel
theorem dX6_cellsBarred_26 : decode cX6_cellsBarred 26 = .ok (.getfield 64, 3) := by decide +kernel
theorem dX6_cellsBarred_29 : decode cX6_cellsBarred 29 = .ok (.iload_n 1, 1) := by decide +kernel
theorem dX6_cellsBarred_30 : decode cX6_cellsBarred 30 = .ok (.iaload, 1) := by decide +kernel
theorem dX6_cellsBarred_31 : decode cX6_cellsBarred 31 = .ok (.ifCond .ge 9, 3) := by decide +kernel
theorem dX6_cellsBarred_34 : decode cX6_cellsBarred 34 = .ok (.aload_n 0, 1) := by decide +kernel
theorem dX6_cellsBarred_35 : decode cX6_cellsBarred 35 = .ok (.iconst 1, 1) := by decide +kernel
theorem dX6_cellsBarred_36 : decode cX6_cellsBarred 36 = .ok (.invokevirtual 120, 3) := by decide +kernel
theorem dX6_cellsBarred_39 : decode cX6_cellsBarred 39 = .ok (.ireturn, 1) := by decide +kernel
theorem dX6_cellsBarred_40 : decode cX6_cellsBarred 40 = .ok (.lload 4, 2) := by decide +kernel
theorem dX6_cellsBarred_42 : decode cX6_cellsBarred 42 = .ok (.lconst 0, 1) := by decide +kernel
theorem dX6_cellsBarred_43 : decode cX6_cellsBarred 43 = .ok (.lcmp, 1) := by decide +kernel
theorem dX6_cellsBarred_44 : decode cX6_cellsBarred 44 = .ok (.ifCond .ge 9, 3) := by decide +kernel
theorem dX6_cellsBarred_47 : decode cX6_cellsBarred 47 = .ok (.aload_n 0, 1) := by decide +kernel
theorem dX6_cellsBarred_48 : decode cX6_cellsBarred 48 = .ok (.iconst 4, 1) := by decide +kernel
theorem dX6_cellsBarred_49 : decode cX6_cellsBarred 49 = .ok (.invokevirtual 120, 3) := by decide +kernel
theorem dX6_cellsBarred_52 : decode cX6_cellsBarred 52 = .ok (.ireturn, 1) := by decide +kernel
theorem dX6_cellsBarred_53 : decode cX6_cellsBarred 53 = .ok (.iload_n 3, 1) := by decide +kernel
theorem dX6_cellsBarred_54 : decode cX6_cellsBarred 54 = .ok (.lload 4, 2) := by decide +kernel
theorem dX6_cellsBarred_56 : decode cX6_cellsBarred 56 = .ok (.aload_n 0, 1) := by decide +kernel
theorem dX6_cellsBarred_57 : decode cX6_cellsBarred 57 = .ok (.getfield 64, 3) := by decide +kernel
theorem dX6_cellsBarred_60 : decode cX6_cellsBarred 60 = .ok (.iload_n 1, 1) := by decide +kernel
theorem dX6_cellsBarred_61 : decode cX6_cellsBarred 61 = .ok (.iaload, 1) := by decide +kernel
theorem dX6_cellsBarred_62 : decode cX6_cellsBarred 62 = .ok (.invokestatic 124, 3) := by decide +kernel
theorem dX6_cellsBarred_65 : decode cX6_cellsBarred 65 = .ok (.ifCond .eq 11, 3) := by decide +kernel
theorem dX6_cellsBarred_68 : decode cX6_cellsBarred 68 = .ok (.aload_n 0, 1) := by decide +kernel
theorem dX6_cellsBarred_69 : decode cX6_cellsBarred 69 = .ok (.iconst 3, 1) := by decide +kernel
theorem dX6_cellsBarred_70 : decode cX6_cellsBarred 70 = .ok (.invokevirtual 120, 3) := by decide +kernel
theorem dX6_cellsBarred_73 : decode cX6_cellsBarred 73 = .ok (.goto 4, 3) := by decide +kernel
theorem dX6_cellsBarred_76 : decode cX6_cellsBarred 76 = .ok (.iconst 0, 1) := by decide +kernel
theorem dX6_cellsBarred_77 : decode cX6_cellsBarred 77 = .ok (.ireturn, 1) := by decide +kernel
theorem dX6_floor_0 : decode cX6_floor 0 = .ok (.iload_n 1, 1) := by decide +kernel
theorem dX6_floor_1 : decode cX6_floor 1 = .ok (.invokestatic 128, 3) := by decide +kernel
theorem dX6_floor_4 : decode cX6_floor 4 = .ok (.ifCond .eq 9, 3) := by decide +kernel
theorem dX6_floor_7 : decode cX6_floor 7 = .ok (.aload_n 0, 1) := by decide +kernel
theorem dX6_floor_8 : decode cX6_floor 8 = .ok (.iconst (-1), 1) := by decide +kernel
theorem dX6_floor_9 : decode cX6_floor 9 = .ok (.invokevirtual 132, 3) := by decide +kernel
theorem dX6_floor_12 : decode cX6_floor 12 = .ok (.ireturn, 1) := by decide +kernel
theorem dX6_floor_13 : decode cX6_floor 13 = .ok (.iload_n 2, 1) := by decide +kernel
theorem dX6_floor_14 : decode cX6_floor 14 = .ok (.i2l, 1) := by decide +kernel
theorem dX6_floor_15 : decode cX6_floor 15 = .ok (.lconst 0, 1) := by decide +kernel
theorem dX6_floor_16 : decode cX6_floor 16 = .ok (.ldc2_w 135, 3) := by decide +kernel
theorem dX6_floor_19 : decode cX6_floor 19 = .ok (.invokestatic 89, 3) := by decide +kernel
theorem dX6_floor_22 : decode cX6_floor 22 = .ok (.ifCond .ne 10, 3) := by decide +kernel
theorem dX6_floor_25 : decode cX6_floor 25 = .ok (.aload_n 0, 1) := by decide +kernel
theorem dX6_floor_26 : decode cX6_floor 26 = .ok (.bipush (-2), 2) := by decide +kernel
theorem dX6_floor_28 : decode cX6_floor 28 = .ok (.invokevirtual 132, 3) := by decide +kernel
theorem dX6_floor_31 : decode cX6_floor 31 = .ok (.ireturn, 1) := by decide +kernel
theorem dX6_floor_32 : decode cX6_floor 32 = .ok (.aload_n 0, 1) := by decide +kernel
theorem dX6_floor_33 : decode cX6_floor 33 = .ok (.iload_n 1, 1) := by decide +kernel
theorem dX6_floor_34 : decode cX6_floor 34 = .ok (.iload_n 2, 1) := by decide +kernel
theorem dX6_floor_35 : decode cX6_floor 35 = .ok (.iload_n 3, 1) := by decide +kernel
theorem dX6_floor_36 : decode cX6_floor 36 = .ok (.iload 4, 2) := by decide +kernel
theorem dX6_floor_38 : decode cX6_floor 38 = .ok (.i2l, 1) := by decide +kernel
theorem dX6_floor_39 : decode cX6_floor 39 = .ok (.invokevirtual 137, 3) := by decide +kernel
theorem dX6_floor_42 : decode cX6_floor 42 = .ok (.istore 5, 2) := by decide +kernel
theorem dX6_floor_44 : decode cX6_floor 44 = .ok (.iload 5, 2) := by decide +kernel
theorem dX6_floor_46 : decode cX6_floor 46 = .ok (.ifCond .ge 6, 3) := by decide +kernel
theorem dX6_floor_49 : decode cX6_floor 49 = .ok (.iload 5, 2) := by decide +kernel
theorem dX6_floor_51 : decode cX6_floor 51 = .ok (.ireturn, 1) := by decide +kernel
theorem dX6_floor_52 : decode cX6_floor 52 = .ok (.aload_n 0, 1) := by decide +kernel
theorem dX6_floor_53 : decode cX6_floor 53 = .ok (.bipush 60, 2) := by decide +kernel
theorem dX6_floor_55 : decode cX6_floor 55 = .ok (.iload_n 1, 1) := by decide +kernel
theorem dX6_floor_56 : decode cX6_floor 56 = .ok (.imul, 1) := by decide +kernel
theorem dX6_floor_57 : decode cX6_floor 57 = .ok (.iload_n 3, 1) := by decide +kernel
theorem dX6_floor_58 : decode cX6_floor 58 = .ok (.iadd, 1) := by decide +kernel
theorem dX6_floor_59 : decode cX6_floor 59 = .ok (.iload 4, 2) := by decide +kernel
theorem dX6_floor_61 : decode cX6_floor 61 = .ok (.invokevirtual 141, 3) := by decide +kernel
theorem dX6_floor_64 : decode cX6_floor 64 = .ok (.ifCond .ne 15, 3) := by decide +kernel
theorem dX6_floor_67 : decode cX6_floor 67 = .ok (.aload_n 0, 1) := by decide +kernel
theorem dX6_floor_68 : decode cX6_floor 68 = .ok (.bipush (-100), 2) := by decide +kernel
theorem dX6_floor_70 : decode cX6_floor 70 = .ok (.aload_n 0, 1) := by decide +kernel
theorem dX6_floor_71 : decode cX6_floor 71 = .ok (.getfield 96, 3) := by decide +kernel
theorem dX6_floor_74 : decode cX6_floor 74 = .ok (.isub, 1) := by decide +kernel
theorem dX6_floor_75 : decode cX6_floor 75 = .ok (.invokevirtual 132, 3) := by decide +kernel
theorem dX6_floor_78 : decode cX6_floor 78 = .ok (.ireturn, 1) := by decide +kernel
theorem dX6_floor_79 : decode cX6_floor 79 = .ok (.aload_n 0, 1) := by decide +kernel
theorem dX6_floor_80 : decode cX6_floor 80 = .ok (.aload_n 0, 1) := by decide +kernel
theorem dX6_floor_81 : decode cX6_floor 81 = .ok (.getfield 103, 3) := by decide +kernel
theorem dX6_floor_84 : decode cX6_floor 84 = .ok (.putfield 86, 3) := by decide +kernel
theorem dX6_floor_87 : decode cX6_floor 87 = .ok (.aload_n 0, 1) := by decide +kernel
theorem dX6_floor_88 : decode cX6_floor 88 = .ok (.aload_n 0, 1) := by decide +kernel
theorem dX6_floor_89 : decode cX6_floor 89 = .ok (.getfield 110, 3) := by decide +kernel
theorem dX6_floor_92 : decode cX6_floor 92 = .ok (.putfield 93, 3) := by decide +kernel
theorem dX6_floor_95 : decode cX6_floor 95 = .ok (.iconst 0, 1) := by decide +kernel
theorem dX6_floor_96 : decode cX6_floor 96 = .ok (.istore 6, 2) := by decide +kernel
theorem dX6_floor_98 : decode cX6_floor 98 = .ok (.iload 6, 2) := by decide +kernel
theorem dX6_floor_100 : decode cX6_floor 100 = .ok (.aload_n 0, 1) := by decide +kernel
theorem dX6_floor_101 : decode cX6_floor 101 = .ok (.getfield 86, 3) := by decide +kernel
theorem dX6_floor_104 : decode cX6_floor 104 = .ok (.if_icmp .ge 65, 3) := by decide +kernel
theorem dX6_floor_107 : decode cX6_floor 107 = .ok (.aload_n 0, 1) := by decide +kernel
theorem dX6_floor_108 : decode cX6_floor 108 = .ok (.getfield 7, 3) := by decide +kernel
theorem dX6_floor_111 : decode cX6_floor 111 = .ok (.iload 6, 2) := by decide +kernel
theorem dX6_floor_113 : decode cX6_floor 113 = .ok (.aload_n 0, 1) := by decide +kernel
theorem dX6_floor_114 : decode cX6_floor 114 = .ok (.getfield 25, 3) := by decide +kernel
theorem dX6_floor_117 : decode cX6_floor 117 = .ok (.iload 6, 2) := by decide +kernel
theorem dX6_floor_119 : decode cX6_floor 119 = .ok (.iaload, 1) := by decide +kernel
theorem dX6_floor_120 : decode cX6_floor 120 = .ok (.iastore, 1) := by decide +kernel
theorem dX6_floor_121 : decode cX6_floor 121 = .ok (.aload_n 0, 1) := by decide +kernel
theorem dX6_floor_122 : decode cX6_floor 122 = .ok (.getfield 13, 3) := by decide +kernel
theorem dX6_floor_125 : decode cX6_floor 125 = .ok (.iload 6, 2) := by decide +kernel
theorem dX6_floor_127 : decode cX6_floor 127 = .ok (.aload_n 0, 1) := by decide +kernel
theorem dX6_floor_128 : decode cX6_floor 128 = .ok (.getfield 28, 3) := by decide +kernel
theorem dX6_floor_131 : decode cX6_floor 131 = .ok (.iload 6, 2) := by decide +kernel
theorem dX6_floor_133 : decode cX6_floor 133 = .ok (.iaload, 1) := by decide +kernel
theorem dX6_floor_134 : decode cX6_floor 134 = .ok (.iastore, 1) := by decide +kernel
theorem dX6_floor_135 : decode cX6_floor 135 = .ok (.aload_n 0, 1) := by decide +kernel
theorem dX6_floor_136 : decode cX6_floor 136 = .ok (.getfield 16, 3) := by decide +kernel
theorem dX6_floor_139 : decode cX6_floor 139 = .ok (.iload 6, 2) := by decide +kernel
theorem dX6_floor_141 : decode cX6_floor 141 = .ok (.aload_n 0, 1) := by decide +kernel
theorem dX6_floor_142 : decode cX6_floor 142 = .ok (.getfield 31, 3) := by decide +kernel
theorem dX6_floor_145 : decode cX6_floor 145 = .ok (.iload 6, 2) := by decide +kernel
theorem dX6_floor_147 : decode cX6_floor 147 = .ok (.iaload, 1) := by decide +kernel
theorem dX6_floor_148 : decode cX6_floor 148 = .ok (.iastore, 1) := by decide +kernel
theorem dX6_floor_149 : decode cX6_floor 149 = .ok (.aload_n 0, 1) := by decide +kernel
theorem dX6_floor_150 : decode cX6_floor 150 = .ok (.getfield 19, 3) := by decide +kernel
theorem dX6_floor_153 : decode cX6_floor 153 = .ok (.iload 6, 2) := by decide +kernel
theorem dX6_floor_155 : decode cX6_floor 155 = .ok (.aload_n 0, 1) := by decide +kernel
theorem dX6_floor_156 : decode cX6_floor 156 = .ok (.getfield 34, 3) := by decide +kernel
theorem dX6_floor_159 : decode cX6_floor 159 = .ok (.iload 6, 2) := by decide +kernel
theorem dX6_floor_161 : decode cX6_floor 161 = .ok (.iaload, 1) := by decide +kernel
theorem dX6_floor_162 : decode cX6_floor 162 = .ok (.iastore, 1) := by decide +kernel
theorem dX6_floor_163 : decode cX6_floor 163 = .ok (.iinc 6 1, 3) := by decide +kernel
theorem dX6_floor_166 : decode cX6_floor 166 = .ok (.goto (-68), 3) := by decide +kernel
theorem dX6_floor_169 : decode cX6_floor 169 = .ok (.iconst 0, 1) := by decide +kernel
theorem dX6_floor_170 : decode cX6_floor 170 = .ok (.istore 6, 2) := by decide +kernel
theorem dX6_floor_172 : decode cX6_floor 172 = .ok (.iload 6, 2) := by decide +kernel
theorem dX6_floor_174 : decode cX6_floor 174 = .ok (.aload_n 0, 1) := by decide +kernel
theorem dX6_floor_175 : decode cX6_floor 175 = .ok (.getfield 93, 3) := by decide +kernel
theorem dX6_floor_178 : decode cX6_floor 178 = .ok (.if_icmp .ge 23, 3) := by decide +kernel
theorem dX6_floor_181 : decode cX6_floor 181 = .ok (.aload_n 0, 1) := by decide +kernel
theorem dX6_floor_182 : decode cX6_floor 182 = .ok (.getfield 22, 3) := by decide +kernel
theorem dX6_floor_185 : decode cX6_floor 185 = .ok (.iload 6, 2) := by decide +kernel
theorem dX6_floor_187 : decode cX6_floor 187 = .ok (.aload_n 0, 1) := by decide +kernel
theorem dX6_floor_188 : decode cX6_floor 188 = .ok (.getfield 37, 3) := by decide +kernel
theorem dX6_floor_191 : decode cX6_floor 191 = .ok (.iload 6, 2) := by decide +kernel
theorem dX6_floor_193 : decode cX6_floor 193 = .ok (.iaload, 1) := by decide +kernel
theorem dX6_floor_194 : decode cX6_floor 194 = .ok (.iastore, 1) := by decide +kernel
theorem dX6_floor_195 : decode cX6_floor 195 = .ok (.iinc 6 1, 3) := by decide +kernel
theorem dX6_floor_198 : decode cX6_floor 198 = .ok (.goto (-26), 3) := by decide +kernel
theorem dX6_floor_201 : decode cX6_floor 201 = .ok (.aload_n 0, 1) := by decide +kernel
theorem dX6_floor_202 : decode cX6_floor 202 = .ok (.iconst 0, 1) := by decide +kernel
theorem dX6_floor_203 : decode cX6_floor 203 = .ok (.putfield 144, 3) := by decide +kernel
theorem dX6_floor_206 : decode cX6_floor 206 = .ok (.aload_n 0, 1) := by decide +kernel
theorem dX6_floor_207 : decode cX6_floor 207 = .ok (.aload_n 0, 1) := by decide +kernel
theorem dX6_floor_208 : decode cX6_floor 208 = .ok (.getfield 86, 3) := by decide +kernel
theorem dX6_floor_211 : decode cX6_floor 211 = .ok (.invokevirtual 132, 3) := by decide +kernel
theorem dX6_floor_214 : decode cX6_floor 214 = .ok (.ireturn, 1) := by decide +kernel
theorem dX6_lookOf_0 : decode cX6_lookOf 0 = .ok (.aload_n 0, 1) := by decide +kernel
theorem dX6_lookOf_1 : decode cX6_lookOf 1 = .ok (.getfield 16, 3) := by decide +kernel
theorem dX6_lookOf_4 : decode cX6_lookOf 4 = .ok (.iload_n 1, 1) := by decide +kernel
theorem dX6_lookOf_5 : decode cX6_lookOf 5 = .ok (.iaload, 1) := by decide +kernel
theorem dX6_lookOf_6 : decode cX6_lookOf 6 = .ok (.istore_n 2, 1) := by decide +kernel
theorem dX6_lookOf_7 : decode cX6_lookOf 7 = .ok (.aload_n 0, 1) := by decide +kernel
theorem dX6_lookOf_8 : decode cX6_lookOf 8 = .ok (.getfield 7, 3) := by decide +kernel
theorem dX6_lookOf_11 : decode cX6_lookOf 11 = .ok (.iload_n 1, 1) := by decide +kernel
theorem dX6_lookOf_12 : decode cX6_lookOf 12 = .ok (.iaload, 1) := by decide +kernel
theorem dX6_lookOf_13 : decode cX6_lookOf 13 = .ok (.ifCond .ne 7, 3) := by decide +kernel
theorem dX6_lookOf_16 : decode cX6_lookOf 16 = .ok (.iload_n 2, 1) := by decide +kernel
theorem dX6_lookOf_17 : decode cX6_lookOf 17 = .ok (.goto 24, 3) := by decide +kernel
theorem dX6_lookOf_20 : decode cX6_lookOf 20 = .ok (.aload_n 0, 1) := by decide +kernel
theorem dX6_lookOf_21 : decode cX6_lookOf 21 = .ok (.getfield 7, 3) := by decide +kernel
theorem dX6_lookOf_24 : decode cX6_lookOf 24 = .ok (.iload_n 1, 1) := by decide +kernel
theorem dX6_lookOf_25 : decode cX6_lookOf 25 = .ok (.iaload, 1) := by decide +kernel
theorem dX6_lookOf_26 : decode cX6_lookOf 26 = .ok (.iconst 1, 1) := by decide +kernel
theorem dX6_lookOf_27 : decode cX6_lookOf 27 = .ok (.if_icmp .ne 9, 3) := by decide +kernel
theorem dX6_lookOf_30 : decode cX6_lookOf 30 = .ok (.iload_n 2, 1) := by decide +kernel
theorem dX6_lookOf_31 : decode cX6_lookOf 31 = .ok (.iconst 1, 1) := by decide +kernel
theorem dX6_lookOf_32 : decode cX6_lookOf 32 = .ok (.iadd, 1) := by decide +kernel
theorem dX6_lookOf_33 : decode cX6_lookOf 33 = .ok (.goto 8, 3) := by decide +kernel
theorem dX6_lookOf_36 : decode cX6_lookOf 36 = .ok (.iconst 2, 1) := by decide +kernel
theorem dX6_lookOf_37 : decode cX6_lookOf 37 = .ok (.iload_n 2, 1) := by decide +kernel
theorem dX6_lookOf_38 : decode cX6_lookOf 38 = .ok (.iconst 1, 1) := by decide +kernel
theorem dX6_lookOf_39 : decode cX6_lookOf 39 = .ok (.iadd, 1) := by decide +kernel
theorem dX6_lookOf_40 : decode cX6_lookOf 40 = .ok (.imul, 1) := by decide +kernel
theorem dX6_lookOf_41 : decode cX6_lookOf 41 = .ok (.ireturn, 1) := by decide +kernel
theorem dX6_looksOf_0 : decode cX6_looksOf 0 = .ok (.iconst 0, 1) := by decide +kernel
theorem dX6_looksOf_1 : decode cX6_looksOf 1 = .ok (.istore_n 2, 1) := by decide +kernel
theorem dX6_looksOf_2 : decode cX6_looksOf 2 = .ok (.iconst 0, 1) := by decide +kernel
theorem dX6_looksOf_3 : decode cX6_looksOf 3 = .ok (.istore_n 3, 1) := by decide +kernel
theorem dX6_looksOf_4 : decode cX6_looksOf 4 = .ok (.iload_n 3, 1) := by decide +kernel
theorem dX6_looksOf_5 : decode cX6_looksOf 5 = .ok (.aload_n 0, 1) := by decide +kernel
theorem dX6_looksOf_6 : decode cX6_looksOf 6 = .ok (.getfield 86, 3) := by decide +kernel
theorem dX6_looksOf_9 : decode cX6_looksOf 9 = .ok (.if_icmp .ge 36, 3) := by decide +kernel
theorem dX6_looksOf_12 : decode cX6_looksOf 12 = .ok (.iload_n 2, 1) := by decide +kernel
theorem dX6_looksOf_13 : decode cX6_looksOf 13 = .ok (.iload_n 1, 1) := by decide +kernel
theorem dX6_looksOf_14 : decode cX6_looksOf 14 = .ok (.iload_n 3, 1) := by decide +kernel
theorem dX6_looksOf_15 : decode cX6_looksOf 15 = .ok (.invokestatic 147, 3) := by decide +kernel
theorem dX6_looksOf_18 : decode cX6_looksOf 18 = .ok (.ifCond .eq 18, 3) := by decide +kernel
theorem dX6_looksOf_21 : decode cX6_looksOf 21 = .ok (.aload_n 0, 1) := by decide +kernel
theorem dX6_looksOf_22 : decode cX6_looksOf 22 = .ok (.getfield 13, 3) := by decide +kernel
theorem dX6_looksOf_25 : decode cX6_looksOf 25 = .ok (.iload_n 3, 1) := by decide +kernel
theorem dX6_looksOf_26 : decode cX6_looksOf 26 = .ok (.iaload, 1) := by decide +kernel
theorem dX6_looksOf_27 : decode cX6_looksOf 27 = .ok (.aload_n 0, 1) := by decide +kernel
theorem dX6_looksOf_28 : decode cX6_looksOf 28 = .ok (.iload_n 3, 1) := by decide +kernel
theorem dX6_looksOf_29 : decode cX6_looksOf 29 = .ok (.invokevirtual 150, 3) := by decide +kernel
theorem dX6_looksOf_32 : decode cX6_looksOf 32 = .ok (.imul, 1) := by decide +kernel
theorem dX6_looksOf_33 : decode cX6_looksOf 33 = .ok (.goto 4, 3) := by decide +kernel
theorem dX6_looksOf_36 : decode cX6_looksOf 36 = .ok (.iconst 0, 1) := by decide +kernel
theorem dX6_looksOf_37 : decode cX6_looksOf 37 = .ok (.iadd, 1) := by decide +kernel
theorem dX6_looksOf_38 : decode cX6_looksOf 38 = .ok (.istore_n 2, 1) := by decide +kernel
theorem dX6_looksOf_39 : decode cX6_looksOf 39 = .ok (.iinc 3 1, 3) := by decide +kernel
theorem dX6_looksOf_42 : decode cX6_looksOf 42 = .ok (.goto (-38), 3) := by decide +kernel
theorem dX6_looksOf_45 : decode cX6_looksOf 45 = .ok (.iload_n 2, 1) := by decide +kernel
theorem dX6_looksOf_46 : decode cX6_looksOf 46 = .ok (.ireturn, 1) := by decide +kernel
theorem dX6_ofSort_0 : decode cX6_ofSort 0 = .ok (.aload_n 0, 1) := by decide +kernel
theorem dX6_ofSort_1 : decode cX6_ofSort 1 = .ok (.iload_n 1, 1) := by decide +kernel
theorem dX6_ofSort_2 : decode cX6_ofSort 2 = .ok (.invokevirtual 153, 3) := by decide +kernel
theorem dX6_ofSort_5 : decode cX6_ofSort 5 = .ok (.ifCond .eq 5, 3) := by decide +kernel
theorem dX6_ofSort_8 : decode cX6_ofSort 8 = .ok (.iconst (-1), 1) := by decide +kernel
theorem dX6_ofSort_9 : decode cX6_ofSort 9 = .ok (.ireturn, 1) := by decide +kernel
theorem dX6_ofSort_10 : decode cX6_ofSort 10 = .ok (.iload_n 2, 1) := by decide +kernel
theorem dX6_ofSort_11 : decode cX6_ofSort 11 = .ok (.tableswitch 67 0 4 #[33, 40, 47, 54, 61], 33) := by decide +kernel
theorem dX6_ofSort_44 : decode cX6_ofSort 44 = .ok (.aload_n 0, 1) := by decide +kernel
theorem dX6_ofSort_45 : decode cX6_ofSort 45 = .ok (.getfield 7, 3) := by decide +kernel
theorem dX6_ofSort_48 : decode cX6_ofSort 48 = .ok (.iload_n 1, 1) := by decide +kernel
theorem dX6_ofSort_49 : decode cX6_ofSort 49 = .ok (.iaload, 1) := by decide +kernel
theorem dX6_ofSort_50 : decode cX6_ofSort 50 = .ok (.ireturn, 1) := by decide +kernel
theorem dX6_ofSort_51 : decode cX6_ofSort 51 = .ok (.aload_n 0, 1) := by decide +kernel
theorem dX6_ofSort_52 : decode cX6_ofSort 52 = .ok (.getfield 13, 3) := by decide +kernel
theorem dX6_ofSort_55 : decode cX6_ofSort 55 = .ok (.iload_n 1, 1) := by decide +kernel
theorem dX6_ofSort_56 : decode cX6_ofSort 56 = .ok (.iaload, 1) := by decide +kernel
theorem dX6_ofSort_57 : decode cX6_ofSort 57 = .ok (.ireturn, 1) := by decide +kernel
theorem dX6_ofSort_58 : decode cX6_ofSort 58 = .ok (.aload_n 0, 1) := by decide +kernel
theorem dX6_ofSort_59 : decode cX6_ofSort 59 = .ok (.getfield 16, 3) := by decide +kernel
theorem dX6_ofSort_62 : decode cX6_ofSort 62 = .ok (.iload_n 1, 1) := by decide +kernel
theorem dX6_ofSort_63 : decode cX6_ofSort 63 = .ok (.iaload, 1) := by decide +kernel
theorem dX6_ofSort_64 : decode cX6_ofSort 64 = .ok (.ireturn, 1) := by decide +kernel
theorem dX6_ofSort_65 : decode cX6_ofSort 65 = .ok (.aload_n 0, 1) := by decide +kernel
theorem dX6_ofSort_66 : decode cX6_ofSort 66 = .ok (.getfield 19, 3) := by decide +kernel
theorem dX6_ofSort_69 : decode cX6_ofSort 69 = .ok (.iload_n 1, 1) := by decide +kernel
theorem dX6_ofSort_70 : decode cX6_ofSort 70 = .ok (.iaload, 1) := by decide +kernel
theorem dX6_ofSort_71 : decode cX6_ofSort 71 = .ok (.ireturn, 1) := by decide +kernel
theorem dX6_ofSort_72 : decode cX6_ofSort 72 = .ok (.aload_n 0, 1) := by decide +kernel
theorem dX6_ofSort_73 : decode cX6_ofSort 73 = .ok (.iload_n 1, 1) := by decide +kernel
theorem dX6_ofSort_74 : decode cX6_ofSort 74 = .ok (.invokevirtual 150, 3) := by decide +kernel
theorem dX6_ofSort_77 : decode cX6_ofSort 77 = .ok (.ireturn, 1) := by decide +kernel
theorem dX6_ofSort_78 : decode cX6_ofSort 78 = .ok (.bipush (-2), 2) := by decide +kernel
theorem dX6_ofSort_80 : decode cX6_ofSort 80 = .ok (.ireturn, 1) := by decide +kernel
theorem dX6_ofSign_0 : decode cX6_ofSign 0 = .ok (.aload_n 0, 1) := by decide +kernel
theorem dX6_ofSign_1 : decode cX6_ofSign 1 = .ok (.iload_n 1, 1) := by decide +kernel
theorem dX6_ofSign_2 : decode cX6_ofSign 2 = .ok (.invokevirtual 156, 3) := by decide +kernel
theorem dX6_ofSign_5 : decode cX6_ofSign 5 = .ok (.ifCond .eq 7, 3) := by decide +kernel
theorem dX6_ofSign_8 : decode cX6_ofSign 8 = .ok (.iconst (-1), 1) := by decide +kernel
theorem dX6_ofSign_9 : decode cX6_ofSign 9 = .ok (.goto 14, 3) := by decide +kernel
theorem dX6_ofSign_12 : decode cX6_ofSign 12 = .ok (.aload_n 0, 1) := by decide +kernel
theorem dX6_ofSign_13 : decode cX6_ofSign 13 = .ok (.getfield 22, 3) := by decide +kernel
theorem dX6_ofSign_16 : decode cX6_ofSign 16 = .ok (.iload_n 1, 1) := by decide +kernel
theorem dX6_ofSign_17 : decode cX6_ofSign 17 = .ok (.iaload, 1) := by decide +kernel
theorem dX6_ofSign_18 : decode cX6_ofSign 18 = .ok (.aload_n 0, 1) := by decide +kernel
theorem dX6_ofSign_19 : decode cX6_ofSign 19 = .ok (.invokevirtual 159, 3) := by decide +kernel
theorem dX6_ofSign_22 : decode cX6_ofSign 22 = .ok (.iand, 1) := by decide +kernel
theorem dX6_ofSign_23 : decode cX6_ofSign 23 = .ok (.ireturn, 1) := by decide +kernel
theorem dX6_lay_0 : decode cX6_lay 0 = .ok (.aload_n 0, 1) := by decide +kernel
theorem dX6_lay_1 : decode cX6_lay 1 = .ok (.iload_n 1, 1) := by decide +kernel
theorem dX6_lay_2 : decode cX6_lay 2 = .ok (.invokevirtual 153, 3) := by decide +kernel
theorem dX6_lay_5 : decode cX6_lay 5 = .ok (.ifCond .eq 5, 3) := by decide +kernel
theorem dX6_lay_8 : decode cX6_lay 8 = .ok (.iconst (-1), 1) := by decide +kernel
theorem dX6_lay_9 : decode cX6_lay 9 = .ok (.ireturn, 1) := by decide +kernel
theorem dX6_lay_10 : decode cX6_lay 10 = .ok (.iload_n 2, 1) := by decide +kernel
theorem dX6_lay_11 : decode cX6_lay 11 = .ok (.i2l, 1) := by decide +kernel
theorem dX6_lay_12 : decode cX6_lay 12 = .ok (.lconst 0, 1) := by decide +kernel
theorem dX6_lay_13 : decode cX6_lay 13 = .ok (.ldc2_w 163, 3) := by decide +kernel
theorem dX6_lay_16 : decode cX6_lay 16 = .ok (.invokestatic 89, 3) := by decide +kernel
theorem dX6_lay_19 : decode cX6_lay 19 = .ok (.ifCond .ne 6, 3) := by decide +kernel
theorem dX6_lay_22 : decode cX6_lay 22 = .ok (.bipush (-2), 2) := by decide +kernel
theorem dX6_lay_24 : decode cX6_lay 24 = .ok (.ireturn, 1) := by decide +kernel
theorem dX6_lay_25 : decode cX6_lay 25 = .ok (.aload_n 0, 1) := by decide +kernel
theorem dX6_lay_26 : decode cX6_lay 26 = .ok (.getfield 13, 3) := by decide +kernel
theorem dX6_lay_29 : decode cX6_lay 29 = .ok (.iload_n 1, 1) := by decide +kernel
theorem dX6_lay_30 : decode cX6_lay 30 = .ok (.iaload, 1) := by decide +kernel
theorem dX6_lay_31 : decode cX6_lay 31 = .ok (.istore_n 3, 1) := by decide +kernel
theorem dX6_lay_32 : decode cX6_lay 32 = .ok (.aload_n 0, 1) := by decide +kernel
theorem dX6_lay_33 : decode cX6_lay 33 = .ok (.getfield 13, 3) := by decide +kernel
theorem dX6_lay_36 : decode cX6_lay 36 = .ok (.iload_n 1, 1) := by decide +kernel
theorem dX6_lay_37 : decode cX6_lay 37 = .ok (.iload_n 2, 1) := by decide +kernel
theorem dX6_lay_38 : decode cX6_lay 38 = .ok (.iastore, 1) := by decide +kernel
theorem dX6_lay_39 : decode cX6_lay 39 = .ok (.iload_n 3, 1) := by decide +kernel
theorem dX6_lay_40 : decode cX6_lay 40 = .ok (.ireturn, 1) := by decide +kernel
theorem dX6_sign_0 : decode cX6_sign 0 = .ok (.aload_n 0, 1) := by decide +kernel
theorem dX6_sign_1 : decode cX6_sign 1 = .ok (.iload_n 1, 1) := by decide +kernel
theorem dX6_sign_2 : decode cX6_sign 2 = .ok (.invokevirtual 156, 3) := by decide +kernel
theorem dX6_sign_5 : decode cX6_sign 5 = .ok (.ifCond .eq 5, 3) := by decide +kernel
theorem dX6_sign_8 : decode cX6_sign 8 = .ok (.iconst (-1), 1) := by decide +kernel
theorem dX6_sign_9 : decode cX6_sign 9 = .ok (.ireturn, 1) := by decide +kernel
theorem dX6_sign_10 : decode cX6_sign 10 = .ok (.iload_n 2, 1) := by decide +kernel
theorem dX6_sign_11 : decode cX6_sign 11 = .ok (.i2l, 1) := by decide +kernel
theorem dX6_sign_12 : decode cX6_sign 12 = .ok (.lconst 0, 1) := by decide +kernel
theorem dX6_sign_13 : decode cX6_sign 13 = .ok (.ldc2_w 165, 3) := by decide +kernel
theorem dX6_sign_16 : decode cX6_sign 16 = .ok (.invokestatic 89, 3) := by decide +kernel
theorem dX6_sign_19 : decode cX6_sign 19 = .ok (.ifCond .ne 6, 3) := by decide +kernel
theorem dX6_sign_22 : decode cX6_sign 22 = .ok (.bipush (-2), 2) := by decide +kernel
theorem dX6_sign_24 : decode cX6_sign 24 = .ok (.ireturn, 1) := by decide +kernel
theorem dX6_sign_25 : decode cX6_sign 25 = .ok (.aload_n 0, 1) := by decide +kernel
theorem dX6_sign_26 : decode cX6_sign 26 = .ok (.getfield 22, 3) := by decide +kernel
theorem dX6_sign_29 : decode cX6_sign 29 = .ok (.iload_n 1, 1) := by decide +kernel
theorem dX6_sign_30 : decode cX6_sign 30 = .ok (.iaload, 1) := by decide +kernel
theorem dX6_sign_31 : decode cX6_sign 31 = .ok (.aload_n 0, 1) := by decide +kernel
theorem dX6_sign_32 : decode cX6_sign 32 = .ok (.invokevirtual 159, 3) := by decide +kernel
theorem dX6_sign_35 : decode cX6_sign 35 = .ok (.iand, 1) := by decide +kernel
theorem dX6_sign_36 : decode cX6_sign 36 = .ok (.istore_n 3, 1) := by decide +kernel
theorem dX6_sign_37 : decode cX6_sign 37 = .ok (.aload_n 0, 1) := by decide +kernel
theorem dX6_sign_38 : decode cX6_sign 38 = .ok (.getfield 22, 3) := by decide +kernel
theorem dX6_sign_41 : decode cX6_sign 41 = .ok (.iload_n 1, 1) := by decide +kernel
theorem dX6_sign_42 : decode cX6_sign 42 = .ok (.iload_n 2, 1) := by decide +kernel
theorem dX6_sign_43 : decode cX6_sign 43 = .ok (.iastore, 1) := by decide +kernel
theorem dX6_sign_44 : decode cX6_sign 44 = .ok (.iload_n 3, 1) := by decide +kernel
theorem dX6_sign_45 : decode cX6_sign 45 = .ok (.ireturn, 1) := by decide +kernel
theorem dX6_begin_0 : decode cX6_begin 0 = .ok (.iconst 0, 1) := by decide +kernel
theorem dX6_begin_1 : decode cX6_begin 1 = .ok (.istore_n 1, 1) := by decide +kernel
theorem dX6_begin_2 : decode cX6_begin 2 = .ok (.iload_n 1, 1) := by decide +kernel
theorem dX6_begin_3 : decode cX6_begin 3 = .ok (.aload_n 0, 1) := by decide +kernel
theorem dX6_begin_4 : decode cX6_begin 4 = .ok (.getfield 86, 3) := by decide +kernel
theorem dX6_begin_7 : decode cX6_begin 7 = .ok (.if_icmp .ge 27, 3) := by decide +kernel
theorem dX6_begin_10 : decode cX6_begin 10 = .ok (.aload_n 0, 1) := by decide +kernel
theorem dX6_begin_11 : decode cX6_begin 11 = .ok (.getfield 40, 3) := by decide +kernel
theorem dX6_begin_14 : decode cX6_begin 14 = .ok (.iload_n 1, 1) := by decide +kernel
theorem dX6_begin_15 : decode cX6_begin 15 = .ok (.aload_n 0, 1) := by decide +kernel
theorem dX6_begin_16 : decode cX6_begin 16 = .ok (.invokevirtual 159, 3) := by decide +kernel
theorem dX6_begin_19 : decode cX6_begin 19 = .ok (.iastore, 1) := by decide +kernel
theorem dX6_begin_20 : decode cX6_begin 20 = .ok (.aload_n 0, 1) := by decide +kernel
theorem dX6_begin_21 : decode cX6_begin 21 = .ok (.getfield 43, 3) := by decide +kernel
theorem dX6_begin_24 : decode cX6_begin 24 = .ok (.iload_n 1, 1) := by decide +kernel
theorem dX6_begin_25 : decode cX6_begin 25 = .ok (.bipush (-9), 2) := by decide +kernel
theorem dX6_begin_27 : decode cX6_begin 27 = .ok (.iastore, 1) := by decide +kernel
theorem dX6_begin_28 : decode cX6_begin 28 = .ok (.iinc 1 1, 3) := by decide +kernel
theorem dX6_begin_31 : decode cX6_begin 31 = .ok (.goto (-29), 3) := by decide +kernel
theorem dX6_begin_34 : decode cX6_begin 34 = .ok (.aload_n 0, 1) := by decide +kernel
theorem dX6_begin_35 : decode cX6_begin 35 = .ok (.iconst 0, 1) := by decide +kernel
theorem dX6_begin_36 : decode cX6_begin 36 = .ok (.putfield 167, 3) := by decide +kernel
theorem dX6_begin_39 : decode cX6_begin 39 = .ok (.aload_n 0, 1) := by decide +kernel
theorem dX6_begin_40 : decode cX6_begin 40 = .ok (.bipush (-9), 2) := by decide +kernel
theorem dX6_begin_42 : decode cX6_begin 42 = .ok (.putfield 170, 3) := by decide +kernel
theorem dX6_begin_45 : decode cX6_begin 45 = .ok (.return_, 1) := by decide +kernel
theorem dX6_isAlone_0 : decode cX6_isAlone 0 = .ok (.aload_n 0, 1) := by decide +kernel
theorem dX6_isAlone_1 : decode cX6_isAlone 1 = .ok (.getfield 40, 3) := by decide +kernel
theorem dX6_isAlone_4 : decode cX6_isAlone 4 = .ok (.iload_n 1, 1) := by decide +kernel
theorem dX6_isAlone_5 : decode cX6_isAlone 5 = .ok (.iaload, 1) := by decide +kernel
theorem dX6_isAlone_6 : decode cX6_isAlone 6 = .ok (.iconst 1, 1) := by decide +kernel
theorem dX6_isAlone_7 : decode cX6_isAlone 7 = .ok (.iload_n 1, 1) := by decide +kernel
theorem dX6_isAlone_8 : decode cX6_isAlone 8 = .ok (.ishl, 1) := by decide +kernel
theorem dX6_isAlone_9 : decode cX6_isAlone 9 = .ok (.if_icmp .ne 7, 3) := by decide +kernel
theorem dX6_isAlone_12 : decode cX6_isAlone 12 = .ok (.iconst 1, 1) := by decide +kernel
theorem dX6_isAlone_13 : decode cX6_isAlone 13 = .ok (.goto 4, 3) := by decide +kernel
theorem dX6_isAlone_16 : decode cX6_isAlone 16 = .ok (.iconst 0, 1) := by decide +kernel
theorem dX6_isAlone_17 : decode cX6_isAlone 17 = .ok (.ireturn, 1) := by decide +kernel
theorem dX6_goPass_0 : decode cX6_goPass 0 = .ok (.iconst 0, 1) := by decide +kernel
theorem dX6_goPass_1 : decode cX6_goPass 1 = .ok (.istore_n 3, 1) := by decide +kernel
theorem dX6_goPass_2 : decode cX6_goPass 2 = .ok (.iconst 0, 1) := by decide +kernel
theorem dX6_goPass_3 : decode cX6_goPass 3 = .ok (.istore 4, 2) := by decide +kernel
theorem dX6_goPass_5 : decode cX6_goPass 5 = .ok (.iconst 0, 1) := by decide +kernel
theorem dX6_goPass_6 : decode cX6_goPass 6 = .ok (.istore 5, 2) := by decide +kernel
theorem dX6_goPass_8 : decode cX6_goPass 8 = .ok (.iload 5, 2) := by decide +kernel
theorem dX6_goPass_10 : decode cX6_goPass 10 = .ok (.aload_n 0, 1) := by decide +kernel
theorem dX6_goPass_11 : decode cX6_goPass 11 = .ok (.getfield 86, 3) := by decide +kernel
theorem dX6_goPass_14 : decode cX6_goPass 14 = .ok (.if_icmp .ge 31, 3) := by decide +kernel
theorem dX6_goPass_17 : decode cX6_goPass 17 = .ok (.iload 4, 2) := by decide +kernel
theorem dX6_goPass_19 : decode cX6_goPass 19 = .ok (.aload_n 0, 1) := by decide +kernel
theorem dX6_goPass_20 : decode cX6_goPass 20 = .ok (.iload 5, 2) := by decide +kernel
theorem dX6_goPass_22 : decode cX6_goPass 22 = .ok (.invokevirtual 173, 3) := by decide +kernel
theorem dX6_goPass_25 : decode cX6_goPass 25 = .ok (.ifCond .eq 7, 3) := by decide +kernel
theorem dX6_goPass_28 : decode cX6_goPass 28 = .ok (.iconst 0, 1) := by decide +kernel
theorem dX6_goPass_29 : decode cX6_goPass 29 = .ok (.goto 7, 3) := by decide +kernel
theorem dX6_goPass_32 : decode cX6_goPass 32 = .ok (.iconst 1, 1) := by decide +kernel
theorem dX6_goPass_33 : decode cX6_goPass 33 = .ok (.iload 5, 2) := by decide +kernel
theorem dX6_goPass_35 : decode cX6_goPass 35 = .ok (.ishl, 1) := by decide +kernel
theorem dX6_goPass_36 : decode cX6_goPass 36 = .ok (.ior, 1) := by decide +kernel
theorem dX6_goPass_37 : decode cX6_goPass 37 = .ok (.istore 4, 2) := by decide +kernel
theorem dX6_goPass_39 : decode cX6_goPass 39 = .ok (.iinc 5 1, 3) := by decide +kernel
theorem dX6_goPass_42 : decode cX6_goPass 42 = .ok (.goto (-34), 3) := by decide +kernel
theorem dX6_goPass_45 : decode cX6_goPass 45 = .ok (.iconst 0, 1) := by decide +kernel
theorem dX6_goPass_46 : decode cX6_goPass 46 = .ok (.istore 5, 2) := by decide +kernel
theorem dX6_goPass_48 : decode cX6_goPass 48 = .ok (.iload 5, 2) := by decide +kernel
theorem dX6_goPass_50 : decode cX6_goPass 50 = .ok (.aload_n 0, 1) := by decide +kernel
theorem dX6_goPass_51 : decode cX6_goPass 51 = .ok (.getfield 86, 3) := by decide +kernel
theorem dX6_goPass_54 : decode cX6_goPass 54 = .ok (.if_icmp .ge 89, 3) := by decide +kernel
theorem dX6_goPass_57 : decode cX6_goPass 57 = .ok (.aload_n 0, 1) := by decide +kernel
theorem dX6_goPass_58 : decode cX6_goPass 58 = .ok (.getfield 22, 3) := by decide +kernel
theorem dX6_goPass_61 : decode cX6_goPass 61 = .ok (.iload_n 1, 1) := by decide +kernel
theorem dX6_goPass_62 : decode cX6_goPass 62 = .ok (.iaload, 1) := by decide +kernel
theorem dX6_goPass_63 : decode cX6_goPass 63 = .ok (.iload 5, 2) := by decide +kernel
theorem dX6_goPass_65 : decode cX6_goPass 65 = .ok (.invokestatic 147, 3) := by decide +kernel
theorem dX6_goPass_68 : decode cX6_goPass 68 = .ok (.ifCond .eq 20, 3) := by decide +kernel
theorem dX6_goPass_71 : decode cX6_goPass 71 = .ok (.aload_n 0, 1) := by decide +kernel
theorem dX6_goPass_72 : decode cX6_goPass 72 = .ok (.getfield 40, 3) := by decide +kernel
theorem dX6_goPass_75 : decode cX6_goPass 75 = .ok (.iload 5, 2) := by decide +kernel
theorem dX6_goPass_77 : decode cX6_goPass 77 = .ok (.iaload, 1) := by decide +kernel
theorem dX6_goPass_78 : decode cX6_goPass 78 = .ok (.aload_n 0, 1) := by decide +kernel
theorem dX6_goPass_79 : decode cX6_goPass 79 = .ok (.getfield 22, 3) := by decide +kernel
theorem dX6_goPass_82 : decode cX6_goPass 82 = .ok (.iload_n 1, 1) := by decide +kernel
theorem dX6_goPass_83 : decode cX6_goPass 83 = .ok (.iaload, 1) := by decide +kernel
theorem dX6_goPass_84 : decode cX6_goPass 84 = .ok (.iand, 1) := by decide +kernel
theorem dX6_goPass_85 : decode cX6_goPass 85 = .ok (.goto 19, 3) := by decide +kernel
theorem dX6_goPass_88 : decode cX6_goPass 88 = .ok (.aload_n 0, 1) := by decide +kernel
theorem dX6_goPass_89 : decode cX6_goPass 89 = .ok (.getfield 40, 3) := by decide +kernel
theorem dX6_goPass_92 : decode cX6_goPass 92 = .ok (.iload 5, 2) := by decide +kernel
theorem dX6_goPass_94 : decode cX6_goPass 94 = .ok (.iaload, 1) := by decide +kernel
theorem dX6_goPass_95 : decode cX6_goPass 95 = .ok (.aload_n 0, 1) := by decide +kernel
theorem dX6_goPass_96 : decode cX6_goPass 96 = .ok (.getfield 22, 3) := by decide +kernel
theorem dX6_goPass_99 : decode cX6_goPass 99 = .ok (.iload_n 1, 1) := by decide +kernel
theorem dX6_goPass_100 : decode cX6_goPass 100 = .ok (.iaload, 1) := by decide +kernel
theorem dX6_goPass_101 : decode cX6_goPass 101 = .ok (.iconst (-1), 1) := by decide +kernel
theorem dX6_goPass_102 : decode cX6_goPass 102 = .ok (.ixor, 1) := by decide +kernel
theorem dX6_goPass_103 : decode cX6_goPass 103 = .ok (.iand, 1) := by decide +kernel
theorem dX6_goPass_104 : decode cX6_goPass 104 = .ok (.istore 6, 2) := by decide +kernel
theorem dX6_goPass_106 : decode cX6_goPass 106 = .ok (.iload_n 3, 1) := by decide +kernel
theorem dX6_goPass_107 : decode cX6_goPass 107 = .ok (.ifCond .ne 15, 3) := by decide +kernel
theorem dX6_goPass_110 : decode cX6_goPass 110 = .ok (.iload 6, 2) := by decide +kernel
theorem dX6_goPass_112 : decode cX6_goPass 112 = .ok (.aload_n 0, 1) := by decide +kernel
theorem dX6_goPass_113 : decode cX6_goPass 113 = .ok (.getfield 40, 3) := by decide +kernel
theorem dX6_goPass_116 : decode cX6_goPass 116 = .ok (.iload 5, 2) := by decide +kernel
theorem dX6_goPass_118 : decode cX6_goPass 118 = .ok (.iaload, 1) := by decide +kernel
theorem dX6_goPass_119 : decode cX6_goPass 119 = .ok (.if_icmp .eq 7, 3) := by decide +kernel
theorem dX6_goPass_122 : decode cX6_goPass 122 = .ok (.iconst 1, 1) := by decide +kernel
theorem dX6_goPass_123 : decode cX6_goPass 123 = .ok (.goto 4, 3) := by decide +kernel
theorem dX6_goPass_126 : decode cX6_goPass 126 = .ok (.iconst 0, 1) := by decide +kernel
theorem dX6_goPass_127 : decode cX6_goPass 127 = .ok (.istore_n 3, 1) := by decide +kernel
theorem dX6_goPass_128 : decode cX6_goPass 128 = .ok (.aload_n 0, 1) := by decide +kernel
theorem dX6_goPass_129 : decode cX6_goPass 129 = .ok (.getfield 40, 3) := by decide +kernel
theorem dX6_goPass_132 : decode cX6_goPass 132 = .ok (.iload 5, 2) := by decide +kernel
theorem dX6_goPass_134 : decode cX6_goPass 134 = .ok (.iload 6, 2) := by decide +kernel
theorem dX6_goPass_136 : decode cX6_goPass 136 = .ok (.iastore, 1) := by decide +kernel
theorem dX6_goPass_137 : decode cX6_goPass 137 = .ok (.iinc 5 1, 3) := by decide +kernel
theorem dX6_goPass_140 : decode cX6_goPass 140 = .ok (.goto (-92), 3) := by decide +kernel
theorem dX6_goPass_143 : decode cX6_goPass 143 = .ok (.aload_n 0, 1) := by decide +kernel
theorem dX6_goPass_144 : decode cX6_goPass 144 = .ok (.dup, 1) := by decide +kernel
theorem dX6_goPass_145 : decode cX6_goPass 145 = .ok (.getfield 167, 3) := by decide +kernel
theorem dX6_goPass_148 : decode cX6_goPass 148 = .ok (.aload_n 0, 1) := by decide +kernel
theorem dX6_goPass_149 : decode cX6_goPass 149 = .ok (.iload 4, 2) := by decide +kernel
theorem dX6_goPass_151 : decode cX6_goPass 151 = .ok (.invokevirtual 176, 3) := by decide +kernel
theorem dX6_goPass_154 : decode cX6_goPass 154 = .ok (.iadd, 1) := by decide +kernel
theorem dX6_goPass_155 : decode cX6_goPass 155 = .ok (.putfield 167, 3) := by decide +kernel
theorem dX6_goPass_158 : decode cX6_goPass 158 = .ok (.iconst 0, 1) := by decide +kernel
theorem dX6_goPass_159 : decode cX6_goPass 159 = .ok (.istore 5, 2) := by decide +kernel
theorem dX6_goPass_161 : decode cX6_goPass 161 = .ok (.iload 5, 2) := by decide +kernel
theorem dX6_goPass_163 : decode cX6_goPass 163 = .ok (.aload_n 0, 1) := by decide +kernel
theorem dX6_goPass_164 : decode cX6_goPass 164 = .ok (.getfield 86, 3) := by decide +kernel
theorem dX6_goPass_167 : decode cX6_goPass 167 = .ok (.if_icmp .ge 49, 3) := by decide +kernel
theorem dX6_goPass_170 : decode cX6_goPass 170 = .ok (.aload_n 0, 1) := by decide +kernel
theorem dX6_goPass_171 : decode cX6_goPass 171 = .ok (.getfield 43, 3) := by decide +kernel
theorem dX6_goPass_174 : decode cX6_goPass 174 = .ok (.iload 5, 2) := by decide +kernel
theorem dX6_goPass_176 : decode cX6_goPass 176 = .ok (.aload_n 0, 1) := by decide +kernel
theorem dX6_goPass_177 : decode cX6_goPass 177 = .ok (.getfield 43, 3) := by decide +kernel
theorem dX6_goPass_180 : decode cX6_goPass 180 = .ok (.iload 5, 2) := by decide +kernel
theorem dX6_goPass_182 : decode cX6_goPass 182 = .ok (.iaload, 1) := by decide +kernel
theorem dX6_goPass_183 : decode cX6_goPass 183 = .ok (.ifCond .ge 19, 3) := by decide +kernel
theorem dX6_goPass_186 : decode cX6_goPass 186 = .ok (.aload_n 0, 1) := by decide +kernel
theorem dX6_goPass_187 : decode cX6_goPass 187 = .ok (.iload 5, 2) := by decide +kernel
theorem dX6_goPass_189 : decode cX6_goPass 189 = .ok (.invokevirtual 173, 3) := by decide +kernel
theorem dX6_goPass_192 : decode cX6_goPass 192 = .ok (.ifCond .eq 10, 3) := by decide +kernel
theorem dX6_goPass_195 : decode cX6_goPass 195 = .ok (.aload_n 0, 1) := by decide +kernel
theorem dX6_goPass_196 : decode cX6_goPass 196 = .ok (.getfield 167, 3) := by decide +kernel
theorem dX6_goPass_199 : decode cX6_goPass 199 = .ok (.goto 10, 3) := by decide +kernel
theorem dX6_goPass_202 : decode cX6_goPass 202 = .ok (.aload_n 0, 1) := by decide +kernel
theorem dX6_goPass_203 : decode cX6_goPass 203 = .ok (.getfield 43, 3) := by decide +kernel
theorem dX6_goPass_206 : decode cX6_goPass 206 = .ok (.iload 5, 2) := by decide +kernel
theorem dX6_goPass_208 : decode cX6_goPass 208 = .ok (.iaload, 1) := by decide +kernel
theorem dX6_goPass_209 : decode cX6_goPass 209 = .ok (.iastore, 1) := by decide +kernel
theorem dX6_goPass_210 : decode cX6_goPass 210 = .ok (.iinc 5 1, 3) := by decide +kernel
theorem dX6_goPass_213 : decode cX6_goPass 213 = .ok (.goto (-52), 3) := by decide +kernel
theorem dX6_goPass_216 : decode cX6_goPass 216 = .ok (.aload_n 0, 1) := by decide +kernel
theorem dX6_goPass_217 : decode cX6_goPass 217 = .ok (.aload_n 0, 1) := by decide +kernel
theorem dX6_goPass_218 : decode cX6_goPass 218 = .ok (.getfield 170, 3) := by decide +kernel
theorem dX6_goPass_221 : decode cX6_goPass 221 = .ok (.ifCond .ge 11, 3) := by decide +kernel
theorem dX6_goPass_224 : decode cX6_goPass 224 = .ok (.iload_n 3, 1) := by decide +kernel
theorem dX6_goPass_225 : decode cX6_goPass 225 = .ok (.ifCond .ne 7, 3) := by decide +kernel
theorem dX6_goPass_228 : decode cX6_goPass 228 = .ok (.iload_n 2, 1) := by decide +kernel
theorem dX6_goPass_229 : decode cX6_goPass 229 = .ok (.goto 7, 3) := by decide +kernel
theorem dX6_goPass_232 : decode cX6_goPass 232 = .ok (.aload_n 0, 1) := by decide +kernel
theorem dX6_goPass_233 : decode cX6_goPass 233 = .ok (.getfield 170, 3) := by decide +kernel
theorem dX6_goPass_236 : decode cX6_goPass 236 = .ok (.putfield 170, 3) := by decide +kernel
theorem dX6_goPass_239 : decode cX6_goPass 239 = .ok (.return_, 1) := by decide +kernel
theorem dX6_goPlan_0 : decode cX6_goPlan 0 = .ok (.aload_n 0, 1) := by decide +kernel
theorem dX6_goPlan_1 : decode cX6_goPlan 1 = .ok (.invokevirtual 179, 3) := by decide +kernel
theorem dX6_goPlan_4 : decode cX6_goPlan 4 = .ok (.iconst 0, 1) := by decide +kernel
theorem dX6_goPlan_5 : decode cX6_goPlan 5 = .ok (.istore_n 3, 1) := by decide +kernel
theorem dX6_goPlan_6 : decode cX6_goPlan 6 = .ok (.iload_n 3, 1) := by decide +kernel
theorem dX6_goPlan_7 : decode cX6_goPlan 7 = .ok (.iload_n 2, 1) := by decide +kernel
theorem dX6_goPlan_8 : decode cX6_goPlan 8 = .ok (.if_icmp .ge 22, 3) := by decide +kernel
theorem dX6_goPlan_11 : decode cX6_goPlan 11 = .ok (.aload_n 0, 1) := by decide +kernel
theorem dX6_goPlan_12 : decode cX6_goPlan 12 = .ok (.aload_n 0, 1) := by decide +kernel
theorem dX6_goPlan_13 : decode cX6_goPlan 13 = .ok (.getfield 70, 3) := by decide +kernel
theorem dX6_goPlan_16 : decode cX6_goPlan 16 = .ok (.iload_n 1, 1) := by decide +kernel
theorem dX6_goPlan_17 : decode cX6_goPlan 17 = .ok (.iload_n 3, 1) := by decide +kernel
theorem dX6_goPlan_18 : decode cX6_goPlan 18 = .ok (.iadd, 1) := by decide +kernel
theorem dX6_goPlan_19 : decode cX6_goPlan 19 = .ok (.iaload, 1) := by decide +kernel
theorem dX6_goPlan_20 : decode cX6_goPlan 20 = .ok (.iload_n 3, 1) := by decide +kernel
theorem dX6_goPlan_21 : decode cX6_goPlan 21 = .ok (.invokevirtual 182, 3) := by decide +kernel
theorem dX6_goPlan_24 : decode cX6_goPlan 24 = .ok (.iinc 3 1, 3) := by decide +kernel
theorem dX6_goPlan_27 : decode cX6_goPlan 27 = .ok (.goto (-21), 3) := by decide +kernel
