theorem dX6_goPlan_30 : decode cX6_goPlan 30 = .ok (.return_, 1) := by decide +kernel
theorem dX6_readyNow_0 : decode cX6_readyNow 0 = .ok (.iconst 0, 1) := by decide +kernel
theorem dX6_readyNow_1 : decode cX6_readyNow 1 = .ok (.istore_n 1, 1) := by decide +kernel
theorem dX6_readyNow_2 : decode cX6_readyNow 2 = .ok (.iconst 0, 1) := by decide +kernel
theorem dX6_readyNow_3 : decode cX6_readyNow 3 = .ok (.istore_n 2, 1) := by decide +kernel
theorem dX6_readyNow_4 : decode cX6_readyNow 4 = .ok (.iload_n 2, 1) := by decide +kernel
theorem dX6_readyNow_5 : decode cX6_readyNow 5 = .ok (.aload_n 0, 1) := by decide +kernel
theorem dX6_readyNow_6 : decode cX6_readyNow 6 = .ok (.getfield 86, 3) := by decide +kernel
theorem dX6_readyNow_9 : decode cX6_readyNow 9 = .ok (.if_icmp .ge 27, 3) := by decide +kernel
theorem dX6_readyNow_12 : decode cX6_readyNow 12 = .ok (.iload_n 1, 1) := by decide +kernel
theorem dX6_readyNow_13 : decode cX6_readyNow 13 = .ok (.aload_n 0, 1) := by decide +kernel
theorem dX6_readyNow_14 : decode cX6_readyNow 14 = .ok (.iload_n 2, 1) := by decide +kernel
theorem dX6_readyNow_15 : decode cX6_readyNow 15 = .ok (.invokevirtual 173, 3) := by decide +kernel
theorem dX6_readyNow_18 : decode cX6_readyNow 18 = .ok (.ifCond .eq 9, 3) := by decide +kernel
theorem dX6_readyNow_21 : decode cX6_readyNow 21 = .ok (.iconst 1, 1) := by decide +kernel
theorem dX6_readyNow_22 : decode cX6_readyNow 22 = .ok (.iload_n 2, 1) := by decide +kernel
theorem dX6_readyNow_23 : decode cX6_readyNow 23 = .ok (.ishl, 1) := by decide +kernel
theorem dX6_readyNow_24 : decode cX6_readyNow 24 = .ok (.goto 4, 3) := by decide +kernel
theorem dX6_readyNow_27 : decode cX6_readyNow 27 = .ok (.iconst 0, 1) := by decide +kernel
theorem dX6_readyNow_28 : decode cX6_readyNow 28 = .ok (.ior, 1) := by decide +kernel
theorem dX6_readyNow_29 : decode cX6_readyNow 29 = .ok (.istore_n 1, 1) := by decide +kernel
theorem dX6_readyNow_30 : decode cX6_readyNow 30 = .ok (.iinc 2 1, 3) := by decide +kernel
theorem dX6_readyNow_33 : decode cX6_readyNow 33 = .ok (.goto (-29), 3) := by decide +kernel
theorem dX6_readyNow_36 : decode cX6_readyNow 36 = .ok (.iload_n 1, 1) := by decide +kernel
theorem dX6_readyNow_37 : decode cX6_readyNow 37 = .ok (.ireturn, 1) := by decide +kernel
theorem dX6_leastOf_0 : decode cX6_leastOf 0 = .ok (.iconst 0, 1) := by decide +kernel
theorem dX6_leastOf_1 : decode cX6_leastOf 1 = .ok (.istore_n 2, 1) := by decide +kernel
theorem dX6_leastOf_2 : decode cX6_leastOf 2 = .ok (.aload_n 0, 1) := by decide +kernel
theorem dX6_leastOf_3 : decode cX6_leastOf 3 = .ok (.getfield 40, 3) := by decide +kernel
theorem dX6_leastOf_6 : decode cX6_leastOf 6 = .ok (.iload_n 1, 1) := by decide +kernel
theorem dX6_leastOf_7 : decode cX6_leastOf 7 = .ok (.iaload, 1) := by decide +kernel
theorem dX6_leastOf_8 : decode cX6_leastOf 8 = .ok (.iload_n 2, 1) := by decide +kernel
theorem dX6_leastOf_9 : decode cX6_leastOf 9 = .ok (.invokestatic 147, 3) := by decide +kernel
theorem dX6_leastOf_12 : decode cX6_leastOf 12 = .ok (.ifCond .ne 9, 3) := by decide +kernel
theorem dX6_leastOf_15 : decode cX6_leastOf 15 = .ok (.iinc 2 1, 3) := by decide +kernel
theorem dX6_leastOf_18 : decode cX6_leastOf 18 = .ok (.goto (-16), 3) := by decide +kernel
theorem dX6_leastOf_21 : decode cX6_leastOf 21 = .ok (.iload_n 2, 1) := by decide +kernel
theorem dX6_leastOf_22 : decode cX6_leastOf 22 = .ok (.ireturn, 1) := by decide +kernel
theorem dX6_heapsNow_0 : decode cX6_heapsNow 0 = .ok (.iconst 0, 1) := by decide +kernel
theorem dX6_heapsNow_1 : decode cX6_heapsNow 1 = .ok (.istore_n 1, 1) := by decide +kernel
theorem dX6_heapsNow_2 : decode cX6_heapsNow 2 = .ok (.iconst 0, 1) := by decide +kernel
theorem dX6_heapsNow_3 : decode cX6_heapsNow 3 = .ok (.istore_n 2, 1) := by decide +kernel
theorem dX6_heapsNow_4 : decode cX6_heapsNow 4 = .ok (.iload_n 2, 1) := by decide +kernel
theorem dX6_heapsNow_5 : decode cX6_heapsNow 5 = .ok (.aload_n 0, 1) := by decide +kernel
theorem dX6_heapsNow_6 : decode cX6_heapsNow 6 = .ok (.getfield 86, 3) := by decide +kernel
theorem dX6_heapsNow_9 : decode cX6_heapsNow 9 = .ok (.if_icmp .ge 26, 3) := by decide +kernel
theorem dX6_heapsNow_12 : decode cX6_heapsNow 12 = .ok (.iload_n 1, 1) := by decide +kernel
theorem dX6_heapsNow_13 : decode cX6_heapsNow 13 = .ok (.aload_n 0, 1) := by decide +kernel
theorem dX6_heapsNow_14 : decode cX6_heapsNow 14 = .ok (.iload_n 2, 1) := by decide +kernel
theorem dX6_heapsNow_15 : decode cX6_heapsNow 15 = .ok (.invokevirtual 186, 3) := by decide +kernel
theorem dX6_heapsNow_18 : decode cX6_heapsNow 18 = .ok (.iload_n 2, 1) := by decide +kernel
theorem dX6_heapsNow_19 : decode cX6_heapsNow 19 = .ok (.if_icmp .ne 7, 3) := by decide +kernel
theorem dX6_heapsNow_22 : decode cX6_heapsNow 22 = .ok (.iconst 1, 1) := by decide +kernel
theorem dX6_heapsNow_23 : decode cX6_heapsNow 23 = .ok (.goto 4, 3) := by decide +kernel
theorem dX6_heapsNow_26 : decode cX6_heapsNow 26 = .ok (.iconst 0, 1) := by decide +kernel
theorem dX6_heapsNow_27 : decode cX6_heapsNow 27 = .ok (.iadd, 1) := by decide +kernel
theorem dX6_heapsNow_28 : decode cX6_heapsNow 28 = .ok (.istore_n 1, 1) := by decide +kernel
theorem dX6_heapsNow_29 : decode cX6_heapsNow 29 = .ok (.iinc 2 1, 3) := by decide +kernel
theorem dX6_heapsNow_32 : decode cX6_heapsNow 32 = .ok (.goto (-28), 3) := by decide +kernel
theorem dX6_heapsNow_35 : decode cX6_heapsNow 35 = .ok (.iload_n 1, 1) := by decide +kernel
theorem dX6_heapsNow_36 : decode cX6_heapsNow 36 = .ok (.ireturn, 1) := by decide +kernel
theorem dX6_rowBarred_0 : decode cX6_rowBarred 0 = .ok (.aload_n 0, 1) := by decide +kernel
theorem dX6_rowBarred_1 : decode cX6_rowBarred 1 = .ok (.iload_n 1, 1) := by decide +kernel
theorem dX6_rowBarred_2 : decode cX6_rowBarred 2 = .ok (.iload_n 2, 1) := by decide +kernel
theorem dX6_rowBarred_3 : decode cX6_rowBarred 3 = .ok (.iload_n 3, 1) := by decide +kernel
theorem dX6_rowBarred_4 : decode cX6_rowBarred 4 = .ok (.iload 4, 2) := by decide +kernel
theorem dX6_rowBarred_6 : decode cX6_rowBarred 6 = .ok (.i2l, 1) := by decide +kernel
theorem dX6_rowBarred_7 : decode cX6_rowBarred 7 = .ok (.invokevirtual 137, 3) := by decide +kernel
theorem dX6_rowBarred_10 : decode cX6_rowBarred 10 = .ok (.istore 6, 2) := by decide +kernel
theorem dX6_rowBarred_12 : decode cX6_rowBarred 12 = .ok (.iload 6, 2) := by decide +kernel
theorem dX6_rowBarred_14 : decode cX6_rowBarred 14 = .ok (.ifCond .ge 6, 3) := by decide +kernel
theorem dX6_rowBarred_17 : decode cX6_rowBarred 17 = .ok (.iload 6, 2) := by decide +kernel
theorem dX6_rowBarred_19 : decode cX6_rowBarred 19 = .ok (.ireturn, 1) := by decide +kernel
theorem dX6_rowBarred_20 : decode cX6_rowBarred 20 = .ok (.iconst 0, 1) := by decide +kernel
theorem dX6_rowBarred_21 : decode cX6_rowBarred 21 = .ok (.istore 7, 2) := by decide +kernel
theorem dX6_rowBarred_23 : decode cX6_rowBarred 23 = .ok (.iload 7, 2) := by decide +kernel
theorem dX6_rowBarred_25 : decode cX6_rowBarred 25 = .ok (.iload 4, 2) := by decide +kernel
theorem dX6_rowBarred_27 : decode cX6_rowBarred 27 = .ok (.if_icmp .ge 57, 3) := by decide +kernel
theorem dX6_rowBarred_30 : decode cX6_rowBarred 30 = .ok (.aload_n 0, 1) := by decide +kernel
theorem dX6_rowBarred_31 : decode cX6_rowBarred 31 = .ok (.getfield 70, 3) := by decide +kernel
theorem dX6_rowBarred_34 : decode cX6_rowBarred 34 = .ok (.bipush 60, 2) := by decide +kernel
theorem dX6_rowBarred_36 : decode cX6_rowBarred 36 = .ok (.iload_n 1, 1) := by decide +kernel
theorem dX6_rowBarred_37 : decode cX6_rowBarred 37 = .ok (.imul, 1) := by decide +kernel
theorem dX6_rowBarred_38 : decode cX6_rowBarred 38 = .ok (.iload_n 3, 1) := by decide +kernel
theorem dX6_rowBarred_39 : decode cX6_rowBarred 39 = .ok (.iadd, 1) := by decide +kernel
theorem dX6_rowBarred_40 : decode cX6_rowBarred 40 = .ok (.iload 7, 2) := by decide +kernel
theorem dX6_rowBarred_42 : decode cX6_rowBarred 42 = .ok (.iadd, 1) := by decide +kernel
theorem dX6_rowBarred_43 : decode cX6_rowBarred 43 = .ok (.iaload, 1) := by decide +kernel
theorem dX6_rowBarred_44 : decode cX6_rowBarred 44 = .ok (.istore 8, 2) := by decide +kernel
theorem dX6_rowBarred_46 : decode cX6_rowBarred 46 = .ok (.iload 5, 2) := by decide +kernel
theorem dX6_rowBarred_48 : decode cX6_rowBarred 48 = .ok (.ifCond .eq 15, 3) := by decide +kernel
theorem dX6_rowBarred_51 : decode cX6_rowBarred 51 = .ok (.aload_n 0, 1) := by decide +kernel
theorem dX6_rowBarred_52 : decode cX6_rowBarred 52 = .ok (.iload 8, 2) := by decide +kernel
theorem dX6_rowBarred_54 : decode cX6_rowBarred 54 = .ok (.invokevirtual 156, 3) := by decide +kernel
theorem dX6_rowBarred_57 : decode cX6_rowBarred 57 = .ok (.ifCond .eq 21, 3) := by decide +kernel
theorem dX6_rowBarred_60 : decode cX6_rowBarred 60 = .ok (.goto 12, 3) := by decide +kernel
theorem dX6_rowBarred_63 : decode cX6_rowBarred 63 = .ok (.aload_n 0, 1) := by decide +kernel
theorem dX6_rowBarred_64 : decode cX6_rowBarred 64 = .ok (.iload 8, 2) := by decide +kernel
theorem dX6_rowBarred_66 : decode cX6_rowBarred 66 = .ok (.invokevirtual 153, 3) := by decide +kernel
theorem dX6_rowBarred_69 : decode cX6_rowBarred 69 = .ok (.ifCond .eq 9, 3) := by decide +kernel
theorem dX6_rowBarred_72 : decode cX6_rowBarred 72 = .ok (.aload_n 0, 1) := by decide +kernel
theorem dX6_rowBarred_73 : decode cX6_rowBarred 73 = .ok (.iconst (-1), 1) := by decide +kernel
theorem dX6_rowBarred_74 : decode cX6_rowBarred 74 = .ok (.invokevirtual 132, 3) := by decide +kernel
theorem dX6_rowBarred_77 : decode cX6_rowBarred 77 = .ok (.ireturn, 1) := by decide +kernel
theorem dX6_rowBarred_78 : decode cX6_rowBarred 78 = .ok (.iinc 7 1, 3) := by decide +kernel
theorem dX6_rowBarred_81 : decode cX6_rowBarred 81 = .ok (.goto (-58), 3) := by decide +kernel
theorem dX6_rowBarred_84 : decode cX6_rowBarred 84 = .ok (.aload_n 0, 1) := by decide +kernel
theorem dX6_rowBarred_85 : decode cX6_rowBarred 85 = .ok (.iconst 0, 1) := by decide +kernel
theorem dX6_rowBarred_86 : decode cX6_rowBarred 86 = .ok (.invokevirtual 132, 3) := by decide +kernel
theorem dX6_rowBarred_89 : decode cX6_rowBarred 89 = .ok (.ireturn, 1) := by decide +kernel
theorem dX6_plan_0 : decode cX6_plan 0 = .ok (.iload_n 1, 1) := by decide +kernel
theorem dX6_plan_1 : decode cX6_plan 1 = .ok (.invokestatic 128, 3) := by decide +kernel
theorem dX6_plan_4 : decode cX6_plan 4 = .ok (.ifCond .eq 9, 3) := by decide +kernel
theorem dX6_plan_7 : decode cX6_plan 7 = .ok (.aload_n 0, 1) := by decide +kernel
theorem dX6_plan_8 : decode cX6_plan 8 = .ok (.iconst (-1), 1) := by decide +kernel
theorem dX6_plan_9 : decode cX6_plan 9 = .ok (.invokevirtual 132, 3) := by decide +kernel
theorem dX6_plan_12 : decode cX6_plan 12 = .ok (.ireturn, 1) := by decide +kernel
theorem dX6_plan_13 : decode cX6_plan 13 = .ok (.iload 5, 2) := by decide +kernel
theorem dX6_plan_15 : decode cX6_plan 15 = .ok (.i2l, 1) := by decide +kernel
theorem dX6_plan_16 : decode cX6_plan 16 = .ok (.lconst 0, 1) := by decide +kernel
theorem dX6_plan_17 : decode cX6_plan 17 = .ok (.ldc2_w 189, 3) := by decide +kernel
theorem dX6_plan_20 : decode cX6_plan 20 = .ok (.invokestatic 89, 3) := by decide +kernel
theorem dX6_plan_23 : decode cX6_plan 23 = .ok (.ifCond .ne 33, 3) := by decide +kernel
theorem dX6_plan_26 : decode cX6_plan 26 = .ok (.iload 5, 2) := by decide +kernel
theorem dX6_plan_28 : decode cX6_plan 28 = .ok (.i2l, 1) := by decide +kernel
theorem dX6_plan_29 : decode cX6_plan 29 = .ok (.ldc2_w 191, 3) := by decide +kernel
theorem dX6_plan_32 : decode cX6_plan 32 = .ok (.ldc2_w 193, 3) := by decide +kernel
theorem dX6_plan_35 : decode cX6_plan 35 = .ok (.invokestatic 89, 3) := by decide +kernel
theorem dX6_plan_38 : decode cX6_plan 38 = .ok (.ifCond .ne 18, 3) := by decide +kernel
theorem dX6_plan_41 : decode cX6_plan 41 = .ok (.iload 5, 2) := by decide +kernel
theorem dX6_plan_43 : decode cX6_plan 43 = .ok (.i2l, 1) := by decide +kernel
theorem dX6_plan_44 : decode cX6_plan 44 = .ok (.ldc2_w 195, 3) := by decide +kernel
theorem dX6_plan_47 : decode cX6_plan 47 = .ok (.ldc2_w 197, 3) := by decide +kernel
theorem dX6_plan_50 : decode cX6_plan 50 = .ok (.invokestatic 89, 3) := by decide +kernel
theorem dX6_plan_53 : decode cX6_plan 53 = .ok (.ifCond .eq 7, 3) := by decide +kernel
theorem dX6_plan_56 : decode cX6_plan 56 = .ok (.iconst 1, 1) := by decide +kernel
theorem dX6_plan_57 : decode cX6_plan 57 = .ok (.goto 4, 3) := by decide +kernel
theorem dX6_plan_60 : decode cX6_plan 60 = .ok (.iconst 0, 1) := by decide +kernel
theorem dX6_plan_61 : decode cX6_plan 61 = .ok (.istore 6, 2) := by decide +kernel
theorem dX6_plan_63 : decode cX6_plan 63 = .ok (.iload_n 2, 1) := by decide +kernel
theorem dX6_plan_64 : decode cX6_plan 64 = .ok (.i2l, 1) := by decide +kernel
theorem dX6_plan_65 : decode cX6_plan 65 = .ok (.lconst 0, 1) := by decide +kernel
theorem dX6_plan_66 : decode cX6_plan 66 = .ok (.ldc2_w 135, 3) := by decide +kernel
theorem dX6_plan_69 : decode cX6_plan 69 = .ok (.invokestatic 89, 3) := by decide +kernel
theorem dX6_plan_72 : decode cX6_plan 72 = .ok (.ifCond .eq 21, 3) := by decide +kernel
theorem dX6_plan_75 : decode cX6_plan 75 = .ok (.iload 4, 2) := by decide +kernel
theorem dX6_plan_77 : decode cX6_plan 77 = .ok (.i2l, 1) := by decide +kernel
theorem dX6_plan_78 : decode cX6_plan 78 = .ok (.lconst 0, 1) := by decide +kernel
theorem dX6_plan_79 : decode cX6_plan 79 = .ok (.ldc2_w 195, 3) := by decide +kernel
theorem dX6_plan_82 : decode cX6_plan 82 = .ok (.invokestatic 89, 3) := by decide +kernel
theorem dX6_plan_85 : decode cX6_plan 85 = .ok (.ifCond .eq 8, 3) := by decide +kernel
theorem dX6_plan_88 : decode cX6_plan 88 = .ok (.iload 6, 2) := by decide +kernel
theorem dX6_plan_90 : decode cX6_plan 90 = .ok (.ifCond .ne 10, 3) := by decide +kernel
theorem dX6_plan_93 : decode cX6_plan 93 = .ok (.aload_n 0, 1) := by decide +kernel
theorem dX6_plan_94 : decode cX6_plan 94 = .ok (.bipush (-2), 2) := by decide +kernel
theorem dX6_plan_96 : decode cX6_plan 96 = .ok (.invokevirtual 132, 3) := by decide +kernel
theorem dX6_plan_99 : decode cX6_plan 99 = .ok (.ireturn, 1) := by decide +kernel
theorem dX6_plan_100 : decode cX6_plan 100 = .ok (.aload_n 0, 1) := by decide +kernel
theorem dX6_plan_101 : decode cX6_plan 101 = .ok (.getfield 86, 3) := by decide +kernel
theorem dX6_plan_104 : decode cX6_plan 104 = .ok (.ifCond .ne 10, 3) := by decide +kernel
theorem dX6_plan_107 : decode cX6_plan 107 = .ok (.aload_n 0, 1) := by decide +kernel
theorem dX6_plan_108 : decode cX6_plan 108 = .ok (.bipush (-3), 2) := by decide +kernel
theorem dX6_plan_110 : decode cX6_plan 110 = .ok (.invokevirtual 132, 3) := by decide +kernel
theorem dX6_plan_113 : decode cX6_plan 113 = .ok (.ireturn, 1) := by decide +kernel
theorem dX6_plan_114 : decode cX6_plan 114 = .ok (.aload_n 0, 1) := by decide +kernel
theorem dX6_plan_115 : decode cX6_plan 115 = .ok (.iload_n 1, 1) := by decide +kernel
theorem dX6_plan_116 : decode cX6_plan 116 = .ok (.iload_n 2, 1) := by decide +kernel
theorem dX6_plan_117 : decode cX6_plan 117 = .ok (.iload_n 3, 1) := by decide +kernel
theorem dX6_plan_118 : decode cX6_plan 118 = .ok (.iload 4, 2) := by decide +kernel
theorem dX6_plan_120 : decode cX6_plan 120 = .ok (.iconst 1, 1) := by decide +kernel
theorem dX6_plan_121 : decode cX6_plan 121 = .ok (.invokevirtual 199, 3) := by decide +kernel
theorem dX6_plan_124 : decode cX6_plan 124 = .ok (.istore 7, 2) := by decide +kernel
theorem dX6_plan_126 : decode cX6_plan 126 = .ok (.iload 7, 2) := by decide +kernel
theorem dX6_plan_128 : decode cX6_plan 128 = .ok (.ifCond .ge 6, 3) := by decide +kernel
theorem dX6_plan_131 : decode cX6_plan 131 = .ok (.iload 7, 2) := by decide +kernel
theorem dX6_plan_133 : decode cX6_plan 133 = .ok (.ireturn, 1) := by decide +kernel
theorem dX6_plan_134 : decode cX6_plan 134 = .ok (.aload_n 0, 1) := by decide +kernel
theorem dX6_plan_135 : decode cX6_plan 135 = .ok (.bipush 60, 2) := by decide +kernel
theorem dX6_plan_137 : decode cX6_plan 137 = .ok (.iload_n 1, 1) := by decide +kernel
theorem dX6_plan_138 : decode cX6_plan 138 = .ok (.imul, 1) := by decide +kernel
theorem dX6_plan_139 : decode cX6_plan 139 = .ok (.iload_n 3, 1) := by decide +kernel
theorem dX6_plan_140 : decode cX6_plan 140 = .ok (.iadd, 1) := by decide +kernel
theorem dX6_plan_141 : decode cX6_plan 141 = .ok (.iload 4, 2) := by decide +kernel
theorem dX6_plan_143 : decode cX6_plan 143 = .ok (.invokevirtual 203, 3) := by decide +kernel
theorem dX6_plan_146 : decode cX6_plan 146 = .ok (.iload 5, 2) := by decide +kernel
theorem dX6_plan_148 : decode cX6_plan 148 = .ok (.bipush 9, 2) := by decide +kernel
theorem dX6_plan_150 : decode cX6_plan 150 = .ok (.if_icmp .le 48, 3) := by decide +kernel
theorem dX6_plan_153 : decode cX6_plan 153 = .ok (.iload 5, 2) := by decide +kernel
theorem dX6_plan_155 : decode cX6_plan 155 = .ok (.bipush 10, 2) := by decide +kernel
theorem dX6_plan_157 : decode cX6_plan 157 = .ok (.irem, 1) := by decide +kernel
theorem dX6_plan_158 : decode cX6_plan 158 = .ok (.istore 8, 2) := by decide +kernel
theorem dX6_plan_160 : decode cX6_plan 160 = .ok (.aload_n 0, 1) := by decide +kernel
theorem dX6_plan_161 : decode cX6_plan 161 = .ok (.iload 8, 2) := by decide +kernel
theorem dX6_plan_163 : decode cX6_plan 163 = .ok (.invokevirtual 153, 3) := by decide +kernel
theorem dX6_plan_166 : decode cX6_plan 166 = .ok (.ifCond .eq 8, 3) := by decide +kernel
theorem dX6_plan_169 : decode cX6_plan 169 = .ok (.bipush (-9), 2) := by decide +kernel
theorem dX6_plan_171 : decode cX6_plan 171 = .ok (.goto 26, 3) := by decide +kernel
theorem dX6_plan_174 : decode cX6_plan 174 = .ok (.iload 5, 2) := by decide +kernel
theorem dX6_plan_176 : decode cX6_plan 176 = .ok (.bipush 20, 2) := by decide +kernel
theorem dX6_plan_178 : decode cX6_plan 178 = .ok (.if_icmp .ge 13, 3) := by decide +kernel
theorem dX6_plan_181 : decode cX6_plan 181 = .ok (.aload_n 0, 1) := by decide +kernel
theorem dX6_plan_182 : decode cX6_plan 182 = .ok (.getfield 43, 3) := by decide +kernel
theorem dX6_plan_185 : decode cX6_plan 185 = .ok (.iload 8, 2) := by decide +kernel
theorem dX6_plan_187 : decode cX6_plan 187 = .ok (.iaload, 1) := by decide +kernel
theorem dX6_plan_188 : decode cX6_plan 188 = .ok (.goto 9, 3) := by decide +kernel
theorem dX6_plan_191 : decode cX6_plan 191 = .ok (.aload_n 0, 1) := by decide +kernel
theorem dX6_plan_192 : decode cX6_plan 192 = .ok (.iload 8, 2) := by decide +kernel
theorem dX6_plan_194 : decode cX6_plan 194 = .ok (.invokevirtual 186, 3) := by decide +kernel
theorem dX6_plan_197 : decode cX6_plan 197 = .ok (.ireturn, 1) := by decide +kernel
theorem dX6_plan_198 : decode cX6_plan 198 = .ok (.iload 5, 2) := by decide +kernel
theorem dX6_plan_200 : decode cX6_plan 200 = .ok (.ifCond .ne 10, 3) := by decide +kernel
theorem dX6_plan_203 : decode cX6_plan 203 = .ok (.aload_n 0, 1) := by decide +kernel
theorem dX6_plan_204 : decode cX6_plan 204 = .ok (.getfield 167, 3) := by decide +kernel
theorem dX6_plan_207 : decode cX6_plan 207 = .ok (.goto 33, 3) := by decide +kernel
theorem dX6_plan_210 : decode cX6_plan 210 = .ok (.iload 5, 2) := by decide +kernel
theorem dX6_plan_212 : decode cX6_plan 212 = .ok (.iconst 1, 1) := by decide +kernel
theorem dX6_plan_213 : decode cX6_plan 213 = .ok (.if_icmp .ne 10, 3) := by decide +kernel
theorem dX6_plan_216 : decode cX6_plan 216 = .ok (.aload_n 0, 1) := by decide +kernel
theorem dX6_plan_217 : decode cX6_plan 217 = .ok (.getfield 170, 3) := by decide +kernel
theorem dX6_plan_220 : decode cX6_plan 220 = .ok (.goto 20, 3) := by decide +kernel
theorem dX6_plan_223 : decode cX6_plan 223 = .ok (.iload 5, 2) := by decide +kernel
theorem dX6_plan_225 : decode cX6_plan 225 = .ok (.iconst 2, 1) := by decide +kernel
theorem dX6_plan_226 : decode cX6_plan 226 = .ok (.if_icmp .ne 10, 3) := by decide +kernel
theorem dX6_plan_229 : decode cX6_plan 229 = .ok (.aload_n 0, 1) := by decide +kernel
theorem dX6_plan_230 : decode cX6_plan 230 = .ok (.invokevirtual 206, 3) := by decide +kernel
theorem dX6_plan_233 : decode cX6_plan 233 = .ok (.goto 7, 3) := by decide +kernel
theorem dX6_plan_236 : decode cX6_plan 236 = .ok (.aload_n 0, 1) := by decide +kernel
theorem dX6_plan_237 : decode cX6_plan 237 = .ok (.invokevirtual 209, 3) := by decide +kernel
theorem dX6_plan_240 : decode cX6_plan 240 = .ok (.ireturn, 1) := by decide +kernel
theorem dX6_line_0 : decode cX6_line 0 = .ok (.iload_n 1, 1) := by decide +kernel
theorem dX6_line_1 : decode cX6_line 1 = .ok (.invokestatic 128, 3) := by decide +kernel
theorem dX6_line_4 : decode cX6_line 4 = .ok (.ifCond .eq 9, 3) := by decide +kernel
theorem dX6_line_7 : decode cX6_line 7 = .ok (.aload_n 0, 1) := by decide +kernel
theorem dX6_line_8 : decode cX6_line 8 = .ok (.iconst (-1), 1) := by decide +kernel
theorem dX6_line_9 : decode cX6_line 9 = .ok (.invokevirtual 132, 3) := by decide +kernel
theorem dX6_line_12 : decode cX6_line 12 = .ok (.ireturn, 1) := by decide +kernel
theorem dX6_line_13 : decode cX6_line 13 = .ok (.iload_n 2, 1) := by decide +kernel
theorem dX6_line_14 : decode cX6_line 14 = .ok (.i2l, 1) := by decide +kernel
theorem dX6_line_15 : decode cX6_line 15 = .ok (.lconst 0, 1) := by decide +kernel
theorem dX6_line_16 : decode cX6_line 16 = .ok (.ldc2_w 135, 3) := by decide +kernel
theorem dX6_line_19 : decode cX6_line 19 = .ok (.invokestatic 89, 3) := by decide +kernel
theorem dX6_line_22 : decode cX6_line 22 = .ok (.ifCond .eq 16, 3) := by decide +kernel
theorem dX6_line_25 : decode cX6_line 25 = .ok (.iload 4, 2) := by decide +kernel
theorem dX6_line_27 : decode cX6_line 27 = .ok (.i2l, 1) := by decide +kernel
theorem dX6_line_28 : decode cX6_line 28 = .ok (.lconst 0, 1) := by decide +kernel
theorem dX6_line_29 : decode cX6_line 29 = .ok (.ldc2_w 212, 3) := by decide +kernel
theorem dX6_line_32 : decode cX6_line 32 = .ok (.invokestatic 89, 3) := by decide +kernel
theorem dX6_line_35 : decode cX6_line 35 = .ok (.ifCond .ne 10, 3) := by decide +kernel
theorem dX6_line_38 : decode cX6_line 38 = .ok (.aload_n 0, 1) := by decide +kernel
theorem dX6_line_39 : decode cX6_line 39 = .ok (.bipush (-2), 2) := by decide +kernel
theorem dX6_line_41 : decode cX6_line 41 = .ok (.invokevirtual 132, 3) := by decide +kernel
theorem dX6_line_44 : decode cX6_line 44 = .ok (.ireturn, 1) := by decide +kernel
theorem dX6_line_45 : decode cX6_line 45 = .ok (.aload_n 0, 1) := by decide +kernel
theorem dX6_line_46 : decode cX6_line 46 = .ok (.getfield 86, 3) := by decide +kernel
theorem dX6_line_49 : decode cX6_line 49 = .ok (.ifCond .ne 10, 3) := by decide +kernel
theorem dX6_line_52 : decode cX6_line 52 = .ok (.aload_n 0, 1) := by decide +kernel
theorem dX6_line_53 : decode cX6_line 53 = .ok (.bipush (-3), 2) := by decide +kernel
theorem dX6_line_55 : decode cX6_line 55 = .ok (.invokevirtual 132, 3) := by decide +kernel
theorem dX6_line_58 : decode cX6_line 58 = .ok (.ireturn, 1) := by decide +kernel
theorem dX6_line_59 : decode cX6_line 59 = .ok (.aload_n 0, 1) := by decide +kernel
theorem dX6_line_60 : decode cX6_line 60 = .ok (.iload_n 1, 1) := by decide +kernel
theorem dX6_line_61 : decode cX6_line 61 = .ok (.iload_n 2, 1) := by decide +kernel
theorem dX6_line_62 : decode cX6_line 62 = .ok (.iload_n 3, 1) := by decide +kernel
theorem dX6_line_63 : decode cX6_line 63 = .ok (.iload 4, 2) := by decide +kernel
theorem dX6_line_65 : decode cX6_line 65 = .ok (.iconst 0, 1) := by decide +kernel
theorem dX6_line_66 : decode cX6_line 66 = .ok (.invokevirtual 199, 3) := by decide +kernel
theorem dX6_line_69 : decode cX6_line 69 = .ok (.istore 5, 2) := by decide +kernel
theorem dX6_line_71 : decode cX6_line 71 = .ok (.iload 5, 2) := by decide +kernel
theorem dX6_line_73 : decode cX6_line 73 = .ok (.ifCond .ge 6, 3) := by decide +kernel
theorem dX6_line_76 : decode cX6_line 76 = .ok (.iload 5, 2) := by decide +kernel
theorem dX6_line_78 : decode cX6_line 78 = .ok (.ireturn, 1) := by decide +kernel
theorem dX6_line_79 : decode cX6_line 79 = .ok (.iconst 0, 1) := by decide +kernel
theorem dX6_line_80 : decode cX6_line 80 = .ok (.istore 6, 2) := by decide +kernel
theorem dX6_line_82 : decode cX6_line 82 = .ok (.iload 6, 2) := by decide +kernel
theorem dX6_line_84 : decode cX6_line 84 = .ok (.aload_n 0, 1) := by decide +kernel
theorem dX6_line_85 : decode cX6_line 85 = .ok (.getfield 86, 3) := by decide +kernel
theorem dX6_line_88 : decode cX6_line 88 = .ok (.if_icmp .ge 17, 3) := by decide +kernel
theorem dX6_line_91 : decode cX6_line 91 = .ok (.aload_n 0, 1) := by decide +kernel
theorem dX6_line_92 : decode cX6_line 92 = .ok (.getfield 46, 3) := by decide +kernel
theorem dX6_line_95 : decode cX6_line 95 = .ok (.iload 6, 2) := by decide +kernel
theorem dX6_line_97 : decode cX6_line 97 = .ok (.iconst 0, 1) := by decide +kernel
theorem dX6_line_98 : decode cX6_line 98 = .ok (.iastore, 1) := by decide +kernel
theorem dX6_line_99 : decode cX6_line 99 = .ok (.iinc 6 1, 3) := by decide +kernel
theorem dX6_line_102 : decode cX6_line 102 = .ok (.goto (-20), 3) := by decide +kernel
theorem dX6_line_105 : decode cX6_line 105 = .ok (.iconst 0, 1) := by decide +kernel
theorem dX6_line_106 : decode cX6_line 106 = .ok (.istore 6, 2) := by decide +kernel
theorem dX6_line_108 : decode cX6_line 108 = .ok (.iload 6, 2) := by decide +kernel
theorem dX6_line_110 : decode cX6_line 110 = .ok (.iload 4, 2) := by decide +kernel
theorem dX6_line_112 : decode cX6_line 112 = .ok (.if_icmp .ge 56, 3) := by decide +kernel
theorem dX6_line_115 : decode cX6_line 115 = .ok (.aload_n 0, 1) := by decide +kernel
theorem dX6_line_116 : decode cX6_line 116 = .ok (.getfield 70, 3) := by decide +kernel
theorem dX6_line_119 : decode cX6_line 119 = .ok (.bipush 60, 2) := by decide +kernel
theorem dX6_line_121 : decode cX6_line 121 = .ok (.iload_n 1, 1) := by decide +kernel
theorem dX6_line_122 : decode cX6_line 122 = .ok (.imul, 1) := by decide +kernel
theorem dX6_line_123 : decode cX6_line 123 = .ok (.iload_n 3, 1) := by decide +kernel
theorem dX6_line_124 : decode cX6_line 124 = .ok (.iadd, 1) := by decide +kernel
theorem dX6_line_125 : decode cX6_line 125 = .ok (.iload 6, 2) := by decide +kernel
theorem dX6_line_127 : decode cX6_line 127 = .ok (.iadd, 1) := by decide +kernel
theorem dX6_line_128 : decode cX6_line 128 = .ok (.iaload, 1) := by decide +kernel
theorem dX6_line_129 : decode cX6_line 129 = .ok (.istore 7, 2) := by decide +kernel
theorem dX6_line_131 : decode cX6_line 131 = .ok (.aload_n 0, 1) := by decide +kernel
theorem dX6_line_132 : decode cX6_line 132 = .ok (.getfield 46, 3) := by decide +kernel
theorem dX6_line_135 : decode cX6_line 135 = .ok (.iload 7, 2) := by decide +kernel
theorem dX6_line_137 : decode cX6_line 137 = .ok (.iaload, 1) := by decide +kernel
theorem dX6_line_138 : decode cX6_line 138 = .ok (.aload_n 0, 1) := by decide +kernel
theorem dX6_line_139 : decode cX6_line 139 = .ok (.getfield 13, 3) := by decide +kernel
theorem dX6_line_142 : decode cX6_line 142 = .ok (.iload 7, 2) := by decide +kernel
theorem dX6_line_144 : decode cX6_line 144 = .ok (.iaload, 1) := by decide +kernel
theorem dX6_line_145 : decode cX6_line 145 = .ok (.if_icmp .ne 6, 3) := by decide +kernel
theorem dX6_line_148 : decode cX6_line 148 = .ok (.iload 6, 2) := by decide +kernel
theorem dX6_line_150 : decode cX6_line 150 = .ok (.ireturn, 1) := by decide +kernel
theorem dX6_line_151 : decode cX6_line 151 = .ok (.aload_n 0, 1) := by decide +kernel
theorem dX6_line_152 : decode cX6_line 152 = .ok (.getfield 46, 3) := by decide +kernel
theorem dX6_line_155 : decode cX6_line 155 = .ok (.iload 7, 2) := by decide +kernel
theorem dX6_line_157 : decode cX6_line 157 = .ok (.dup2, 1) := by decide +kernel
theorem dX6_line_158 : decode cX6_line 158 = .ok (.iaload, 1) := by decide +kernel
theorem dX6_line_159 : decode cX6_line 159 = .ok (.iconst 1, 1) := by decide +kernel
theorem dX6_line_160 : decode cX6_line 160 = .ok (.iadd, 1) := by decide +kernel
theorem dX6_line_161 : decode cX6_line 161 = .ok (.iastore, 1) := by decide +kernel
theorem dX6_line_162 : decode cX6_line 162 = .ok (.iinc 6 1, 3) := by decide +kernel
theorem dX6_line_165 : decode cX6_line 165 = .ok (.goto (-57), 3) := by decide +kernel
theorem dX6_line_168 : decode cX6_line 168 = .ok (.bipush (-9), 2) := by decide +kernel
theorem dX6_line_170 : decode cX6_line 170 = .ok (.ireturn, 1) := by decide +kernel
theorem dX6_soon_0 : decode cX6_soon 0 = .ok (.iload_n 2, 1) := by decide +kernel
theorem dX6_soon_1 : decode cX6_soon 1 = .ok (.invokestatic 128, 3) := by decide +kernel
theorem dX6_soon_4 : decode cX6_soon 4 = .ok (.ifCond .eq 9, 3) := by decide +kernel
theorem dX6_soon_7 : decode cX6_soon 7 = .ok (.aload_n 0, 1) := by decide +kernel
theorem dX6_soon_8 : decode cX6_soon 8 = .ok (.iconst (-1), 1) := by decide +kernel
theorem dX6_soon_9 : decode cX6_soon 9 = .ok (.invokevirtual 132, 3) := by decide +kernel
theorem dX6_soon_12 : decode cX6_soon 12 = .ok (.ireturn, 1) := by decide +kernel
theorem dX6_soon_13 : decode cX6_soon 13 = .ok (.iload_n 3, 1) := by decide +kernel
theorem dX6_soon_14 : decode cX6_soon 14 = .ok (.i2l, 1) := by decide +kernel
theorem dX6_soon_15 : decode cX6_soon 15 = .ok (.lconst 0, 1) := by decide +kernel
theorem dX6_soon_16 : decode cX6_soon 16 = .ok (.ldc2_w 135, 3) := by decide +kernel
theorem dX6_soon_19 : decode cX6_soon 19 = .ok (.invokestatic 89, 3) := by decide +kernel
theorem dX6_soon_22 : decode cX6_soon 22 = .ok (.ifCond .eq 16, 3) := by decide +kernel
theorem dX6_soon_25 : decode cX6_soon 25 = .ok (.iload 5, 2) := by decide +kernel
theorem dX6_soon_27 : decode cX6_soon 27 = .ok (.i2l, 1) := by decide +kernel
theorem dX6_soon_28 : decode cX6_soon 28 = .ok (.lconst 0, 1) := by decide +kernel
theorem dX6_soon_29 : decode cX6_soon 29 = .ok (.ldc2_w 195, 3) := by decide +kernel
theorem dX6_soon_32 : decode cX6_soon 32 = .ok (.invokestatic 89, 3) := by decide +kernel
theorem dX6_soon_35 : decode cX6_soon 35 = .ok (.ifCond .ne 10, 3) := by decide +kernel
theorem dX6_soon_38 : decode cX6_soon 38 = .ok (.aload_n 0, 1) := by decide +kernel
theorem dX6_soon_39 : decode cX6_soon 39 = .ok (.bipush (-2), 2) := by decide +kernel
theorem dX6_soon_41 : decode cX6_soon 41 = .ok (.invokevirtual 132, 3) := by decide +kernel
theorem dX6_soon_44 : decode cX6_soon 44 = .ok (.ireturn, 1) := by decide +kernel
theorem dX6_soon_45 : decode cX6_soon 45 = .ok (.aload_n 0, 1) := by decide +kernel
theorem dX6_soon_46 : decode cX6_soon 46 = .ok (.getfield 86, 3) := by decide +kernel
theorem dX6_soon_49 : decode cX6_soon 49 = .ok (.ifCond .ne 10, 3) := by decide +kernel
theorem dX6_soon_52 : decode cX6_soon 52 = .ok (.aload_n 0, 1) := by decide +kernel
theorem dX6_soon_53 : decode cX6_soon 53 = .ok (.bipush (-3), 2) := by decide +kernel
theorem dX6_soon_55 : decode cX6_soon 55 = .ok (.invokevirtual 132, 3) := by decide +kernel
theorem dX6_soon_58 : decode cX6_soon 58 = .ok (.ireturn, 1) := by decide +kernel
theorem dX6_soon_59 : decode cX6_soon 59 = .ok (.iload_n 1, 1) := by decide +kernel
theorem dX6_soon_60 : decode cX6_soon 60 = .ok (.i2l, 1) := by decide +kernel
theorem dX6_soon_61 : decode cX6_soon 61 = .ok (.lconst 0, 1) := by decide +kernel
theorem dX6_soon_62 : decode cX6_soon 62 = .ok (.aload_n 0, 1) := by decide +kernel
theorem dX6_soon_63 : decode cX6_soon 63 = .ok (.invokevirtual 159, 3) := by decide +kernel
theorem dX6_soon_66 : decode cX6_soon 66 = .ok (.i2l, 1) := by decide +kernel
theorem dX6_soon_67 : decode cX6_soon 67 = .ok (.invokestatic 89, 3) := by decide +kernel
theorem dX6_soon_70 : decode cX6_soon 70 = .ok (.ifCond .ne 10, 3) := by decide +kernel
theorem dX6_soon_73 : decode cX6_soon 73 = .ok (.aload_n 0, 1) := by decide +kernel
theorem dX6_soon_74 : decode cX6_soon 74 = .ok (.bipush (-2), 2) := by decide +kernel
theorem dX6_soon_76 : decode cX6_soon 76 = .ok (.invokevirtual 132, 3) := by decide +kernel
theorem dX6_soon_79 : decode cX6_soon 79 = .ok (.ireturn, 1) := by decide +kernel
theorem dX6_soon_80 : decode cX6_soon 80 = .ok (.aload_n 0, 1) := by decide +kernel
theorem dX6_soon_81 : decode cX6_soon 81 = .ok (.iload_n 2, 1) := by decide +kernel
theorem dX6_soon_82 : decode cX6_soon 82 = .ok (.iload_n 3, 1) := by decide +kernel
theorem dX6_soon_83 : decode cX6_soon 83 = .ok (.iload 4, 2) := by decide +kernel
theorem dX6_soon_85 : decode cX6_soon 85 = .ok (.iload 5, 2) := by decide +kernel
theorem dX6_soon_87 : decode cX6_soon 87 = .ok (.iconst 1, 1) := by decide +kernel
theorem dX6_soon_88 : decode cX6_soon 88 = .ok (.invokevirtual 199, 3) := by decide +kernel
theorem dX6_soon_91 : decode cX6_soon 91 = .ok (.istore 6, 2) := by decide +kernel
theorem dX6_soon_93 : decode cX6_soon 93 = .ok (.iload 6, 2) := by decide +kernel
theorem dX6_soon_95 : decode cX6_soon 95 = .ok (.ifCond .ge 6, 3) := by decide +kernel
theorem dX6_soon_98 : decode cX6_soon 98 = .ok (.iload 6, 2) := by decide +kernel
theorem dX6_soon_100 : decode cX6_soon 100 = .ok (.ireturn, 1) := by decide +kernel
theorem dX6_soon_101 : decode cX6_soon 101 = .ok (.aload_n 0, 1) := by decide +kernel
theorem dX6_soon_102 : decode cX6_soon 102 = .ok (.bipush 60, 2) := by decide +kernel
theorem dX6_soon_104 : decode cX6_soon 104 = .ok (.iload_n 2, 1) := by decide +kernel
theorem dX6_soon_105 : decode cX6_soon 105 = .ok (.imul, 1) := by decide +kernel
theorem dX6_soon_106 : decode cX6_soon 106 = .ok (.iload 4, 2) := by decide +kernel
theorem dX6_soon_108 : decode cX6_soon 108 = .ok (.iadd, 1) := by decide +kernel
theorem dX6_soon_109 : decode cX6_soon 109 = .ok (.iload 5, 2) := by decide +kernel
theorem dX6_soon_111 : decode cX6_soon 111 = .ok (.invokevirtual 203, 3) := by decide +kernel
theorem dX6_soon_114 : decode cX6_soon 114 = .ok (.iconst 0, 1) := by decide +kernel
theorem dX6_soon_115 : decode cX6_soon 115 = .ok (.istore 7, 2) := by decide +kernel
theorem dX6_soon_117 : decode cX6_soon 117 = .ok (.iconst 0, 1) := by decide +kernel
theorem dX6_soon_118 : decode cX6_soon 118 = .ok (.istore 8, 2) := by decide +kernel
theorem dX6_soon_120 : decode cX6_soon 120 = .ok (.iload 8, 2) := by decide +kernel
theorem dX6_soon_122 : decode cX6_soon 122 = .ok (.aload_n 0, 1) := by decide +kernel
theorem dX6_soon_123 : decode cX6_soon 123 = .ok (.getfield 86, 3) := by decide +kernel
theorem dX6_soon_126 : decode cX6_soon 126 = .ok (.if_icmp .ge 71, 3) := by decide +kernel
theorem dX6_soon_129 : decode cX6_soon 129 = .ok (.iload_n 1, 1) := by decide +kernel
theorem dX6_soon_130 : decode cX6_soon 130 = .ok (.iload 8, 2) := by decide +kernel
theorem dX6_soon_132 : decode cX6_soon 132 = .ok (.invokestatic 147, 3) := by decide +kernel
theorem dX6_soon_135 : decode cX6_soon 135 = .ok (.ifCond .eq 34, 3) := by decide +kernel
theorem dX6_soon_138 : decode cX6_soon 138 = .ok (.iload 7, 2) := by decide +kernel
theorem dX6_soon_140 : decode cX6_soon 140 = .ok (.ifCond .lt 29, 3) := by decide +kernel
theorem dX6_soon_143 : decode cX6_soon 143 = .ok (.aload_n 0, 1) := by decide +kernel
theorem dX6_soon_144 : decode cX6_soon 144 = .ok (.getfield 43, 3) := by decide +kernel
theorem dX6_soon_147 : decode cX6_soon 147 = .ok (.iload 8, 2) := by decide +kernel
theorem dX6_soon_149 : decode cX6_soon 149 = .ok (.iaload, 1) := by decide +kernel
theorem dX6_soon_150 : decode cX6_soon 150 = .ok (.ifCond .lt 15, 3) := by decide +kernel
theorem dX6_soon_153 : decode cX6_soon 153 = .ok (.aload_n 0, 1) := by decide +kernel
theorem dX6_soon_154 : decode cX6_soon 154 = .ok (.getfield 43, 3) := by decide +kernel
theorem dX6_soon_157 : decode cX6_soon 157 = .ok (.iload 8, 2) := by decide +kernel
theorem dX6_soon_159 : decode cX6_soon 159 = .ok (.iaload, 1) := by decide +kernel
theorem dX6_soon_160 : decode cX6_soon 160 = .ok (.iload 7, 2) := by decide +kernel
theorem dX6_soon_162 : decode cX6_soon 162 = .ok (.if_icmp .le 7, 3) := by decide +kernel
theorem dX6_soon_165 : decode cX6_soon 165 = .ok (.iconst 1, 1) := by decide +kernel
theorem dX6_soon_166 : decode cX6_soon 166 = .ok (.goto 4, 3) := by decide +kernel
theorem dX6_soon_169 : decode cX6_soon 169 = .ok (.iconst 0, 1) := by decide +kernel
theorem dX6_soon_170 : decode cX6_soon 170 = .ok (.istore 9, 2) := by decide +kernel
theorem dX6_soon_172 : decode cX6_soon 172 = .ok (.iload 9, 2) := by decide +kernel
theorem dX6_soon_174 : decode cX6_soon 174 = .ok (.ifCond .eq 13, 3) := by decide +kernel
theorem dX6_soon_177 : decode cX6_soon 177 = .ok (.aload_n 0, 1) := by decide +kernel
theorem dX6_soon_178 : decode cX6_soon 178 = .ok (.getfield 43, 3) := by decide +kernel
theorem dX6_soon_181 : decode cX6_soon 181 = .ok (.iload 8, 2) := by decide +kernel
theorem dX6_soon_183 : decode cX6_soon 183 = .ok (.iaload, 1) := by decide +kernel
theorem dX6_soon_184 : decode cX6_soon 184 = .ok (.goto 5, 3) := by decide +kernel
theorem dX6_soon_187 : decode cX6_soon 187 = .ok (.iload 7, 2) := by decide +kernel
theorem dX6_soon_189 : decode cX6_soon 189 = .ok (.istore 7, 2) := by decide +kernel
theorem dX6_soon_191 : decode cX6_soon 191 = .ok (.iinc 8 1, 3) := by decide +kernel
theorem dX6_soon_194 : decode cX6_soon 194 = .ok (.goto (-74), 3) := by decide +kernel
theorem dX6_soon_197 : decode cX6_soon 197 = .ok (.iload 7, 2) := by decide +kernel
theorem dX6_soon_199 : decode cX6_soon 199 = .ok (.ireturn, 1) := by decide +kernel
theorem dX6_lengthOf_0 : decode cX6_lengthOf 0 = .ok (.iload_n 1, 1) := by decide +kernel
theorem dX6_lengthOf_1 : decode cX6_lengthOf 1 = .ok (.istore_n 2, 1) := by decide +kernel
theorem dX6_lengthOf_2 : decode cX6_lengthOf 2 = .ok (.iconst 0, 1) := by decide +kernel
theorem dX6_lengthOf_3 : decode cX6_lengthOf 3 = .ok (.istore_n 3, 1) := by decide +kernel
theorem dX6_lengthOf_4 : decode cX6_lengthOf 4 = .ok (.iconst 0, 1) := by decide +kernel
theorem dX6_lengthOf_5 : decode cX6_lengthOf 5 = .ok (.istore 4, 2) := by decide +kernel
theorem dX6_lengthOf_7 : decode cX6_lengthOf 7 = .ok (.iconst 1, 1) := by decide +kernel
theorem dX6_lengthOf_8 : decode cX6_lengthOf 8 = .ok (.istore 5, 2) := by decide +kernel
theorem dX6_lengthOf_10 : decode cX6_lengthOf 10 = .ok (.iconst 4, 1) := by decide +kernel
theorem dX6_lengthOf_11 : decode cX6_lengthOf 11 = .ok (.istore 6, 2) := by decide +kernel
theorem dX6_lengthOf_13 : decode cX6_lengthOf 13 = .ok (.iload 6, 2) := by decide +kernel
theorem dX6_lengthOf_15 : decode cX6_lengthOf 15 = .ok (.ifCond .lt 27, 3) := by decide +kernel
theorem dX6_lengthOf_18 : decode cX6_lengthOf 18 = .ok (.aload_n 0, 1) := by decide +kernel
theorem dX6_lengthOf_19 : decode cX6_lengthOf 19 = .ok (.getfield 49, 3) := by decide +kernel
theorem dX6_lengthOf_22 : decode cX6_lengthOf 22 = .ok (.iload 6, 2) := by decide +kernel
theorem dX6_lengthOf_24 : decode cX6_lengthOf 24 = .ok (.iload_n 2, 1) := by decide +kernel
theorem dX6_lengthOf_25 : decode cX6_lengthOf 25 = .ok (.bipush 6, 2) := by decide +kernel
theorem dX6_lengthOf_27 : decode cX6_lengthOf 27 = .ok (.irem, 1) := by decide +kernel
theorem dX6_lengthOf_28 : decode cX6_lengthOf 28 = .ok (.iconst 1, 1) := by decide +kernel
theorem dX6_lengthOf_29 : decode cX6_lengthOf 29 = .ok (.isub, 1) := by decide +kernel
theorem dX6_lengthOf_30 : decode cX6_lengthOf 30 = .ok (.iastore, 1) := by decide +kernel
theorem dX6_lengthOf_31 : decode cX6_lengthOf 31 = .ok (.iload_n 2, 1) := by decide +kernel
theorem dX6_lengthOf_32 : decode cX6_lengthOf 32 = .ok (.bipush 6, 2) := by decide +kernel
theorem dX6_lengthOf_34 : decode cX6_lengthOf 34 = .ok (.idiv, 1) := by decide +kernel
theorem dX6_lengthOf_35 : decode cX6_lengthOf 35 = .ok (.istore_n 2, 1) := by decide +kernel
theorem dX6_lengthOf_36 : decode cX6_lengthOf 36 = .ok (.iinc 6 (-1), 3) := by decide +kernel
theorem dX6_lengthOf_39 : decode cX6_lengthOf 39 = .ok (.goto (-26), 3) := by decide +kernel
theorem dX6_lengthOf_42 : decode cX6_lengthOf 42 = .ok (.iconst 0, 1) := by decide +kernel
theorem dX6_lengthOf_43 : decode cX6_lengthOf 43 = .ok (.istore 6, 2) := by decide +kernel
theorem dX6_lengthOf_45 : decode cX6_lengthOf 45 = .ok (.iload 6, 2) := by decide +kernel
theorem dX6_lengthOf_47 : decode cX6_lengthOf 47 = .ok (.iconst 5, 1) := by decide +kernel
theorem dX6_lengthOf_48 : decode cX6_lengthOf 48 = .ok (.if_icmp .ge 91, 3) := by decide +kernel
theorem dX6_lengthOf_51 : decode cX6_lengthOf 51 = .ok (.aload_n 0, 1) := by decide +kernel
theorem dX6_lengthOf_52 : decode cX6_lengthOf 52 = .ok (.getfield 49, 3) := by decide +kernel
theorem dX6_lengthOf_55 : decode cX6_lengthOf 55 = .ok (.iload 6, 2) := by decide +kernel
theorem dX6_lengthOf_57 : decode cX6_lengthOf 57 = .ok (.iaload, 1) := by decide +kernel
theorem dX6_lengthOf_58 : decode cX6_lengthOf 58 = .ok (.istore 7, 2) := by decide +kernel
theorem dX6_lengthOf_60 : decode cX6_lengthOf 60 = .ok (.iload 5, 2) := by decide +kernel
theorem dX6_lengthOf_62 : decode cX6_lengthOf 62 = .ok (.ifCond .eq 37, 3) := by decide +kernel
theorem dX6_lengthOf_65 : decode cX6_lengthOf 65 = .ok (.iload 7, 2) := by decide +kernel
theorem dX6_lengthOf_67 : decode cX6_lengthOf 67 = .ok (.aload_n 0, 1) := by decide +kernel
theorem dX6_lengthOf_68 : decode cX6_lengthOf 68 = .ok (.getfield 93, 3) := by decide +kernel
theorem dX6_lengthOf_71 : decode cX6_lengthOf 71 = .ok (.if_icmp .ge 28, 3) := by decide +kernel
theorem dX6_lengthOf_74 : decode cX6_lengthOf 74 = .ok (.iload 7, 2) := by decide +kernel
theorem dX6_lengthOf_76 : decode cX6_lengthOf 76 = .ok (.ifCond .lt 19, 3) := by decide +kernel
theorem dX6_lengthOf_79 : decode cX6_lengthOf 79 = .ok (.iload_n 3, 1) := by decide +kernel
theorem dX6_lengthOf_80 : decode cX6_lengthOf 80 = .ok (.iload 6, 2) := by decide +kernel
theorem dX6_lengthOf_82 : decode cX6_lengthOf 82 = .ok (.if_icmp .ne 17, 3) := by decide +kernel
theorem dX6_lengthOf_85 : decode cX6_lengthOf 85 = .ok (.iload 4, 2) := by decide +kernel
theorem dX6_lengthOf_87 : decode cX6_lengthOf 87 = .ok (.iload 7, 2) := by decide +kernel
theorem dX6_lengthOf_89 : decode cX6_lengthOf 89 = .ok (.invokestatic 147, 3) := by decide +kernel
theorem dX6_lengthOf_92 : decode cX6_lengthOf 92 = .ok (.ifCond .ne 7, 3) := by decide +kernel
theorem dX6_lengthOf_95 : decode cX6_lengthOf 95 = .ok (.iconst 1, 1) := by decide +kernel
theorem dX6_lengthOf_96 : decode cX6_lengthOf 96 = .ok (.goto 4, 3) := by decide +kernel
theorem dX6_lengthOf_99 : decode cX6_lengthOf 99 = .ok (.iconst 0, 1) := by decide +kernel
theorem dX6_lengthOf_100 : decode cX6_lengthOf 100 = .ok (.istore 5, 2) := by decide +kernel
theorem dX6_lengthOf_102 : decode cX6_lengthOf 102 = .ok (.iload_n 3, 1) := by decide +kernel
theorem dX6_lengthOf_103 : decode cX6_lengthOf 103 = .ok (.iload 7, 2) := by decide +kernel
theorem dX6_lengthOf_105 : decode cX6_lengthOf 105 = .ok (.ifCond .ge 7, 3) := by decide +kernel
theorem dX6_lengthOf_108 : decode cX6_lengthOf 108 = .ok (.iconst 0, 1) := by decide +kernel
theorem dX6_lengthOf_109 : decode cX6_lengthOf 109 = .ok (.goto 4, 3) := by decide +kernel
theorem dX6_lengthOf_112 : decode cX6_lengthOf 112 = .ok (.iconst 1, 1) := by decide +kernel
theorem dX6_lengthOf_113 : decode cX6_lengthOf 113 = .ok (.iadd, 1) := by decide +kernel
theorem dX6_lengthOf_114 : decode cX6_lengthOf 114 = .ok (.istore_n 3, 1) := by decide +kernel
theorem dX6_lengthOf_115 : decode cX6_lengthOf 115 = .ok (.iload 4, 2) := by decide +kernel
theorem dX6_lengthOf_117 : decode cX6_lengthOf 117 = .ok (.iload 7, 2) := by decide +kernel
theorem dX6_lengthOf_119 : decode cX6_lengthOf 119 = .ok (.ifCond .ge 7, 3) := by decide +kernel
theorem dX6_lengthOf_122 : decode cX6_lengthOf 122 = .ok (.iconst 0, 1) := by decide +kernel
theorem dX6_lengthOf_123 : decode cX6_lengthOf 123 = .ok (.goto 7, 3) := by decide +kernel
theorem dX6_lengthOf_126 : decode cX6_lengthOf 126 = .ok (.iconst 1, 1) := by decide +kernel
theorem dX6_lengthOf_127 : decode cX6_lengthOf 127 = .ok (.iload 7, 2) := by decide +kernel
theorem dX6_lengthOf_129 : decode cX6_lengthOf 129 = .ok (.ishl, 1) := by decide +kernel
theorem dX6_lengthOf_130 : decode cX6_lengthOf 130 = .ok (.ior, 1) := by decide +kernel
theorem dX6_lengthOf_131 : decode cX6_lengthOf 131 = .ok (.istore 4, 2) := by decide +kernel
theorem dX6_lengthOf_133 : decode cX6_lengthOf 133 = .ok (.iinc 6 1, 3) := by decide +kernel
theorem dX6_lengthOf_136 : decode cX6_lengthOf 136 = .ok (.goto (-91), 3) := by decide +kernel
theorem dX6_lengthOf_139 : decode cX6_lengthOf 139 = .ok (.iload 5, 2) := by decide +kernel
theorem dX6_lengthOf_141 : decode cX6_lengthOf 141 = .ok (.ifCond .eq 7, 3) := by decide +kernel
theorem dX6_lengthOf_144 : decode cX6_lengthOf 144 = .ok (.iload_n 3, 1) := by decide +kernel
theorem dX6_lengthOf_145 : decode cX6_lengthOf 145 = .ok (.goto 5, 3) := by decide +kernel
theorem dX6_lengthOf_148 : decode cX6_lengthOf 148 = .ok (.bipush (-9), 2) := by decide +kernel
theorem dX6_lengthOf_150 : decode cX6_lengthOf 150 = .ok (.ireturn, 1) := by decide +kernel
theorem dX6_order_0 : decode cX6_order 0 = .ok (.iload_n 1, 1) := by decide +kernel
theorem dX6_order_1 : decode cX6_order 1 = .ok (.i2l, 1) := by decide +kernel
theorem dX6_order_2 : decode cX6_order 2 = .ok (.ldc2_w 214, 3) := by decide +kernel
theorem dX6_order_5 : decode cX6_order 5 = .ok (.ldc2_w 216, 3) := by decide +kernel
theorem dX6_order_8 : decode cX6_order 8 = .ok (.invokestatic 89, 3) := by decide +kernel
theorem dX6_order_11 : decode cX6_order 11 = .ok (.ifCond .ne 6, 3) := by decide +kernel
theorem dX6_order_14 : decode cX6_order 14 = .ok (.bipush (-2), 2) := by decide +kernel
theorem dX6_order_16 : decode cX6_order 16 = .ok (.ireturn, 1) := by decide +kernel
theorem dX6_order_17 : decode cX6_order 17 = .ok (.aload_n 0, 1) := by decide +kernel
theorem dX6_order_18 : decode cX6_order 18 = .ok (.getfield 86, 3) := by decide +kernel
theorem dX6_order_21 : decode cX6_order 21 = .ok (.ifCond .ne 6, 3) := by decide +kernel
theorem dX6_order_24 : decode cX6_order 24 = .ok (.bipush (-3), 2) := by decide +kernel
theorem dX6_order_26 : decode cX6_order 26 = .ok (.ireturn, 1) := by decide +kernel
theorem dX6_order_27 : decode cX6_order 27 = .ok (.bipush (-9), 2) := by decide +kernel
theorem dX6_order_29 : decode cX6_order 29 = .ok (.istore_n 2, 1) := by decide +kernel
theorem dX6_order_30 : decode cX6_order 30 = .ok (.iconst 0, 1) := by decide +kernel
theorem dX6_order_31 : decode cX6_order 31 = .ok (.istore_n 3, 1) := by decide +kernel
theorem dX6_order_32 : decode cX6_order 32 = .ok (.iconst 0, 1) := by decide +kernel
theorem dX6_order_33 : decode cX6_order 33 = .ok (.istore 4, 2) := by decide +kernel
theorem dX6_order_35 : decode cX6_order 35 = .ok (.iload 4, 2) := by decide +kernel
theorem dX6_order_37 : decode cX6_order 37 = .ok (.sipush 7776, 3) := by decide +kernel
theorem dX6_order_40 : decode cX6_order 40 = .ok (.if_icmp .ge 86, 3) := by decide +kernel
theorem dX6_order_43 : decode cX6_order 43 = .ok (.aload_n 0, 1) := by decide +kernel
theorem dX6_order_44 : decode cX6_order 44 = .ok (.iload 4, 2) := by decide +kernel
theorem dX6_order_46 : decode cX6_order 46 = .ok (.invokevirtual 218, 3) := by decide +kernel
theorem dX6_order_49 : decode cX6_order 49 = .ok (.istore 5, 2) := by decide +kernel
theorem dX6_order_51 : decode cX6_order 51 = .ok (.aload_n 0, 1) := by decide +kernel
theorem dX6_order_52 : decode cX6_order 52 = .ok (.invokevirtual 179, 3) := by decide +kernel
theorem dX6_order_55 : decode cX6_order 55 = .ok (.iconst 0, 1) := by decide +kernel
theorem dX6_order_56 : decode cX6_order 56 = .ok (.istore 6, 2) := by decide +kernel
theorem dX6_order_58 : decode cX6_order 58 = .ok (.iload 6, 2) := by decide +kernel
theorem dX6_order_60 : decode cX6_order 60 = .ok (.iload 5, 2) := by decide +kernel
theorem dX6_order_62 : decode cX6_order 62 = .ok (.if_icmp .ge 22, 3) := by decide +kernel
theorem dX6_order_65 : decode cX6_order 65 = .ok (.aload_n 0, 1) := by decide +kernel
theorem dX6_order_66 : decode cX6_order 66 = .ok (.aload_n 0, 1) := by decide +kernel
theorem dX6_order_67 : decode cX6_order 67 = .ok (.getfield 49, 3) := by decide +kernel
theorem dX6_order_70 : decode cX6_order 70 = .ok (.iload 6, 2) := by decide +kernel
theorem dX6_order_72 : decode cX6_order 72 = .ok (.iaload, 1) := by decide +kernel
theorem dX6_order_73 : decode cX6_order 73 = .ok (.iload 6, 2) := by decide +kernel
theorem dX6_order_75 : decode cX6_order 75 = .ok (.invokevirtual 182, 3) := by decide +kernel
theorem dX6_order_78 : decode cX6_order 78 = .ok (.iinc 6 1, 3) := by decide +kernel
theorem dX6_order_81 : decode cX6_order 81 = .ok (.goto (-23), 3) := by decide +kernel
theorem dX6_order_84 : decode cX6_order 84 = .ok (.iload 5, 2) := by decide +kernel
theorem dX6_order_86 : decode cX6_order 86 = .ok (.ifCond .lt 34, 3) := by decide +kernel
theorem dX6_order_89 : decode cX6_order 89 = .ok (.aload_n 0, 1) := by decide +kernel
theorem dX6_order_90 : decode cX6_order 90 = .ok (.invokevirtual 209, 3) := by decide +kernel
theorem dX6_order_93 : decode cX6_order 93 = .ok (.aload_n 0, 1) := by decide +kernel
theorem dX6_order_94 : decode cX6_order 94 = .ok (.invokevirtual 159, 3) := by decide +kernel
theorem dX6_order_97 : decode cX6_order 97 = .ok (.if_icmp .ne 23, 3) := by decide +kernel
theorem dX6_order_100 : decode cX6_order 100 = .ok (.iload_n 2, 1) := by decide +kernel
theorem dX6_order_101 : decode cX6_order 101 = .ok (.ifCond .lt 11, 3) := by decide +kernel
theorem dX6_order_104 : decode cX6_order 104 = .ok (.aload_n 0, 1) := by decide +kernel
theorem dX6_order_105 : decode cX6_order 105 = .ok (.getfield 167, 3) := by decide +kernel
theorem dX6_order_108 : decode cX6_order 108 = .ok (.iload_n 3, 1) := by decide +kernel
theorem dX6_order_109 : decode cX6_order 109 = .ok (.if_icmp .ge 11, 3) := by decide +kernel
theorem dX6_order_112 : decode cX6_order 112 = .ok (.iload 4, 2) := by decide +kernel
theorem dX6_order_114 : decode cX6_order 114 = .ok (.istore_n 2, 1) := by decide +kernel
theorem dX6_order_115 : decode cX6_order 115 = .ok (.aload_n 0, 1) := by decide +kernel
theorem dX6_order_116 : decode cX6_order 116 = .ok (.getfield 167, 3) := by decide +kernel
theorem dX6_order_119 : decode cX6_order 119 = .ok (.istore_n 3, 1) := by decide +kernel
theorem dX6_order_120 : decode cX6_order 120 = .ok (.iinc 4 1, 3) := by decide +kernel
theorem dX6_order_123 : decode cX6_order 123 = .ok (.goto (-88), 3) := by decide +kernel
theorem dX6_order_126 : decode cX6_order 126 = .ok (.iload_n 2, 1) := by decide +kernel
theorem dX6_order_127 : decode cX6_order 127 = .ok (.ifCond .ge 6, 3) := by decide +kernel
theorem dX6_order_130 : decode cX6_order 130 = .ok (.bipush (-9), 2) := by decide +kernel
theorem dX6_order_132 : decode cX6_order 132 = .ok (.ireturn, 1) := by decide +kernel
theorem dX6_order_133 : decode cX6_order 133 = .ok (.iload_n 1, 1) := by decide +kernel
theorem dX6_order_134 : decode cX6_order 134 = .ok (.ifCond .ge 7, 3) := by decide +kernel
theorem dX6_order_137 : decode cX6_order 137 = .ok (.iload_n 3, 1) := by decide +kernel
theorem dX6_order_138 : decode cX6_order 138 = .ok (.goto 23, 3) := by decide +kernel
theorem dX6_order_141 : decode cX6_order 141 = .ok (.iload_n 1, 1) := by decide +kernel
theorem dX6_order_142 : decode cX6_order 142 = .ok (.aload_n 0, 1) := by decide +kernel
theorem dX6_order_143 : decode cX6_order 143 = .ok (.iload_n 2, 1) := by decide +kernel
theorem dX6_order_144 : decode cX6_order 144 = .ok (.invokevirtual 218, 3) := by decide +kernel
theorem dX6_order_147 : decode cX6_order 147 = .ok (.if_icmp .ge 12, 3) := by decide +kernel
theorem dX6_order_150 : decode cX6_order 150 = .ok (.aload_n 0, 1) := by decide +kernel
theorem dX6_order_151 : decode cX6_order 151 = .ok (.getfield 49, 3) := by decide +kernel
theorem dX6_order_154 : decode cX6_order 154 = .ok (.iload_n 1, 1) := by decide +kernel
theorem dX6_order_155 : decode cX6_order 155 = .ok (.iaload, 1) := by decide +kernel
theorem dX6_order_156 : decode cX6_order 156 = .ok (.goto 5, 3) := by decide +kernel
theorem dX6_order_159 : decode cX6_order 159 = .ok (.bipush (-9), 2) := by decide +kernel
theorem dX6_order_161 : decode cX6_order 161 = .ok (.ireturn, 1) := by decide +kernel
theorem dX6_growTree_0 : decode cX6_growTree 0 = .ok (.aload_n 0, 1) := by decide +kernel
theorem dX6_growTree_1 : decode cX6_growTree 1 = .ok (.getfield 52, 3) := by decide +kernel
theorem dX6_growTree_4 : decode cX6_growTree 4 = .ok (.iload_n 1, 1) := by decide +kernel
theorem dX6_growTree_5 : decode cX6_growTree 5 = .ok (.iload_n 1, 1) := by decide +kernel
theorem dX6_growTree_6 : decode cX6_growTree 6 = .ok (.iload_n 1, 1) := by decide +kernel
theorem dX6_growTree_7 : decode cX6_growTree 7 = .ok (.iconst 1, 1) := by decide +kernel
theorem dX6_growTree_8 : decode cX6_growTree 8 = .ok (.isub, 1) := by decide +kernel
theorem dX6_growTree_9 : decode cX6_growTree 9 = .ok (.iand, 1) := by decide +kernel
theorem dX6_growTree_10 : decode cX6_growTree 10 = .ok (.ifCond .ne 7, 3) := by decide +kernel
theorem dX6_growTree_13 : decode cX6_growTree 13 = .ok (.iconst 0, 1) := by decide +kernel
theorem dX6_growTree_14 : decode cX6_growTree 14 = .ok (.goto 5, 3) := by decide +kernel
theorem dX6_growTree_17 : decode cX6_growTree 17 = .ok (.bipush (-9), 2) := by decide +kernel
theorem dX6_growTree_19 : decode cX6_growTree 19 = .ok (.iastore, 1) := by decide +kernel
theorem dX6_growTree_20 : decode cX6_growTree 20 = .ok (.aload_n 0, 1) := by decide +kernel
theorem dX6_growTree_21 : decode cX6_growTree 21 = .ok (.getfield 55, 3) := by decide +kernel
theorem dX6_growTree_24 : decode cX6_growTree 24 = .ok (.iload_n 1, 1) := by decide +kernel
theorem dX6_growTree_25 : decode cX6_growTree 25 = .ok (.bipush (-9), 2) := by decide +kernel
theorem dX6_growTree_27 : decode cX6_growTree 27 = .ok (.iastore, 1) := by decide +kernel
theorem dX6_growTree_28 : decode cX6_growTree 28 = .ok (.iconst 0, 1) := by decide +kernel
theorem dX6_growTree_29 : decode cX6_growTree 29 = .ok (.istore_n 2, 1) := by decide +kernel
theorem dX6_growTree_30 : decode cX6_growTree 30 = .ok (.iload_n 2, 1) := by decide +kernel
theorem dX6_growTree_31 : decode cX6_growTree 31 = .ok (.aload_n 0, 1) := by decide +kernel
theorem dX6_growTree_32 : decode cX6_growTree 32 = .ok (.getfield 93, 3) := by decide +kernel
theorem dX6_growTree_35 : decode cX6_growTree 35 = .ok (.if_icmp .ge 146, 3) := by decide +kernel
theorem dX6_growTree_38 : decode cX6_growTree 38 = .ok (.aload_n 0, 1) := by decide +kernel
theorem dX6_growTree_39 : decode cX6_growTree 39 = .ok (.getfield 52, 3) := by decide +kernel
theorem dX6_growTree_42 : decode cX6_growTree 42 = .ok (.iload_n 1, 1) := by decide +kernel
theorem dX6_growTree_43 : decode cX6_growTree 43 = .ok (.iaload, 1) := by decide +kernel
theorem dX6_growTree_44 : decode cX6_growTree 44 = .ok (.ifCond .eq 137, 3) := by decide +kernel
theorem dX6_growTree_47 : decode cX6_growTree 47 = .ok (.iload_n 1, 1) := by decide +kernel
theorem dX6_growTree_48 : decode cX6_growTree 48 = .ok (.aload_n 0, 1) := by decide +kernel
theorem dX6_growTree_49 : decode cX6_growTree 49 = .ok (.getfield 22, 3) := by decide +kernel
theorem dX6_growTree_52 : decode cX6_growTree 52 = .ok (.iload_n 2, 1) := by decide +kernel
theorem dX6_growTree_53 : decode cX6_growTree 53 = .ok (.iaload, 1) := by decide +kernel
theorem dX6_growTree_54 : decode cX6_growTree 54 = .ok (.iand, 1) := by decide +kernel
theorem dX6_growTree_55 : decode cX6_growTree 55 = .ok (.istore_n 3, 1) := by decide +kernel
theorem dX6_growTree_56 : decode cX6_growTree 56 = .ok (.iload_n 1, 1) := by decide +kernel
theorem dX6_growTree_57 : decode cX6_growTree 57 = .ok (.aload_n 0, 1) := by decide +kernel
theorem dX6_growTree_58 : decode cX6_growTree 58 = .ok (.getfield 22, 3) := by decide +kernel
theorem dX6_growTree_61 : decode cX6_growTree 61 = .ok (.iload_n 2, 1) := by decide +kernel
theorem dX6_growTree_62 : decode cX6_growTree 62 = .ok (.iaload, 1) := by decide +kernel
theorem dX6_growTree_63 : decode cX6_growTree 63 = .ok (.iconst (-1), 1) := by decide +kernel
theorem dX6_growTree_64 : decode cX6_growTree 64 = .ok (.ixor, 1) := by decide +kernel
theorem dX6_growTree_65 : decode cX6_growTree 65 = .ok (.iand, 1) := by decide +kernel
theorem dX6_growTree_66 : decode cX6_growTree 66 = .ok (.istore 4, 2) := by decide +kernel
theorem dX6_growTree_68 : decode cX6_growTree 68 = .ok (.iload_n 3, 1) := by decide +kernel
theorem dX6_growTree_69 : decode cX6_growTree 69 = .ok (.ifCond .eq 31, 3) := by decide +kernel
theorem dX6_growTree_72 : decode cX6_growTree 72 = .ok (.iload 4, 2) := by decide +kernel
theorem dX6_growTree_74 : decode cX6_growTree 74 = .ok (.ifCond .eq 26, 3) := by decide +kernel
theorem dX6_growTree_77 : decode cX6_growTree 77 = .ok (.aload_n 0, 1) := by decide +kernel
theorem dX6_growTree_78 : decode cX6_growTree 78 = .ok (.getfield 52, 3) := by decide +kernel
theorem dX6_growTree_81 : decode cX6_growTree 81 = .ok (.iload_n 3, 1) := by decide +kernel
theorem dX6_growTree_82 : decode cX6_growTree 82 = .ok (.iaload, 1) := by decide +kernel
theorem dX6_growTree_83 : decode cX6_growTree 83 = .ok (.ifCond .lt 17, 3) := by decide +kernel
theorem dX6_growTree_86 : decode cX6_growTree 86 = .ok (.aload_n 0, 1) := by decide +kernel
theorem dX6_growTree_87 : decode cX6_growTree 87 = .ok (.getfield 52, 3) := by decide +kernel
theorem dX6_growTree_90 : decode cX6_growTree 90 = .ok (.iload 4, 2) := by decide +kernel
theorem dX6_growTree_92 : decode cX6_growTree 92 = .ok (.iaload, 1) := by decide +kernel
theorem dX6_growTree_93 : decode cX6_growTree 93 = .ok (.ifCond .lt 7, 3) := by decide +kernel
theorem dX6_growTree_96 : decode cX6_growTree 96 = .ok (.iconst 1, 1) := by decide +kernel
theorem dX6_growTree_97 : decode cX6_growTree 97 = .ok (.goto 4, 3) := by decide +kernel
theorem dX6_growTree_100 : decode cX6_growTree 100 = .ok (.iconst 0, 1) := by decide +kernel
theorem dX6_growTree_101 : decode cX6_growTree 101 = .ok (.istore 5, 2) := by decide +kernel
theorem dX6_growTree_103 : decode cX6_growTree 103 = .ok (.iload 5, 2) := by decide +kernel
theorem dX6_growTree_105 : decode cX6_growTree 105 = .ok (.ifCond .eq 26, 3) := by decide +kernel
theorem dX6_growTree_108 : decode cX6_growTree 108 = .ok (.aload_n 0, 1) := by decide +kernel
theorem dX6_growTree_109 : decode cX6_growTree 109 = .ok (.iload_n 1, 1) := by decide +kernel
theorem dX6_growTree_110 : decode cX6_growTree 110 = .ok (.invokevirtual 176, 3) := by decide +kernel
theorem dX6_growTree_113 : decode cX6_growTree 113 = .ok (.aload_n 0, 1) := by decide +kernel
theorem dX6_growTree_114 : decode cX6_growTree 114 = .ok (.getfield 52, 3) := by decide +kernel
theorem dX6_growTree_117 : decode cX6_growTree 117 = .ok (.iload_n 3, 1) := by decide +kernel
theorem dX6_growTree_118 : decode cX6_growTree 118 = .ok (.iaload, 1) := by decide +kernel
theorem dX6_growTree_119 : decode cX6_growTree 119 = .ok (.iadd, 1) := by decide +kernel
theorem dX6_growTree_120 : decode cX6_growTree 120 = .ok (.aload_n 0, 1) := by decide +kernel
theorem dX6_growTree_121 : decode cX6_growTree 121 = .ok (.getfield 52, 3) := by decide +kernel
theorem dX6_growTree_124 : decode cX6_growTree 124 = .ok (.iload 4, 2) := by decide +kernel
theorem dX6_growTree_126 : decode cX6_growTree 126 = .ok (.iaload, 1) := by decide +kernel
theorem dX6_growTree_127 : decode cX6_growTree 127 = .ok (.iadd, 1) := by decide +kernel
theorem dX6_growTree_128 : decode cX6_growTree 128 = .ok (.goto 5, 3) := by decide +kernel
theorem dX6_growTree_131 : decode cX6_growTree 131 = .ok (.bipush (-9), 2) := by decide +kernel
theorem dX6_growTree_133 : decode cX6_growTree 133 = .ok (.istore 6, 2) := by decide +kernel
theorem dX6_growTree_135 : decode cX6_growTree 135 = .ok (.iload 5, 2) := by decide +kernel
theorem dX6_growTree_137 : decode cX6_growTree 137 = .ok (.ifCond .eq 38, 3) := by decide +kernel
theorem dX6_growTree_140 : decode cX6_growTree 140 = .ok (.aload_n 0, 1) := by decide +kernel
theorem dX6_growTree_141 : decode cX6_growTree 141 = .ok (.getfield 55, 3) := by decide +kernel
theorem dX6_growTree_144 : decode cX6_growTree 144 = .ok (.iload_n 1, 1) := by decide +kernel
theorem dX6_growTree_145 : decode cX6_growTree 145 = .ok (.iaload, 1) := by decide +kernel
theorem dX6_growTree_146 : decode cX6_growTree 146 = .ok (.ifCond .lt 14, 3) := by decide +kernel
theorem dX6_growTree_149 : decode cX6_growTree 149 = .ok (.iload 6, 2) := by decide +kernel
theorem dX6_growTree_151 : decode cX6_growTree 151 = .ok (.aload_n 0, 1) := by decide +kernel
theorem dX6_growTree_152 : decode cX6_growTree 152 = .ok (.getfield 52, 3) := by decide +kernel
theorem dX6_growTree_155 : decode cX6_growTree 155 = .ok (.iload_n 1, 1) := by decide +kernel
theorem dX6_growTree_156 : decode cX6_growTree 156 = .ok (.iaload, 1) := by decide +kernel
theorem dX6_growTree_157 : decode cX6_growTree 157 = .ok (.if_icmp .ge 18, 3) := by decide +kernel
theorem dX6_growTree_160 : decode cX6_growTree 160 = .ok (.aload_n 0, 1) := by decide +kernel
theorem dX6_growTree_161 : decode cX6_growTree 161 = .ok (.getfield 52, 3) := by decide +kernel
theorem dX6_growTree_164 : decode cX6_growTree 164 = .ok (.iload_n 1, 1) := by decide +kernel
theorem dX6_growTree_165 : decode cX6_growTree 165 = .ok (.iload 6, 2) := by decide +kernel
theorem dX6_growTree_167 : decode cX6_growTree 167 = .ok (.iastore, 1) := by decide +kernel
theorem dX6_growTree_168 : decode cX6_growTree 168 = .ok (.aload_n 0, 1) := by decide +kernel
theorem dX6_growTree_169 : decode cX6_growTree 169 = .ok (.getfield 55, 3) := by decide +kernel
theorem dX6_growTree_172 : decode cX6_growTree 172 = .ok (.iload_n 1, 1) := by decide +kernel
theorem dX6_growTree_173 : decode cX6_growTree 173 = .ok (.iload_n 2, 1) := by decide +kernel
theorem dX6_growTree_174 : decode cX6_growTree 174 = .ok (.iastore, 1) := by decide +kernel
theorem dX6_growTree_175 : decode cX6_growTree 175 = .ok (.iinc 2 1, 3) := by decide +kernel
theorem dX6_growTree_178 : decode cX6_growTree 178 = .ok (.goto (-148), 3) := by decide +kernel
theorem dX6_growTree_181 : decode cX6_growTree 181 = .ok (.return_, 1) := by decide +kernel
theorem dX6_tree_0 : decode cX6_tree 0 = .ok (.iload_n 1, 1) := by decide +kernel
theorem dX6_tree_1 : decode cX6_tree 1 = .ok (.i2l, 1) := by decide +kernel
theorem dX6_tree_2 : decode cX6_tree 2 = .ok (.lconst 0, 1) := by decide +kernel
theorem dX6_tree_3 : decode cX6_tree 3 = .ok (.lconst 1, 1) := by decide +kernel
theorem dX6_tree_4 : decode cX6_tree 4 = .ok (.invokestatic 89, 3) := by decide +kernel
theorem dX6_tree_7 : decode cX6_tree 7 = .ok (.ifCond .ne 6, 3) := by decide +kernel
theorem dX6_tree_10 : decode cX6_tree 10 = .ok (.bipush (-2), 2) := by decide +kernel
theorem dX6_tree_12 : decode cX6_tree 12 = .ok (.ireturn, 1) := by decide +kernel
theorem dX6_tree_13 : decode cX6_tree 13 = .ok (.aload_n 0, 1) := by decide +kernel
theorem dX6_tree_14 : decode cX6_tree 14 = .ok (.getfield 86, 3) := by decide +kernel
theorem dX6_tree_17 : decode cX6_tree 17 = .ok (.ifCond .ne 6, 3) := by decide +kernel
theorem dX6_tree_20 : decode cX6_tree 20 = .ok (.bipush (-3), 2) := by decide +kernel
theorem dX6_tree_22 : decode cX6_tree 22 = .ok (.ireturn, 1) := by decide +kernel
theorem dX6_tree_23 : decode cX6_tree 23 = .ok (.iconst 0, 1) := by decide +kernel
theorem dX6_tree_24 : decode cX6_tree 24 = .ok (.istore_n 2, 1) := by decide +kernel
theorem dX6_tree_25 : decode cX6_tree 25 = .ok (.iload_n 2, 1) := by decide +kernel
theorem dX6_tree_26 : decode cX6_tree 26 = .ok (.aload_n 0, 1) := by decide +kernel
theorem dX6_tree_27 : decode cX6_tree 27 = .ok (.invokevirtual 159, 3) := by decide +kernel
theorem dX6_tree_30 : decode cX6_tree 30 = .ok (.if_icmp .gt 14, 3) := by decide +kernel
theorem dX6_tree_33 : decode cX6_tree 33 = .ok (.aload_n 0, 1) := by decide +kernel
theorem dX6_tree_34 : decode cX6_tree 34 = .ok (.iload_n 2, 1) := by decide +kernel
theorem dX6_tree_35 : decode cX6_tree 35 = .ok (.invokevirtual 221, 3) := by decide +kernel
theorem dX6_tree_38 : decode cX6_tree 38 = .ok (.iinc 2 1, 3) := by decide +kernel
theorem dX6_tree_41 : decode cX6_tree 41 = .ok (.goto (-16), 3) := by decide +kernel
theorem dX6_tree_44 : decode cX6_tree 44 = .ok (.iload_n 1, 1) := by decide +kernel
theorem dX6_tree_45 : decode cX6_tree 45 = .ok (.ifCond .ne 15, 3) := by decide +kernel
theorem dX6_tree_48 : decode cX6_tree 48 = .ok (.aload_n 0, 1) := by decide +kernel
theorem dX6_tree_49 : decode cX6_tree 49 = .ok (.getfield 52, 3) := by decide +kernel
theorem dX6_tree_52 : decode cX6_tree 52 = .ok (.aload_n 0, 1) := by decide +kernel
theorem dX6_tree_53 : decode cX6_tree 53 = .ok (.invokevirtual 159, 3) := by decide +kernel
theorem dX6_tree_56 : decode cX6_tree 56 = .ok (.iaload, 1) := by decide +kernel
theorem dX6_tree_57 : decode cX6_tree 57 = .ok (.goto 12, 3) := by decide +kernel
theorem dX6_tree_60 : decode cX6_tree 60 = .ok (.aload_n 0, 1) := by decide +kernel
theorem dX6_tree_61 : decode cX6_tree 61 = .ok (.getfield 55, 3) := by decide +kernel
theorem dX6_tree_64 : decode cX6_tree 64 = .ok (.aload_n 0, 1) := by decide +kernel
theorem dX6_tree_65 : decode cX6_tree 65 = .ok (.invokevirtual 159, 3) := by decide +kernel
theorem dX6_tree_68 : decode cX6_tree 68 = .ok (.iaload, 1) := by decide +kernel
theorem dX6_tree_69 : decode cX6_tree 69 = .ok (.ireturn, 1) := by decide +kernel
theorem dX6_odds_0 : decode cX6_odds 0 = .ok (.aload_n 0, 1) := by decide +kernel
theorem dX6_odds_1 : decode cX6_odds 1 = .ok (.iload_n 1, 1) := by decide +kernel
theorem dX6_odds_2 : decode cX6_odds 2 = .ok (.invokevirtual 153, 3) := by decide +kernel
theorem dX6_odds_5 : decode cX6_odds 5 = .ok (.ifCond .ne 25, 3) := by decide +kernel
theorem dX6_odds_8 : decode cX6_odds 8 = .ok (.iload_n 2, 1) := by decide +kernel
theorem dX6_odds_9 : decode cX6_odds 9 = .ok (.i2l, 1) := by decide +kernel
theorem dX6_odds_10 : decode cX6_odds 10 = .ok (.lconst 0, 1) := by decide +kernel
theorem dX6_odds_11 : decode cX6_odds 11 = .ok (.ldc2_w 225, 3) := by decide +kernel
theorem dX6_odds_14 : decode cX6_odds 14 = .ok (.invokestatic 89, 3) := by decide +kernel
theorem dX6_odds_17 : decode cX6_odds 17 = .ok (.ifCond .eq 13, 3) := by decide +kernel
theorem dX6_odds_20 : decode cX6_odds 20 = .ok (.iload_n 3, 1) := by decide +kernel
theorem dX6_odds_21 : decode cX6_odds 21 = .ok (.i2l, 1) := by decide +kernel
theorem dX6_odds_22 : decode cX6_odds 22 = .ok (.lconst 0, 1) := by decide +kernel
theorem dX6_odds_23 : decode cX6_odds 23 = .ok (.lconst 1, 1) := by decide +kernel
theorem dX6_odds_24 : decode cX6_odds 24 = .ok (.invokestatic 89, 3) := by decide +kernel
theorem dX6_odds_27 : decode cX6_odds 27 = .ok (.ifCond .ne 7, 3) := by decide +kernel
theorem dX6_odds_30 : decode cX6_odds 30 = .ok (.invokestatic 82, 3) := by decide +kernel
theorem dX6_odds_33 : decode cX6_odds 33 = .ok (.lreturn, 1) := by decide +kernel
theorem dX6_odds_34 : decode cX6_odds 34 = .ok (.iconst 0, 1) := by decide +kernel
theorem dX6_odds_35 : decode cX6_odds 35 = .ok (.istore 4, 2) := by decide +kernel
theorem dX6_odds_37 : decode cX6_odds 37 = .ok (.iconst 0, 1) := by decide +kernel
theorem dX6_odds_38 : decode cX6_odds 38 = .ok (.istore 5, 2) := by decide +kernel
theorem dX6_odds_40 : decode cX6_odds 40 = .ok (.iload 5, 2) := by decide +kernel
theorem dX6_odds_42 : decode cX6_odds 42 = .ok (.aload_n 0, 1) := by decide +kernel
theorem dX6_odds_43 : decode cX6_odds 43 = .ok (.getfield 86, 3) := by decide +kernel
theorem dX6_odds_46 : decode cX6_odds 46 = .ok (.if_icmp .ge 52, 3) := by decide +kernel
theorem dX6_odds_49 : decode cX6_odds 49 = .ok (.iload 4, 2) := by decide +kernel
theorem dX6_odds_51 : decode cX6_odds 51 = .ok (.iload 5, 2) := by decide +kernel
theorem dX6_odds_53 : decode cX6_odds 53 = .ok (.iload_n 1, 1) := by decide +kernel
theorem dX6_odds_54 : decode cX6_odds 54 = .ok (.if_icmp .eq 34, 3) := by decide +kernel
theorem dX6_odds_57 : decode cX6_odds 57 = .ok (.aload_n 0, 1) := by decide +kernel
theorem dX6_odds_58 : decode cX6_odds 58 = .ok (.getfield 7, 3) := by decide +kernel
theorem dX6_odds_61 : decode cX6_odds 61 = .ok (.iload 5, 2) := by decide +kernel
theorem dX6_odds_63 : decode cX6_odds 63 = .ok (.iaload, 1) := by decide +kernel
theorem dX6_odds_64 : decode cX6_odds 64 = .ok (.ifCond .ne 24, 3) := by decide +kernel
theorem dX6_odds_67 : decode cX6_odds 67 = .ok (.aload_n 0, 1) := by decide +kernel
theorem dX6_odds_68 : decode cX6_odds 68 = .ok (.getfield 19, 3) := by decide +kernel
theorem dX6_odds_71 : decode cX6_odds 71 = .ok (.iload 5, 2) := by decide +kernel
theorem dX6_odds_73 : decode cX6_odds 73 = .ok (.iaload, 1) := by decide +kernel
theorem dX6_odds_74 : decode cX6_odds 74 = .ok (.iload_n 1, 1) := by decide +kernel
theorem dX6_odds_75 : decode cX6_odds 75 = .ok (.if_icmp .ne 13, 3) := by decide +kernel
theorem dX6_odds_78 : decode cX6_odds 78 = .ok (.aload_n 0, 1) := by decide +kernel
theorem dX6_odds_79 : decode cX6_odds 79 = .ok (.getfield 13, 3) := by decide +kernel
theorem dX6_odds_82 : decode cX6_odds 82 = .ok (.iload 5, 2) := by decide +kernel
theorem dX6_odds_84 : decode cX6_odds 84 = .ok (.iaload, 1) := by decide +kernel
theorem dX6_odds_85 : decode cX6_odds 85 = .ok (.goto 4, 3) := by decide +kernel
theorem dX6_odds_88 : decode cX6_odds 88 = .ok (.iconst 0, 1) := by decide +kernel
theorem dX6_odds_89 : decode cX6_odds 89 = .ok (.iadd, 1) := by decide +kernel
theorem dX6_odds_90 : decode cX6_odds 90 = .ok (.istore 4, 2) := by decide +kernel
theorem dX6_odds_92 : decode cX6_odds 92 = .ok (.iinc 5 1, 3) := by decide +kernel
theorem dX6_odds_95 : decode cX6_odds 95 = .ok (.goto (-55), 3) := by decide +kernel
theorem dX6_odds_98 : decode cX6_odds 98 = .ok (.lconst 1, 1) := by decide +kernel
theorem dX6_odds_99 : decode cX6_odds 99 = .ok (.lstore 5, 2) := by decide +kernel
theorem dX6_odds_101 : decode cX6_odds 101 = .ok (.lconst 0, 1) := by decide +kernel
theorem dX6_odds_102 : decode cX6_odds 102 = .ok (.lstore 7, 2) := by decide +kernel
theorem dX6_odds_104 : decode cX6_odds 104 = .ok (.iconst 0, 1) := by decide +kernel
theorem dX6_odds_105 : decode cX6_odds 105 = .ok (.istore 9, 2) := by decide +kernel
theorem dX6_odds_107 : decode cX6_odds 107 = .ok (.iload 9, 2) := by decide +kernel
theorem dX6_odds_109 : decode cX6_odds 109 = .ok (.iload 4, 2) := by decide +kernel
theorem dX6_odds_111 : decode cX6_odds 111 = .ok (.if_icmp .gt 43, 3) := by decide +kernel
theorem dX6_odds_114 : decode cX6_odds 114 = .ok (.lload 7, 2) := by decide +kernel
theorem dX6_odds_116 : decode cX6_odds 116 = .ok (.iload 9, 2) := by decide +kernel
theorem dX6_odds_118 : decode cX6_odds 118 = .ok (.iload_n 2, 1) := by decide +kernel
theorem dX6_odds_119 : decode cX6_odds 119 = .ok (.if_icmp .lt 8, 3) := by decide +kernel
theorem dX6_odds_122 : decode cX6_odds 122 = .ok (.lload 5, 2) := by decide +kernel
theorem dX6_odds_124 : decode cX6_odds 124 = .ok (.goto 4, 3) := by decide +kernel
theorem dX6_odds_127 : decode cX6_odds 127 = .ok (.lconst 0, 1) := by decide +kernel
theorem dX6_odds_128 : decode cX6_odds 128 = .ok (.ladd, 1) := by decide +kernel
theorem dX6_odds_129 : decode cX6_odds 129 = .ok (.lstore 7, 2) := by decide +kernel
theorem dX6_odds_131 : decode cX6_odds 131 = .ok (.lload 5, 2) := by decide +kernel
theorem dX6_odds_133 : decode cX6_odds 133 = .ok (.iload 4, 2) := by decide +kernel
theorem dX6_odds_135 : decode cX6_odds 135 = .ok (.iload 9, 2) := by decide +kernel
theorem dX6_odds_137 : decode cX6_odds 137 = .ok (.isub, 1) := by decide +kernel
theorem dX6_odds_138 : decode cX6_odds 138 = .ok (.i2l, 1) := by decide +kernel
theorem dX6_odds_139 : decode cX6_odds 139 = .ok (.lmul, 1) := by decide +kernel
theorem dX6_odds_140 : decode cX6_odds 140 = .ok (.iload 9, 2) := by decide +kernel
theorem dX6_odds_142 : decode cX6_odds 142 = .ok (.iconst 1, 1) := by decide +kernel
theorem dX6_odds_143 : decode cX6_odds 143 = .ok (.iadd, 1) := by decide +kernel
theorem dX6_odds_144 : decode cX6_odds 144 = .ok (.i2l, 1) := by decide +kernel
theorem dX6_odds_145 : decode cX6_odds 145 = .ok (.ldiv, 1) := by decide +kernel
theorem dX6_odds_146 : decode cX6_odds 146 = .ok (.lstore 5, 2) := by decide +kernel
theorem dX6_odds_148 : decode cX6_odds 148 = .ok (.iinc 9 1, 3) := by decide +kernel
theorem dX6_odds_151 : decode cX6_odds 151 = .ok (.goto (-44), 3) := by decide +kernel
theorem dX6_odds_154 : decode cX6_odds 154 = .ok (.lload 7, 2) := by decide +kernel
theorem dX6_odds_156 : decode cX6_odds 156 = .ok (.lconst 1, 1) := by decide +kernel
theorem dX6_odds_157 : decode cX6_odds 157 = .ok (.iload 4, 2) := by decide +kernel
theorem dX6_odds_159 : decode cX6_odds 159 = .ok (.lshl, 1) := by decide +kernel
theorem dX6_odds_160 : decode cX6_odds 160 = .ok (.iload_n 3, 1) := by decide +kernel
theorem dX6_odds_161 : decode cX6_odds 161 = .ok (.invokestatic 227, 3) := by decide +kernel
theorem dX6_odds_164 : decode cX6_odds 164 = .ok (.lreturn, 1) := by decide +kernel
theorem dX6_reading_0 : decode cX6_reading 0 = .ok (.aload_n 0, 1) := by decide +kernel
theorem dX6_reading_1 : decode cX6_reading 1 = .ok (.getfield 86, 3) := by decide +kernel
theorem dX6_reading_4 : decode cX6_reading 4 = .ok (.ifCond .ne 6, 3) := by decide +kernel
theorem dX6_reading_7 : decode cX6_reading 7 = .ok (.bipush (-3), 2) := by decide +kernel
theorem dX6_reading_9 : decode cX6_reading 9 = .ok (.ireturn, 1) := by decide +kernel
theorem dX6_reading_10 : decode cX6_reading 10 = .ok (.iload_n 1, 1) := by decide +kernel
theorem dX6_reading_11 : decode cX6_reading 11 = .ok (.i2l, 1) := by decide +kernel
theorem dX6_reading_12 : decode cX6_reading 12 = .ok (.lconst 0, 1) := by decide +kernel
theorem dX6_reading_13 : decode cX6_reading 13 = .ok (.aload_n 0, 1) := by decide +kernel
theorem dX6_reading_14 : decode cX6_reading 14 = .ok (.invokevirtual 159, 3) := by decide +kernel
theorem dX6_reading_17 : decode cX6_reading 17 = .ok (.i2l, 1) := by decide +kernel
theorem dX6_reading_18 : decode cX6_reading 18 = .ok (.invokestatic 89, 3) := by decide +kernel
theorem dX6_reading_21 : decode cX6_reading 21 = .ok (.ifCond .eq 15, 3) := by decide +kernel
theorem dX6_reading_24 : decode cX6_reading 24 = .ok (.iload_n 2, 1) := by decide +kernel
theorem dX6_reading_25 : decode cX6_reading 25 = .ok (.i2l, 1) := by decide +kernel
theorem dX6_reading_26 : decode cX6_reading 26 = .ok (.lconst 0, 1) := by decide +kernel
theorem dX6_reading_27 : decode cX6_reading 27 = .ok (.ldc2_w 231, 3) := by decide +kernel
theorem dX6_reading_30 : decode cX6_reading 30 = .ok (.invokestatic 89, 3) := by decide +kernel
theorem dX6_reading_33 : decode cX6_reading 33 = .ok (.ifCond .ne 6, 3) := by decide +kernel
theorem dX6_reading_36 : decode cX6_reading 36 = .ok (.bipush (-2), 2) := by decide +kernel
theorem dX6_reading_38 : decode cX6_reading 38 = .ok (.ireturn, 1) := by decide +kernel
theorem dX6_reading_39 : decode cX6_reading 39 = .ok (.aload_n 0, 1) := by decide +kernel
theorem dX6_reading_40 : decode cX6_reading 40 = .ok (.getfield 144, 3) := by decide +kernel
theorem dX6_reading_43 : decode cX6_reading 43 = .ok (.bipush 8, 2) := by decide +kernel
theorem dX6_reading_45 : decode cX6_reading 45 = .ok (.if_icmp .ne 6, 3) := by decide +kernel
theorem dX6_reading_48 : decode cX6_reading 48 = .ok (.bipush (-4), 2) := by decide +kernel
theorem dX6_reading_50 : decode cX6_reading 50 = .ok (.ireturn, 1) := by decide +kernel
theorem dX6_reading_51 : decode cX6_reading 51 = .ok (.aload_n 0, 1) := by decide +kernel
theorem dX6_reading_52 : decode cX6_reading 52 = .ok (.getfield 58, 3) := by decide +kernel
theorem dX6_reading_55 : decode cX6_reading 55 = .ok (.aload_n 0, 1) := by decide +kernel
theorem dX6_reading_56 : decode cX6_reading 56 = .ok (.getfield 144, 3) := by decide +kernel
theorem dX6_reading_59 : decode cX6_reading 59 = .ok (.iload_n 1, 1) := by decide +kernel
theorem dX6_reading_60 : decode cX6_reading 60 = .ok (.iastore, 1) := by decide +kernel
theorem dX6_reading_61 : decode cX6_reading 61 = .ok (.aload_n 0, 1) := by decide +kernel
theorem dX6_reading_62 : decode cX6_reading 62 = .ok (.getfield 61, 3) := by decide +kernel
theorem dX6_reading_65 : decode cX6_reading 65 = .ok (.aload_n 0, 1) := by decide +kernel
theorem dX6_reading_66 : decode cX6_reading 66 = .ok (.getfield 144, 3) := by decide +kernel
theorem dX6_reading_69 : decode cX6_reading 69 = .ok (.iload_n 2, 1) := by decide +kernel
theorem dX6_reading_70 : decode cX6_reading 70 = .ok (.iastore, 1) := by decide +kernel
theorem dX6_reading_71 : decode cX6_reading 71 = .ok (.aload_n 0, 1) := by decide +kernel
theorem dX6_reading_72 : decode cX6_reading 72 = .ok (.dup, 1) := by decide +kernel
theorem dX6_reading_73 : decode cX6_reading 73 = .ok (.getfield 144, 3) := by decide +kernel
theorem dX6_reading_76 : decode cX6_reading 76 = .ok (.iconst 1, 1) := by decide +kernel
theorem dX6_reading_77 : decode cX6_reading 77 = .ok (.iadd, 1) := by decide +kernel
theorem dX6_reading_78 : decode cX6_reading 78 = .ok (.putfield 144, 3) := by decide +kernel
theorem dX6_reading_81 : decode cX6_reading 81 = .ok (.aload_n 0, 1) := by decide +kernel
theorem dX6_reading_82 : decode cX6_reading 82 = .ok (.getfield 144, 3) := by decide +kernel
theorem dX6_reading_85 : decode cX6_reading 85 = .ok (.iconst 1, 1) := by decide +kernel
theorem dX6_reading_86 : decode cX6_reading 86 = .ok (.isub, 1) := by decide +kernel
theorem dX6_reading_87 : decode cX6_reading 87 = .ok (.ireturn, 1) := by decide +kernel
theorem dX6_back_0 : decode cX6_back 0 = .ok (.iload_n 1, 1) := by decide +kernel
theorem dX6_back_1 : decode cX6_back 1 = .ok (.i2l, 1) := by decide +kernel
theorem dX6_back_2 : decode cX6_back 2 = .ok (.lconst 0, 1) := by decide +kernel
theorem dX6_back_3 : decode cX6_back 3 = .ok (.aload_n 0, 1) := by decide +kernel
theorem dX6_back_4 : decode cX6_back 4 = .ok (.getfield 144, 3) := by decide +kernel
theorem dX6_back_7 : decode cX6_back 7 = .ok (.i2l, 1) := by decide +kernel
theorem dX6_back_8 : decode cX6_back 8 = .ok (.invokestatic 89, 3) := by decide +kernel
theorem dX6_back_11 : decode cX6_back 11 = .ok (.ifCond .ne 6, 3) := by decide +kernel
theorem dX6_back_14 : decode cX6_back 14 = .ok (.bipush (-2), 2) := by decide +kernel
theorem dX6_back_16 : decode cX6_back 16 = .ok (.ireturn, 1) := by decide +kernel
theorem dX6_back_17 : decode cX6_back 17 = .ok (.aload_n 0, 1) := by decide +kernel
theorem dX6_back_18 : decode cX6_back 18 = .ok (.dup, 1) := by decide +kernel
theorem dX6_back_19 : decode cX6_back 19 = .ok (.getfield 144, 3) := by decide +kernel
theorem dX6_back_22 : decode cX6_back 22 = .ok (.iload_n 1, 1) := by decide +kernel
theorem dX6_back_23 : decode cX6_back 23 = .ok (.isub, 1) := by decide +kernel
theorem dX6_back_24 : decode cX6_back 24 = .ok (.putfield 144, 3) := by decide +kernel
theorem dX6_back_27 : decode cX6_back 27 = .ok (.aload_n 0, 1) := by decide +kernel
theorem dX6_back_28 : decode cX6_back 28 = .ok (.getfield 144, 3) := by decide +kernel
theorem dX6_back_31 : decode cX6_back 31 = .ok (.ireturn, 1) := by decide +kernel
theorem dX6_areSo_0 : decode cX6_areSo 0 = .ok (.iconst 1, 1) := by decide +kernel
theorem dX6_areSo_1 : decode cX6_areSo 1 = .ok (.istore_n 1, 1) := by decide +kernel
theorem dX6_areSo_2 : decode cX6_areSo 2 = .ok (.iconst 0, 1) := by decide +kernel
theorem dX6_areSo_3 : decode cX6_areSo 3 = .ok (.istore_n 2, 1) := by decide +kernel
theorem dX6_areSo_4 : decode cX6_areSo 4 = .ok (.iload_n 2, 1) := by decide +kernel
theorem dX6_areSo_5 : decode cX6_areSo 5 = .ok (.aload_n 0, 1) := by decide +kernel
theorem dX6_areSo_6 : decode cX6_areSo 6 = .ok (.getfield 144, 3) := by decide +kernel
theorem dX6_areSo_9 : decode cX6_areSo 9 = .ok (.if_icmp .ge 38, 3) := by decide +kernel
theorem dX6_areSo_12 : decode cX6_areSo 12 = .ok (.iload_n 1, 1) := by decide +kernel
theorem dX6_areSo_13 : decode cX6_areSo 13 = .ok (.ifCond .eq 26, 3) := by decide +kernel
theorem dX6_areSo_16 : decode cX6_areSo 16 = .ok (.aload_n 0, 1) := by decide +kernel
theorem dX6_areSo_17 : decode cX6_areSo 17 = .ok (.aload_n 0, 1) := by decide +kernel
theorem dX6_areSo_18 : decode cX6_areSo 18 = .ok (.getfield 58, 3) := by decide +kernel
theorem dX6_areSo_21 : decode cX6_areSo 21 = .ok (.iload_n 2, 1) := by decide +kernel
theorem dX6_areSo_22 : decode cX6_areSo 22 = .ok (.iaload, 1) := by decide +kernel
theorem dX6_areSo_23 : decode cX6_areSo 23 = .ok (.invokevirtual 176, 3) := by decide +kernel
theorem dX6_areSo_26 : decode cX6_areSo 26 = .ok (.aload_n 0, 1) := by decide +kernel
theorem dX6_areSo_27 : decode cX6_areSo 27 = .ok (.getfield 61, 3) := by decide +kernel
theorem dX6_areSo_30 : decode cX6_areSo 30 = .ok (.iload_n 2, 1) := by decide +kernel
theorem dX6_areSo_31 : decode cX6_areSo 31 = .ok (.iaload, 1) := by decide +kernel
theorem dX6_areSo_32 : decode cX6_areSo 32 = .ok (.if_icmp .ne 7, 3) := by decide +kernel
theorem dX6_areSo_35 : decode cX6_areSo 35 = .ok (.iconst 1, 1) := by decide +kernel
theorem dX6_areSo_36 : decode cX6_areSo 36 = .ok (.goto 4, 3) := by decide +kernel
theorem dX6_areSo_39 : decode cX6_areSo 39 = .ok (.iconst 0, 1) := by decide +kernel
theorem dX6_areSo_40 : decode cX6_areSo 40 = .ok (.istore_n 1, 1) := by decide +kernel
theorem dX6_areSo_41 : decode cX6_areSo 41 = .ok (.iinc 2 1, 3) := by decide +kernel
theorem dX6_areSo_44 : decode cX6_areSo 44 = .ok (.goto (-40), 3) := by decide +kernel
theorem dX6_areSo_47 : decode cX6_areSo 47 = .ok (.iload_n 1, 1) := by decide +kernel
theorem dX6_areSo_48 : decode cX6_areSo 48 = .ok (.ireturn, 1) := by decide +kernel
theorem dX6_counts_0 : decode cX6_counts 0 = .ok (.aload_n 0, 1) := by decide +kernel
theorem dX6_counts_1 : decode cX6_counts 1 = .ok (.iload_n 1, 1) := by decide +kernel
theorem dX6_counts_2 : decode cX6_counts 2 = .ok (.invokevirtual 153, 3) := by decide +kernel
theorem dX6_counts_5 : decode cX6_counts 5 = .ok (.ifCond .eq 5, 3) := by decide +kernel
theorem dX6_counts_8 : decode cX6_counts 8 = .ok (.iconst (-1), 1) := by decide +kernel
theorem dX6_counts_9 : decode cX6_counts 9 = .ok (.ireturn, 1) := by decide +kernel
theorem dX6_counts_10 : decode cX6_counts 10 = .ok (.aload_n 0, 1) := by decide +kernel
theorem dX6_counts_11 : decode cX6_counts 11 = .ok (.getfield 13, 3) := by decide +kernel
theorem dX6_counts_14 : decode cX6_counts 14 = .ok (.iload_n 1, 1) := by decide +kernel
theorem dX6_counts_15 : decode cX6_counts 15 = .ok (.iaload, 1) := by decide +kernel
theorem dX6_counts_16 : decode cX6_counts 16 = .ok (.istore_n 2, 1) := by decide +kernel
theorem dX6_counts_17 : decode cX6_counts 17 = .ok (.iconst 0, 1) := by decide +kernel
theorem dX6_counts_18 : decode cX6_counts 18 = .ok (.istore_n 3, 1) := by decide +kernel
theorem dX6_counts_19 : decode cX6_counts 19 = .ok (.iconst 0, 1) := by decide +kernel
theorem dX6_counts_20 : decode cX6_counts 20 = .ok (.istore 4, 2) := by decide +kernel
theorem dX6_counts_22 : decode cX6_counts 22 = .ok (.iload 4, 2) := by decide +kernel
theorem dX6_counts_24 : decode cX6_counts 24 = .ok (.bipush 10, 2) := by decide +kernel
theorem dX6_counts_26 : decode cX6_counts 26 = .ok (.if_icmp .ge 35, 3) := by decide +kernel
theorem dX6_counts_29 : decode cX6_counts 29 = .ok (.aload_n 0, 1) := by decide +kernel
theorem dX6_counts_30 : decode cX6_counts 30 = .ok (.getfield 13, 3) := by decide +kernel
theorem dX6_counts_33 : decode cX6_counts 33 = .ok (.iload_n 1, 1) := by decide +kernel
theorem dX6_counts_34 : decode cX6_counts 34 = .ok (.iload 4, 2) := by decide +kernel
theorem dX6_counts_36 : decode cX6_counts 36 = .ok (.iastore, 1) := by decide +kernel
theorem dX6_counts_37 : decode cX6_counts 37 = .ok (.iload_n 3, 1) := by decide +kernel
theorem dX6_counts_38 : decode cX6_counts 38 = .ok (.aload_n 0, 1) := by decide +kernel
theorem dX6_counts_39 : decode cX6_counts 39 = .ok (.invokevirtual 233, 3) := by decide +kernel
theorem dX6_counts_42 : decode cX6_counts 42 = .ok (.ifCond .eq 10, 3) := by decide +kernel
theorem dX6_counts_45 : decode cX6_counts 45 = .ok (.iconst 1, 1) := by decide +kernel
theorem dX6_counts_46 : decode cX6_counts 46 = .ok (.iload 4, 2) := by decide +kernel
theorem dX6_counts_48 : decode cX6_counts 48 = .ok (.ishl, 1) := by decide +kernel
theorem dX6_counts_49 : decode cX6_counts 49 = .ok (.goto 4, 3) := by decide +kernel
theorem dX6_counts_52 : decode cX6_counts 52 = .ok (.iconst 0, 1) := by decide +kernel
theorem dX6_counts_53 : decode cX6_counts 53 = .ok (.ior, 1) := by decide +kernel
theorem dX6_counts_54 : decode cX6_counts 54 = .ok (.istore_n 3, 1) := by decide +kernel
theorem dX6_counts_55 : decode cX6_counts 55 = .ok (.iinc 4 1, 3) := by decide +kernel
theorem dX6_counts_58 : decode cX6_counts 58 = .ok (.goto (-36), 3) := by decide +kernel
theorem dX6_counts_61 : decode cX6_counts 61 = .ok (.aload_n 0, 1) := by decide +kernel
theorem dX6_counts_62 : decode cX6_counts 62 = .ok (.getfield 13, 3) := by decide +kernel
theorem dX6_counts_65 : decode cX6_counts 65 = .ok (.iload_n 1, 1) := by decide +kernel
theorem dX6_counts_66 : decode cX6_counts 66 = .ok (.iload_n 2, 1) := by decide +kernel
theorem dX6_counts_67 : decode cX6_counts 67 = .ok (.iastore, 1) := by decide +kernel
theorem dX6_counts_68 : decode cX6_counts 68 = .ok (.iload_n 3, 1) := by decide +kernel
theorem dX6_counts_69 : decode cX6_counts 69 = .ok (.ireturn, 1) := by decide +kernel
theorem dX6_kinds_0 : decode cX6_kinds 0 = .ok (.aload_n 0, 1) := by decide +kernel
theorem dX6_kinds_1 : decode cX6_kinds 1 = .ok (.iload_n 1, 1) := by decide +kernel
theorem dX6_kinds_2 : decode cX6_kinds 2 = .ok (.invokevirtual 153, 3) := by decide +kernel
theorem dX6_kinds_5 : decode cX6_kinds 5 = .ok (.ifCond .eq 5, 3) := by decide +kernel
theorem dX6_kinds_8 : decode cX6_kinds 8 = .ok (.iconst (-1), 1) := by decide +kernel
theorem dX6_kinds_9 : decode cX6_kinds 9 = .ok (.ireturn, 1) := by decide +kernel
theorem dX6_kinds_10 : decode cX6_kinds 10 = .ok (.aload_n 0, 1) := by decide +kernel
theorem dX6_kinds_11 : decode cX6_kinds 11 = .ok (.getfield 7, 3) := by decide +kernel
theorem dX6_kinds_14 : decode cX6_kinds 14 = .ok (.iload_n 1, 1) := by decide +kernel
theorem dX6_kinds_15 : decode cX6_kinds 15 = .ok (.iaload, 1) := by decide +kernel
theorem dX6_kinds_16 : decode cX6_kinds 16 = .ok (.istore_n 2, 1) := by decide +kernel
theorem dX6_kinds_17 : decode cX6_kinds 17 = .ok (.iconst 0, 1) := by decide +kernel
theorem dX6_kinds_18 : decode cX6_kinds 18 = .ok (.istore_n 3, 1) := by decide +kernel
theorem dX6_kinds_19 : decode cX6_kinds 19 = .ok (.iconst 0, 1) := by decide +kernel
theorem dX6_kinds_20 : decode cX6_kinds 20 = .ok (.istore 4, 2) := by decide +kernel
theorem dX6_kinds_22 : decode cX6_kinds 22 = .ok (.iload 4, 2) := by decide +kernel
theorem dX6_kinds_24 : decode cX6_kinds 24 = .ok (.iconst 3, 1) := by decide +kernel
theorem dX6_kinds_25 : decode cX6_kinds 25 = .ok (.if_icmp .ge 35, 3) := by decide +kernel
theorem dX6_kinds_28 : decode cX6_kinds 28 = .ok (.aload_n 0, 1) := by decide +kernel
theorem dX6_kinds_29 : decode cX6_kinds 29 = .ok (.getfield 7, 3) := by decide +kernel
theorem dX6_kinds_32 : decode cX6_kinds 32 = .ok (.iload_n 1, 1) := by decide +kernel
theorem dX6_kinds_33 : decode cX6_kinds 33 = .ok (.iload 4, 2) := by decide +kernel
theorem dX6_kinds_35 : decode cX6_kinds 35 = .ok (.iastore, 1) := by decide +kernel
theorem dX6_kinds_36 : decode cX6_kinds 36 = .ok (.iload_n 3, 1) := by decide +kernel
theorem dX6_kinds_37 : decode cX6_kinds 37 = .ok (.aload_n 0, 1) := by decide +kernel
theorem dX6_kinds_38 : decode cX6_kinds 38 = .ok (.invokevirtual 233, 3) := by decide +kernel
theorem dX6_kinds_41 : decode cX6_kinds 41 = .ok (.ifCond .eq 10, 3) := by decide +kernel
theorem dX6_kinds_44 : decode cX6_kinds 44 = .ok (.iconst 1, 1) := by decide +kernel
theorem dX6_kinds_45 : decode cX6_kinds 45 = .ok (.iload 4, 2) := by decide +kernel
theorem dX6_kinds_47 : decode cX6_kinds 47 = .ok (.ishl, 1) := by decide +kernel
theorem dX6_kinds_48 : decode cX6_kinds 48 = .ok (.goto 4, 3) := by decide +kernel
theorem dX6_kinds_51 : decode cX6_kinds 51 = .ok (.iconst 0, 1) := by decide +kernel
theorem dX6_kinds_52 : decode cX6_kinds 52 = .ok (.ior, 1) := by decide +kernel
theorem dX6_kinds_53 : decode cX6_kinds 53 = .ok (.istore_n 3, 1) := by decide +kernel
theorem dX6_kinds_54 : decode cX6_kinds 54 = .ok (.iinc 4 1, 3) := by decide +kernel
theorem dX6_kinds_57 : decode cX6_kinds 57 = .ok (.goto (-35), 3) := by decide +kernel
theorem dX6_kinds_60 : decode cX6_kinds 60 = .ok (.aload_n 0, 1) := by decide +kernel
theorem dX6_kinds_61 : decode cX6_kinds 61 = .ok (.getfield 7, 3) := by decide +kernel
theorem dX6_kinds_64 : decode cX6_kinds 64 = .ok (.iload_n 1, 1) := by decide +kernel
theorem dX6_kinds_65 : decode cX6_kinds 65 = .ok (.iload_n 2, 1) := by decide +kernel
theorem dX6_kinds_66 : decode cX6_kinds 66 = .ok (.iastore, 1) := by decide +kernel
theorem dX6_kinds_67 : decode cX6_kinds 67 = .ok (.iload_n 3, 1) := by decide +kernel
theorem dX6_kinds_68 : decode cX6_kinds 68 = .ok (.ireturn, 1) := by decide +kernel
theorem dX6_speeds_0 : decode cX6_speeds 0 = .ok (.aload_n 0, 1) := by decide +kernel
theorem dX6_speeds_1 : decode cX6_speeds 1 = .ok (.iload_n 1, 1) := by decide +kernel
theorem dX6_speeds_2 : decode cX6_speeds 2 = .ok (.invokevirtual 153, 3) := by decide +kernel
theorem dX6_speeds_5 : decode cX6_speeds 5 = .ok (.ifCond .eq 5, 3) := by decide +kernel
theorem dX6_speeds_8 : decode cX6_speeds 8 = .ok (.iconst (-1), 1) := by decide +kernel
theorem dX6_speeds_9 : decode cX6_speeds 9 = .ok (.ireturn, 1) := by decide +kernel
theorem dX6_speeds_10 : decode cX6_speeds 10 = .ok (.aload_n 0, 1) := by decide +kernel
theorem dX6_speeds_11 : decode cX6_speeds 11 = .ok (.getfield 16, 3) := by decide +kernel
theorem dX6_speeds_14 : decode cX6_speeds 14 = .ok (.iload_n 1, 1) := by decide +kernel
theorem dX6_speeds_15 : decode cX6_speeds 15 = .ok (.iaload, 1) := by decide +kernel
theorem dX6_speeds_16 : decode cX6_speeds 16 = .ok (.istore_n 2, 1) := by decide +kernel
theorem dX6_speeds_17 : decode cX6_speeds 17 = .ok (.iconst 0, 1) := by decide +kernel
theorem dX6_speeds_18 : decode cX6_speeds 18 = .ok (.istore_n 3, 1) := by decide +kernel
theorem dX6_speeds_19 : decode cX6_speeds 19 = .ok (.iconst 1, 1) := by decide +kernel
theorem dX6_speeds_20 : decode cX6_speeds 20 = .ok (.istore 4, 2) := by decide +kernel
theorem dX6_speeds_22 : decode cX6_speeds 22 = .ok (.iload 4, 2) := by decide +kernel
theorem dX6_speeds_24 : decode cX6_speeds 24 = .ok (.bipush 10, 2) := by decide +kernel
theorem dX6_speeds_26 : decode cX6_speeds 26 = .ok (.if_icmp .ge 35, 3) := by decide +kernel
theorem dX6_speeds_29 : decode cX6_speeds 29 = .ok (.aload_n 0, 1) := by decide +kernel
theorem dX6_speeds_30 : decode cX6_speeds 30 = .ok (.getfield 16, 3) := by decide +kernel
theorem dX6_speeds_33 : decode cX6_speeds 33 = .ok (.iload_n 1, 1) := by decide +kernel
theorem dX6_speeds_34 : decode cX6_speeds 34 = .ok (.iload 4, 2) := by decide +kernel
theorem dX6_speeds_36 : decode cX6_speeds 36 = .ok (.iastore, 1) := by decide +kernel
theorem dX6_speeds_37 : decode cX6_speeds 37 = .ok (.iload_n 3, 1) := by decide +kernel
theorem dX6_speeds_38 : decode cX6_speeds 38 = .ok (.aload_n 0, 1) := by decide +kernel
theorem dX6_speeds_39 : decode cX6_speeds 39 = .ok (.invokevirtual 233, 3) := by decide +kernel
theorem dX6_speeds_42 : decode cX6_speeds 42 = .ok (.ifCond .eq 10, 3) := by decide +kernel
theorem dX6_speeds_45 : decode cX6_speeds 45 = .ok (.iconst 1, 1) := by decide +kernel
theorem dX6_speeds_46 : decode cX6_speeds 46 = .ok (.iload 4, 2) := by decide +kernel
theorem dX6_speeds_48 : decode cX6_speeds 48 = .ok (.ishl, 1) := by decide +kernel
theorem dX6_speeds_49 : decode cX6_speeds 49 = .ok (.goto 4, 3) := by decide +kernel
theorem dX6_speeds_52 : decode cX6_speeds 52 = .ok (.iconst 0, 1) := by decide +kernel
theorem dX6_speeds_53 : decode cX6_speeds 53 = .ok (.ior, 1) := by decide +kernel
theorem dX6_speeds_54 : decode cX6_speeds 54 = .ok (.istore_n 3, 1) := by decide +kernel
theorem dX6_speeds_55 : decode cX6_speeds 55 = .ok (.iinc 4 1, 3) := by decide +kernel
theorem dX6_speeds_58 : decode cX6_speeds 58 = .ok (.goto (-36), 3) := by decide +kernel
theorem dX6_speeds_61 : decode cX6_speeds 61 = .ok (.aload_n 0, 1) := by decide +kernel
theorem dX6_speeds_62 : decode cX6_speeds 62 = .ok (.getfield 16, 3) := by decide +kernel
theorem dX6_speeds_65 : decode cX6_speeds 65 = .ok (.iload_n 1, 1) := by decide +kernel
theorem dX6_speeds_66 : decode cX6_speeds 66 = .ok (.iload_n 2, 1) := by decide +kernel
theorem dX6_speeds_67 : decode cX6_speeds 67 = .ok (.iastore, 1) := by decide +kernel
theorem dX6_speeds_68 : decode cX6_speeds 68 = .ok (.iload_n 3, 1) := by decide +kernel
theorem dX6_speeds_69 : decode cX6_speeds 69 = .ok (.ireturn, 1) := by decide +kernel
theorem dX6_noSheet_0 : decode cX6_noSheet 0 = .ok (.iload_n 0, 1) := by decide +kernel
theorem dX6_noSheet_1 : decode cX6_noSheet 1 = .ok (.i2l, 1) := by decide +kernel
theorem dX6_noSheet_2 : decode cX6_noSheet 2 = .ok (.lconst 0, 1) := by decide +kernel
theorem dX6_noSheet_3 : decode cX6_noSheet 3 = .ok (.ldc2_w 189, 3) := by decide +kernel
theorem dX6_noSheet_6 : decode cX6_noSheet 6 = .ok (.invokestatic 89, 3) := by decide +kernel
theorem dX6_noSheet_9 : decode cX6_noSheet 9 = .ok (.ifCond .ne 7, 3) := by decide +kernel
theorem dX6_noSheet_12 : decode cX6_noSheet 12 = .ok (.iconst 1, 1) := by decide +kernel
theorem dX6_noSheet_13 : decode cX6_noSheet 13 = .ok (.goto 4, 3) := by decide +kernel
theorem dX6_noSheet_16 : decode cX6_noSheet 16 = .ok (.iconst 0, 1) := by decide +kernel
theorem dX6_noSheet_17 : decode cX6_noSheet 17 = .ok (.ireturn, 1) := by decide +kernel
theorem dX6_sheet_0 : decode cX6_sheet 0 = .ok (.iload_n 1, 1) := by decide +kernel
theorem dX6_sheet_1 : decode cX6_sheet 1 = .ok (.invokestatic 128, 3) := by decide +kernel
theorem dX6_sheet_4 : decode cX6_sheet 4 = .ok (.ifCond .eq 9, 3) := by decide +kernel
theorem dX6_sheet_7 : decode cX6_sheet 7 = .ok (.aload_n 0, 1) := by decide +kernel
theorem dX6_sheet_8 : decode cX6_sheet 8 = .ok (.iconst (-1), 1) := by decide +kernel
theorem dX6_sheet_9 : decode cX6_sheet 9 = .ok (.invokevirtual 132, 3) := by decide +kernel
theorem dX6_sheet_12 : decode cX6_sheet 12 = .ok (.ireturn, 1) := by decide +kernel
theorem dX6_sheet_13 : decode cX6_sheet 13 = .ok (.iload_n 2, 1) := by decide +kernel
theorem dX6_sheet_14 : decode cX6_sheet 14 = .ok (.i2l, 1) := by decide +kernel
theorem dX6_sheet_15 : decode cX6_sheet 15 = .ok (.lconst 0, 1) := by decide +kernel
theorem dX6_sheet_16 : decode cX6_sheet 16 = .ok (.ldc2_w 135, 3) := by decide +kernel
theorem dX6_sheet_19 : decode cX6_sheet 19 = .ok (.invokestatic 89, 3) := by decide +kernel
theorem dX6_sheet_22 : decode cX6_sheet 22 = .ok (.ifCond .eq 9, 3) := by decide +kernel
theorem dX6_sheet_25 : decode cX6_sheet 25 = .ok (.iload_n 3, 1) := by decide +kernel
theorem dX6_sheet_26 : decode cX6_sheet 26 = .ok (.bipush 60, 2) := by decide +kernel
theorem dX6_sheet_28 : decode cX6_sheet 28 = .ok (.if_icmp .le 10, 3) := by decide +kernel
theorem dX6_sheet_31 : decode cX6_sheet 31 = .ok (.aload_n 0, 1) := by decide +kernel
theorem dX6_sheet_32 : decode cX6_sheet 32 = .ok (.bipush (-2), 2) := by decide +kernel
theorem dX6_sheet_34 : decode cX6_sheet 34 = .ok (.invokevirtual 132, 3) := by decide +kernel
theorem dX6_sheet_37 : decode cX6_sheet 37 = .ok (.ireturn, 1) := by decide +kernel
theorem dX6_sheet_38 : decode cX6_sheet 38 = .ok (.iload_n 3, 1) := by decide +kernel
theorem dX6_sheet_39 : decode cX6_sheet 39 = .ok (.ifCond .ge 9, 3) := by decide +kernel
theorem dX6_sheet_42 : decode cX6_sheet 42 = .ok (.aload_n 0, 1) := by decide +kernel
theorem dX6_sheet_43 : decode cX6_sheet 43 = .ok (.iconst 4, 1) := by decide +kernel
theorem dX6_sheet_44 : decode cX6_sheet 44 = .ok (.invokevirtual 120, 3) := by decide +kernel
theorem dX6_sheet_47 : decode cX6_sheet 47 = .ok (.ireturn, 1) := by decide +kernel
theorem dX6_sheet_48 : decode cX6_sheet 48 = .ok (.aload_n 0, 1) := by decide +kernel
theorem dX6_sheet_49 : decode cX6_sheet 49 = .ok (.getfield 64, 3) := by decide +kernel
theorem dX6_sheet_52 : decode cX6_sheet 52 = .ok (.iload_n 1, 1) := by decide +kernel
theorem dX6_sheet_53 : decode cX6_sheet 53 = .ok (.iload_n 3, 1) := by decide +kernel
theorem dX6_sheet_54 : decode cX6_sheet 54 = .ok (.iastore, 1) := by decide +kernel
theorem dX6_sheet_55 : decode cX6_sheet 55 = .ok (.aload_n 0, 1) := by decide +kernel
theorem dX6_sheet_56 : decode cX6_sheet 56 = .ok (.getfield 67, 3) := by decide +kernel
theorem dX6_sheet_59 : decode cX6_sheet 59 = .ok (.iload_n 1, 1) := by decide +kernel
theorem dX6_sheet_60 : decode cX6_sheet 60 = .ok (.iload_n 2, 1) := by decide +kernel
theorem dX6_sheet_61 : decode cX6_sheet 61 = .ok (.iastore, 1) := by decide +kernel
theorem dX6_sheet_62 : decode cX6_sheet 62 = .ok (.iconst 0, 1) := by decide +kernel
theorem dX6_sheet_63 : decode cX6_sheet 63 = .ok (.istore 4, 2) := by decide +kernel
theorem dX6_sheet_65 : decode cX6_sheet 65 = .ok (.iload 4, 2) := by decide +kernel
theorem dX6_sheet_67 : decode cX6_sheet 67 = .ok (.iload_n 3, 1) := by decide +kernel
theorem dX6_sheet_68 : decode cX6_sheet 68 = .ok (.if_icmp .ge 22, 3) := by decide +kernel
theorem dX6_sheet_71 : decode cX6_sheet 71 = .ok (.aload_n 0, 1) := by decide +kernel
theorem dX6_sheet_72 : decode cX6_sheet 72 = .ok (.getfield 70, 3) := by decide +kernel
theorem dX6_sheet_75 : decode cX6_sheet 75 = .ok (.bipush 60, 2) := by decide +kernel
theorem dX6_sheet_77 : decode cX6_sheet 77 = .ok (.iload_n 1, 1) := by decide +kernel
theorem dX6_sheet_78 : decode cX6_sheet 78 = .ok (.imul, 1) := by decide +kernel
theorem dX6_sheet_79 : decode cX6_sheet 79 = .ok (.iload 4, 2) := by decide +kernel
theorem dX6_sheet_81 : decode cX6_sheet 81 = .ok (.iadd, 1) := by decide +kernel
theorem dX6_sheet_82 : decode cX6_sheet 82 = .ok (.iconst 0, 1) := by decide +kernel
theorem dX6_sheet_83 : decode cX6_sheet 83 = .ok (.iastore, 1) := by decide +kernel
theorem dX6_sheet_84 : decode cX6_sheet 84 = .ok (.iinc 4 1, 3) := by decide +kernel
theorem dX6_sheet_87 : decode cX6_sheet 87 = .ok (.goto (-22), 3) := by decide +kernel
theorem dX6_sheet_90 : decode cX6_sheet 90 = .ok (.aload_n 0, 1) := by decide +kernel
theorem dX6_sheet_91 : decode cX6_sheet 91 = .ok (.iconst 1, 1) := by decide +kernel
theorem dX6_sheet_92 : decode cX6_sheet 92 = .ok (.invokevirtual 132, 3) := by decide +kernel
theorem dX6_sheet_95 : decode cX6_sheet 95 = .ok (.ireturn, 1) := by decide +kernel
theorem dX6_lose_0 : decode cX6_lose 0 = .ok (.iload_n 1, 1) := by decide +kernel
theorem dX6_lose_1 : decode cX6_lose 1 = .ok (.invokestatic 128, 3) := by decide +kernel
theorem dX6_lose_4 : decode cX6_lose 4 = .ok (.ifCond .eq 5, 3) := by decide +kernel
theorem dX6_lose_7 : decode cX6_lose 7 = .ok (.iconst (-1), 1) := by decide +kernel
theorem dX6_lose_8 : decode cX6_lose 8 = .ok (.ireturn, 1) := by decide +kernel
theorem dX6_lose_9 : decode cX6_lose 9 = .ok (.aload_n 0, 1) := by decide +kernel
theorem dX6_lose_10 : decode cX6_lose 10 = .ok (.getfield 64, 3) := by decide +kernel
theorem dX6_lose_13 : decode cX6_lose 13 = .ok (.iload_n 1, 1) := by decide +kernel
theorem dX6_lose_14 : decode cX6_lose 14 = .ok (.iaload, 1) := by decide +kernel
theorem dX6_lose_15 : decode cX6_lose 15 = .ok (.ifCond .ge 7, 3) := by decide +kernel
theorem dX6_lose_18 : decode cX6_lose 18 = .ok (.iconst 0, 1) := by decide +kernel
theorem dX6_lose_19 : decode cX6_lose 19 = .ok (.goto 4, 3) := by decide +kernel
theorem dX6_lose_22 : decode cX6_lose 22 = .ok (.iconst 1, 1) := by decide +kernel
theorem dX6_lose_23 : decode cX6_lose 23 = .ok (.istore_n 2, 1) := by decide +kernel
theorem dX6_lose_24 : decode cX6_lose 24 = .ok (.aload_n 0, 1) := by decide +kernel
theorem dX6_lose_25 : decode cX6_lose 25 = .ok (.getfield 64, 3) := by decide +kernel
theorem dX6_lose_28 : decode cX6_lose 28 = .ok (.iload_n 1, 1) := by decide +kernel
theorem dX6_lose_29 : decode cX6_lose 29 = .ok (.iconst (-1), 1) := by decide +kernel
theorem dX6_lose_30 : decode cX6_lose 30 = .ok (.iastore, 1) := by decide +kernel
theorem dX6_lose_31 : decode cX6_lose 31 = .ok (.iload_n 2, 1) := by decide +kernel
theorem dX6_lose_32 : decode cX6_lose 32 = .ok (.ireturn, 1) := by decide +kernel
theorem dX6_noCell_0 : decode cX6_noCell 0 = .ok (.aload_n 0, 1) := by decide +kernel
theorem dX6_noCell_1 : decode cX6_noCell 1 = .ok (.getfield 64, 3) := by decide +kernel
theorem dX6_noCell_4 : decode cX6_noCell 4 = .ok (.iload_n 1, 1) := by decide +kernel
theorem dX6_noCell_5 : decode cX6_noCell 5 = .ok (.iaload, 1) := by decide +kernel
theorem dX6_noCell_6 : decode cX6_noCell 6 = .ok (.ifCond .ge 7, 3) := by decide +kernel
theorem dX6_noCell_9 : decode cX6_noCell 9 = .ok (.iconst 1, 1) := by decide +kernel
theorem dX6_noCell_10 : decode cX6_noCell 10 = .ok (.goto 26, 3) := by decide +kernel
theorem dX6_noCell_13 : decode cX6_noCell 13 = .ok (.iload_n 2, 1) := by decide +kernel
theorem dX6_noCell_14 : decode cX6_noCell 14 = .ok (.i2l, 1) := by decide +kernel
theorem dX6_noCell_15 : decode cX6_noCell 15 = .ok (.lconst 0, 1) := by decide +kernel
theorem dX6_noCell_16 : decode cX6_noCell 16 = .ok (.aload_n 0, 1) := by decide +kernel
theorem dX6_noCell_17 : decode cX6_noCell 17 = .ok (.getfield 64, 3) := by decide +kernel
theorem dX6_noCell_20 : decode cX6_noCell 20 = .ok (.iload_n 1, 1) := by decide +kernel
theorem dX6_noCell_21 : decode cX6_noCell 21 = .ok (.iaload, 1) := by decide +kernel
theorem dX6_noCell_22 : decode cX6_noCell 22 = .ok (.i2l, 1) := by decide +kernel
theorem dX6_noCell_23 : decode cX6_noCell 23 = .ok (.lconst 1, 1) := by decide +kernel
theorem dX6_noCell_24 : decode cX6_noCell 24 = .ok (.lsub, 1) := by decide +kernel
theorem dX6_noCell_25 : decode cX6_noCell 25 = .ok (.invokestatic 89, 3) := by decide +kernel
theorem dX6_noCell_28 : decode cX6_noCell 28 = .ok (.ifCond .eq 7, 3) := by decide +kernel
theorem dX6_noCell_31 : decode cX6_noCell 31 = .ok (.iconst 0, 1) := by decide +kernel
theorem dX6_noCell_32 : decode cX6_noCell 32 = .ok (.goto 4, 3) := by decide +kernel
theorem dX6_noCell_35 : decode cX6_noCell 35 = .ok (.iconst 3, 1) := by decide +kernel
theorem dX6_noCell_36 : decode cX6_noCell 36 = .ok (.ireturn, 1) := by decide +kernel
theorem dX6_put_0 : decode cX6_put 0 = .ok (.iload_n 1, 1) := by decide +kernel
theorem dX6_put_1 : decode cX6_put 1 = .ok (.invokestatic 128, 3) := by decide +kernel
theorem dX6_put_4 : decode cX6_put 4 = .ok (.ifCond .eq 9, 3) := by decide +kernel
theorem dX6_put_7 : decode cX6_put 7 = .ok (.aload_n 0, 1) := by decide +kernel
theorem dX6_put_8 : decode cX6_put 8 = .ok (.iconst (-1), 1) := by decide +kernel
theorem dX6_put_9 : decode cX6_put 9 = .ok (.invokevirtual 132, 3) := by decide +kernel
theorem dX6_put_12 : decode cX6_put 12 = .ok (.ireturn, 1) := by decide +kernel
theorem dX6_put_13 : decode cX6_put 13 = .ok (.aload_n 0, 1) := by decide +kernel
theorem dX6_put_14 : decode cX6_put 14 = .ok (.iload_n 1, 1) := by decide +kernel
theorem dX6_put_15 : decode cX6_put 15 = .ok (.iload_n 2, 1) := by decide +kernel
theorem dX6_put_16 : decode cX6_put 16 = .ok (.invokevirtual 237, 3) := by decide +kernel
theorem dX6_put_19 : decode cX6_put 19 = .ok (.ifCond .le 14, 3) := by decide +kernel
theorem dX6_put_22 : decode cX6_put 22 = .ok (.aload_n 0, 1) := by decide +kernel
theorem dX6_put_23 : decode cX6_put 23 = .ok (.aload_n 0, 1) := by decide +kernel
theorem dX6_put_24 : decode cX6_put 24 = .ok (.iload_n 1, 1) := by decide +kernel
theorem dX6_put_25 : decode cX6_put 25 = .ok (.iload_n 2, 1) := by decide +kernel
theorem dX6_put_26 : decode cX6_put 26 = .ok (.invokevirtual 237, 3) := by decide +kernel
theorem dX6_put_29 : decode cX6_put 29 = .ok (.invokevirtual 120, 3) := by decide +kernel
theorem dX6_put_32 : decode cX6_put 32 = .ok (.ireturn, 1) := by decide +kernel
theorem dX6_put_33 : decode cX6_put 33 = .ok (.aload_n 0, 1) := by decide +kernel
theorem dX6_put_34 : decode cX6_put 34 = .ok (.getfield 70, 3) := by decide +kernel
theorem dX6_put_37 : decode cX6_put 37 = .ok (.bipush 60, 2) := by decide +kernel
theorem dX6_put_39 : decode cX6_put 39 = .ok (.iload_n 1, 1) := by decide +kernel
theorem dX6_put_40 : decode cX6_put 40 = .ok (.imul, 1) := by decide +kernel
theorem dX6_put_41 : decode cX6_put 41 = .ok (.iload_n 2, 1) := by decide +kernel
theorem dX6_put_42 : decode cX6_put 42 = .ok (.iadd, 1) := by decide +kernel
theorem dX6_put_43 : decode cX6_put 43 = .ok (.aload_n 0, 1) := by decide +kernel
theorem dX6_put_44 : decode cX6_put 44 = .ok (.getfield 67, 3) := by decide +kernel
theorem dX6_put_47 : decode cX6_put 47 = .ok (.iload_n 1, 1) := by decide +kernel
theorem dX6_put_48 : decode cX6_put 48 = .ok (.iaload, 1) := by decide +kernel
theorem dX6_put_49 : decode cX6_put 49 = .ok (.ifCond .ne 8, 3) := by decide +kernel
theorem dX6_put_52 : decode cX6_put 52 = .ok (.iload_n 3, 1) := by decide +kernel
theorem dX6_put_53 : decode cX6_put 53 = .ok (.i2b, 1) := by decide +kernel
theorem dX6_put_54 : decode cX6_put 54 = .ok (.goto 19, 3) := by decide +kernel
theorem dX6_put_57 : decode cX6_put 57 = .ok (.aload_n 0, 1) := by decide +kernel
theorem dX6_put_58 : decode cX6_put 58 = .ok (.getfield 67, 3) := by decide +kernel
theorem dX6_put_61 : decode cX6_put 61 = .ok (.iload_n 1, 1) := by decide +kernel
theorem dX6_put_62 : decode cX6_put 62 = .ok (.iaload, 1) := by decide +kernel
theorem dX6_put_63 : decode cX6_put 63 = .ok (.iconst 1, 1) := by decide +kernel
theorem dX6_put_64 : decode cX6_put 64 = .ok (.if_icmp .ne 8, 3) := by decide +kernel
theorem dX6_put_67 : decode cX6_put 67 = .ok (.iload_n 3, 1) := by decide +kernel
theorem dX6_put_68 : decode cX6_put 68 = .ok (.i2s, 1) := by decide +kernel
theorem dX6_put_69 : decode cX6_put 69 = .ok (.goto 4, 3) := by decide +kernel
theorem dX6_put_72 : decode cX6_put 72 = .ok (.iload_n 3, 1) := by decide +kernel
theorem dX6_put_73 : decode cX6_put 73 = .ok (.iastore, 1) := by decide +kernel
theorem dX6_put_74 : decode cX6_put 74 = .ok (.aload_n 0, 1) := by decide +kernel
theorem dX6_put_75 : decode cX6_put 75 = .ok (.iconst 1, 1) := by decide +kernel
theorem dX6_put_76 : decode cX6_put 76 = .ok (.invokevirtual 132, 3) := by decide +kernel
theorem dX6_put_79 : decode cX6_put 79 = .ok (.ireturn, 1) := by decide +kernel
theorem dX6_cell_0 : decode cX6_cell 0 = .ok (.aload_n 0, 1) := by decide +kernel
theorem dX6_cell_1 : decode cX6_cell 1 = .ok (.iconst 0, 1) := by decide +kernel
theorem dX6_cell_2 : decode cX6_cell 2 = .ok (.putfield 78, 3) := by decide +kernel
theorem dX6_cell_5 : decode cX6_cell 5 = .ok (.iload_n 1, 1) := by decide +kernel
theorem dX6_cell_6 : decode cX6_cell 6 = .ok (.invokestatic 128, 3) := by decide +kernel
theorem dX6_cell_9 : decode cX6_cell 9 = .ok (.ifCond .ne 15, 3) := by decide +kernel
theorem dX6_cell_12 : decode cX6_cell 12 = .ok (.iload_n 3, 1) := by decide +kernel
theorem dX6_cell_13 : decode cX6_cell 13 = .ok (.i2l, 1) := by decide +kernel
theorem dX6_cell_14 : decode cX6_cell 14 = .ok (.lconst 0, 1) := by decide +kernel
theorem dX6_cell_15 : decode cX6_cell 15 = .ok (.ldc2_w 135, 3) := by decide +kernel
theorem dX6_cell_18 : decode cX6_cell 18 = .ok (.invokestatic 89, 3) := by decide +kernel
theorem dX6_cell_21 : decode cX6_cell 21 = .ok (.ifCond .ne 7, 3) := by decide +kernel
theorem dX6_cell_24 : decode cX6_cell 24 = .ok (.invokestatic 82, 3) := by decide +kernel
theorem dX6_cell_27 : decode cX6_cell 27 = .ok (.lreturn, 1) := by decide +kernel
theorem dX6_cell_28 : decode cX6_cell 28 = .ok (.aload_n 0, 1) := by decide +kernel
theorem dX6_cell_29 : decode cX6_cell 29 = .ok (.getfield 64, 3) := by decide +kernel
theorem dX6_cell_32 : decode cX6_cell 32 = .ok (.iload_n 1, 1) := by decide +kernel
theorem dX6_cell_33 : decode cX6_cell 33 = .ok (.iaload, 1) := by decide +kernel
theorem dX6_cell_34 : decode cX6_cell 34 = .ok (.ifCond .lt 19, 3) := by decide +kernel
theorem dX6_cell_37 : decode cX6_cell 37 = .ok (.aload_n 0, 1) := by decide +kernel
theorem dX6_cell_38 : decode cX6_cell 38 = .ok (.getfield 67, 3) := by decide +kernel
theorem dX6_cell_41 : decode cX6_cell 41 = .ok (.iload_n 1, 1) := by decide +kernel
theorem dX6_cell_42 : decode cX6_cell 42 = .ok (.iaload, 1) := by decide +kernel
theorem dX6_cell_43 : decode cX6_cell 43 = .ok (.iload_n 3, 1) := by decide +kernel
theorem dX6_cell_44 : decode cX6_cell 44 = .ok (.if_icmp .eq 9, 3) := by decide +kernel
theorem dX6_cell_47 : decode cX6_cell 47 = .ok (.aload_n 0, 1) := by decide +kernel
theorem dX6_cell_48 : decode cX6_cell 48 = .ok (.iconst 2, 1) := by decide +kernel
theorem dX6_cell_49 : decode cX6_cell 49 = .ok (.invokevirtual 240, 3) := by decide +kernel
theorem dX6_cell_52 : decode cX6_cell 52 = .ok (.lreturn, 1) := by decide +kernel
theorem dX6_cell_53 : decode cX6_cell 53 = .ok (.aload_n 0, 1) := by decide +kernel
theorem dX6_cell_54 : decode cX6_cell 54 = .ok (.iload_n 1, 1) := by decide +kernel
theorem dX6_cell_55 : decode cX6_cell 55 = .ok (.iload_n 2, 1) := by decide +kernel
theorem dX6_cell_56 : decode cX6_cell 56 = .ok (.invokevirtual 237, 3) := by decide +kernel
theorem dX6_cell_59 : decode cX6_cell 59 = .ok (.ifCond .le 16, 3) := by decide +kernel
theorem dX6_cell_62 : decode cX6_cell 62 = .ok (.aload_n 0, 1) := by decide +kernel
theorem dX6_cell_63 : decode cX6_cell 63 = .ok (.aload_n 0, 1) := by decide +kernel
theorem dX6_cell_64 : decode cX6_cell 64 = .ok (.iload_n 1, 1) := by decide +kernel
theorem dX6_cell_65 : decode cX6_cell 65 = .ok (.iload_n 2, 1) := by decide +kernel
theorem dX6_cell_66 : decode cX6_cell 66 = .ok (.invokevirtual 237, 3) := by decide +kernel
theorem dX6_cell_69 : decode cX6_cell 69 = .ok (.invokevirtual 240, 3) := by decide +kernel
theorem dX6_cell_72 : decode cX6_cell 72 = .ok (.goto 15, 3) := by decide +kernel
theorem dX6_cell_75 : decode cX6_cell 75 = .ok (.aload_n 0, 1) := by decide +kernel
theorem dX6_cell_76 : decode cX6_cell 76 = .ok (.getfield 70, 3) := by decide +kernel
theorem dX6_cell_79 : decode cX6_cell 79 = .ok (.bipush 60, 2) := by decide +kernel
theorem dX6_cell_81 : decode cX6_cell 81 = .ok (.iload_n 1, 1) := by decide +kernel
theorem dX6_cell_82 : decode cX6_cell 82 = .ok (.imul, 1) := by decide +kernel
theorem dX6_cell_83 : decode cX6_cell 83 = .ok (.iload_n 2, 1) := by decide +kernel
theorem dX6_cell_84 : decode cX6_cell 84 = .ok (.iadd, 1) := by decide +kernel
theorem dX6_cell_85 : decode cX6_cell 85 = .ok (.iaload, 1) := by decide +kernel
theorem dX6_cell_86 : decode cX6_cell 86 = .ok (.i2l, 1) := by decide +kernel
theorem dX6_cell_87 : decode cX6_cell 87 = .ok (.lreturn, 1) := by decide +kernel
theorem dX6_isBeyond_0 : decode cX6_isBeyond 0 = .ok (.iload_n 0, 1) := by decide +kernel
theorem dX6_isBeyond_1 : decode cX6_isBeyond 1 = .ok (.ifCond .lt 19, 3) := by decide +kernel
theorem dX6_isBeyond_4 : decode cX6_isBeyond 4 = .ok (.lload_n 1, 1) := by decide +kernel
theorem dX6_isBeyond_5 : decode cX6_isBeyond 5 = .ok (.lconst 0, 1) := by decide +kernel
theorem dX6_isBeyond_6 : decode cX6_isBeyond 6 = .ok (.lcmp, 1) := by decide +kernel
theorem dX6_isBeyond_7 : decode cX6_isBeyond 7 = .ok (.ifCond .lt 13, 3) := by decide +kernel
theorem dX6_isBeyond_10 : decode cX6_isBeyond 10 = .ok (.iload_n 0, 1) := by decide +kernel
theorem dX6_isBeyond_11 : decode cX6_isBeyond 11 = .ok (.i2l, 1) := by decide +kernel
theorem dX6_isBeyond_12 : decode cX6_isBeyond 12 = .ok (.lload_n 1, 1) := by decide +kernel
theorem dX6_isBeyond_13 : decode cX6_isBeyond 13 = .ok (.ladd, 1) := by decide +kernel
theorem dX6_isBeyond_14 : decode cX6_isBeyond 14 = .ok (.iload_n 3, 1) := by decide +kernel
theorem dX6_isBeyond_15 : decode cX6_isBeyond 15 = .ok (.i2l, 1) := by decide +kernel
theorem dX6_isBeyond_16 : decode cX6_isBeyond 16 = .ok (.lcmp, 1) := by decide +kernel
theorem dX6_isBeyond_17 : decode cX6_isBeyond 17 = .ok (.ifCond .le 7, 3) := by decide +kernel
theorem dX6_isBeyond_20 : decode cX6_isBeyond 20 = .ok (.iconst 1, 1) := by decide +kernel
theorem dX6_isBeyond_21 : decode cX6_isBeyond 21 = .ok (.goto 4, 3) := by decide +kernel
theorem dX6_isBeyond_24 : decode cX6_isBeyond 24 = .ok (.iconst 0, 1) := by decide +kernel
theorem dX6_isBeyond_25 : decode cX6_isBeyond 25 = .ok (.ireturn, 1) := by decide +kernel
theorem dX6_copy_0 : decode cX6_copy 0 = .ok (.iload_n 1, 1) := by decide +kernel
theorem dX6_copy_1 : decode cX6_copy 1 = .ok (.invokestatic 128, 3) := by decide +kernel
theorem dX6_copy_4 : decode cX6_copy 4 = .ok (.ifCond .ne 10, 3) := by decide +kernel
theorem dX6_copy_7 : decode cX6_copy 7 = .ok (.iload_n 3, 1) := by decide +kernel
theorem dX6_copy_8 : decode cX6_copy 8 = .ok (.invokestatic 128, 3) := by decide +kernel
theorem dX6_copy_11 : decode cX6_copy 11 = .ok (.ifCond .eq 9, 3) := by decide +kernel
theorem dX6_copy_14 : decode cX6_copy 14 = .ok (.aload_n 0, 1) := by decide +kernel
theorem dX6_copy_15 : decode cX6_copy 15 = .ok (.iconst (-1), 1) := by decide +kernel
theorem dX6_copy_16 : decode cX6_copy 16 = .ok (.invokevirtual 132, 3) := by decide +kernel
theorem dX6_copy_19 : decode cX6_copy 19 = .ok (.ireturn, 1) := by decide +kernel
theorem dX6_copy_20 : decode cX6_copy 20 = .ok (.aload_n 0, 1) := by decide +kernel
theorem dX6_copy_21 : decode cX6_copy 21 = .ok (.getfield 64, 3) := by decide +kernel
theorem dX6_copy_24 : decode cX6_copy 24 = .ok (.iload_n 1, 1) := by decide +kernel
theorem dX6_copy_25 : decode cX6_copy 25 = .ok (.iaload, 1) := by decide +kernel
theorem dX6_copy_26 : decode cX6_copy 26 = .ok (.ifCond .lt 12, 3) := by decide +kernel
theorem dX6_copy_29 : decode cX6_copy 29 = .ok (.aload_n 0, 1) := by decide +kernel
theorem dX6_copy_30 : decode cX6_copy 30 = .ok (.getfield 64, 3) := by decide +kernel
theorem dX6_copy_33 : decode cX6_copy 33 = .ok (.iload_n 3, 1) := by decide +kernel
theorem dX6_copy_34 : decode cX6_copy 34 = .ok (.iaload, 1) := by decide +kernel
theorem dX6_copy_35 : decode cX6_copy 35 = .ok (.ifCond .ge 9, 3) := by decide +kernel
theorem dX6_copy_38 : decode cX6_copy 38 = .ok (.aload_n 0, 1) := by decide +kernel
theorem dX6_copy_39 : decode cX6_copy 39 = .ok (.iconst 1, 1) := by decide +kernel
theorem dX6_copy_40 : decode cX6_copy 40 = .ok (.invokevirtual 120, 3) := by decide +kernel
theorem dX6_copy_43 : decode cX6_copy 43 = .ok (.ireturn, 1) := by decide +kernel
theorem dX6_copy_44 : decode cX6_copy 44 = .ok (.aload_n 0, 1) := by decide +kernel
theorem dX6_copy_45 : decode cX6_copy 45 = .ok (.getfield 67, 3) := by decide +kernel
theorem dX6_copy_48 : decode cX6_copy 48 = .ok (.iload_n 1, 1) := by decide +kernel
theorem dX6_copy_49 : decode cX6_copy 49 = .ok (.iaload, 1) := by decide +kernel
theorem dX6_copy_50 : decode cX6_copy 50 = .ok (.aload_n 0, 1) := by decide +kernel
theorem dX6_copy_51 : decode cX6_copy 51 = .ok (.getfield 67, 3) := by decide +kernel
theorem dX6_copy_54 : decode cX6_copy 54 = .ok (.iload_n 3, 1) := by decide +kernel
theorem dX6_copy_55 : decode cX6_copy 55 = .ok (.iaload, 1) := by decide +kernel
theorem dX6_copy_56 : decode cX6_copy 56 = .ok (.if_icmp .eq 9, 3) := by decide +kernel
theorem dX6_copy_59 : decode cX6_copy 59 = .ok (.aload_n 0, 1) := by decide +kernel
theorem dX6_copy_60 : decode cX6_copy 60 = .ok (.iconst 2, 1) := by decide +kernel
theorem dX6_copy_61 : decode cX6_copy 61 = .ok (.invokevirtual 120, 3) := by decide +kernel
theorem dX6_copy_64 : decode cX6_copy 64 = .ok (.ireturn, 1) := by decide +kernel
theorem dX6_copy_65 : decode cX6_copy 65 = .ok (.iload_n 2, 1) := by decide +kernel
theorem dX6_copy_66 : decode cX6_copy 66 = .ok (.iload 5, 2) := by decide +kernel
theorem dX6_copy_68 : decode cX6_copy 68 = .ok (.i2l, 1) := by decide +kernel
theorem dX6_copy_69 : decode cX6_copy 69 = .ok (.aload_n 0, 1) := by decide +kernel
theorem dX6_copy_70 : decode cX6_copy 70 = .ok (.getfield 64, 3) := by decide +kernel
theorem dX6_copy_73 : decode cX6_copy 73 = .ok (.iload_n 1, 1) := by decide +kernel
theorem dX6_copy_74 : decode cX6_copy 74 = .ok (.iaload, 1) := by decide +kernel
theorem dX6_copy_75 : decode cX6_copy 75 = .ok (.invokestatic 124, 3) := by decide +kernel
theorem dX6_copy_78 : decode cX6_copy 78 = .ok (.ifCond .ne 20, 3) := by decide +kernel
theorem dX6_copy_81 : decode cX6_copy 81 = .ok (.iload 4, 2) := by decide +kernel
theorem dX6_copy_83 : decode cX6_copy 83 = .ok (.iload 5, 2) := by decide +kernel
theorem dX6_copy_85 : decode cX6_copy 85 = .ok (.i2l, 1) := by decide +kernel
theorem dX6_copy_86 : decode cX6_copy 86 = .ok (.aload_n 0, 1) := by decide +kernel
theorem dX6_copy_87 : decode cX6_copy 87 = .ok (.getfield 64, 3) := by decide +kernel
theorem dX6_copy_90 : decode cX6_copy 90 = .ok (.iload_n 3, 1) := by decide +kernel
theorem dX6_copy_91 : decode cX6_copy 91 = .ok (.iaload, 1) := by decide +kernel
theorem dX6_copy_92 : decode cX6_copy 92 = .ok (.invokestatic 124, 3) := by decide +kernel
theorem dX6_copy_95 : decode cX6_copy 95 = .ok (.ifCond .eq 9, 3) := by decide +kernel
theorem dX6_copy_98 : decode cX6_copy 98 = .ok (.aload_n 0, 1) := by decide +kernel
theorem dX6_copy_99 : decode cX6_copy 99 = .ok (.iconst 3, 1) := by decide +kernel
theorem dX6_copy_100 : decode cX6_copy 100 = .ok (.invokevirtual 120, 3) := by decide +kernel
theorem dX6_copy_103 : decode cX6_copy 103 = .ok (.ireturn, 1) := by decide +kernel
theorem dX6_copy_104 : decode cX6_copy 104 = .ok (.iconst 0, 1) := by decide +kernel
theorem dX6_copy_105 : decode cX6_copy 105 = .ok (.istore 6, 2) := by decide +kernel
theorem dX6_copy_107 : decode cX6_copy 107 = .ok (.iload 6, 2) := by decide +kernel
theorem dX6_copy_109 : decode cX6_copy 109 = .ok (.iload 5, 2) := by decide +kernel
theorem dX6_copy_111 : decode cX6_copy 111 = .ok (.if_icmp .ge 30, 3) := by decide +kernel
theorem dX6_copy_114 : decode cX6_copy 114 = .ok (.aload_n 0, 1) := by decide +kernel
theorem dX6_copy_115 : decode cX6_copy 115 = .ok (.getfield 73, 3) := by decide +kernel
theorem dX6_copy_118 : decode cX6_copy 118 = .ok (.iload 6, 2) := by decide +kernel
theorem dX6_copy_120 : decode cX6_copy 120 = .ok (.aload_n 0, 1) := by decide +kernel
theorem dX6_copy_121 : decode cX6_copy 121 = .ok (.getfield 70, 3) := by decide +kernel
theorem dX6_copy_124 : decode cX6_copy 124 = .ok (.bipush 60, 2) := by decide +kernel
theorem dX6_copy_126 : decode cX6_copy 126 = .ok (.iload_n 1, 1) := by decide +kernel
theorem dX6_copy_127 : decode cX6_copy 127 = .ok (.imul, 1) := by decide +kernel
theorem dX6_copy_128 : decode cX6_copy 128 = .ok (.iload_n 2, 1) := by decide +kernel
theorem dX6_copy_129 : decode cX6_copy 129 = .ok (.iadd, 1) := by decide +kernel
theorem dX6_copy_130 : decode cX6_copy 130 = .ok (.iload 6, 2) := by decide +kernel
theorem dX6_copy_132 : decode cX6_copy 132 = .ok (.iadd, 1) := by decide +kernel
theorem dX6_copy_133 : decode cX6_copy 133 = .ok (.iaload, 1) := by decide +kernel
theorem dX6_copy_134 : decode cX6_copy 134 = .ok (.iastore, 1) := by decide +kernel
theorem dX6_copy_135 : decode cX6_copy 135 = .ok (.iinc 6 1, 3) := by decide +kernel
theorem dX6_copy_138 : decode cX6_copy 138 = .ok (.goto (-31), 3) := by decide +kernel
theorem dX6_copy_141 : decode cX6_copy 141 = .ok (.iconst 0, 1) := by decide +kernel
theorem dX6_copy_142 : decode cX6_copy 142 = .ok (.istore 6, 2) := by decide +kernel
theorem dX6_copy_144 : decode cX6_copy 144 = .ok (.iload 6, 2) := by decide +kernel
theorem dX6_copy_146 : decode cX6_copy 146 = .ok (.iload 5, 2) := by decide +kernel
theorem dX6_copy_148 : decode cX6_copy 148 = .ok (.if_icmp .ge 31, 3) := by decide +kernel
theorem dX6_copy_151 : decode cX6_copy 151 = .ok (.aload_n 0, 1) := by decide +kernel
theorem dX6_copy_152 : decode cX6_copy 152 = .ok (.getfield 70, 3) := by decide +kernel
theorem dX6_copy_155 : decode cX6_copy 155 = .ok (.bipush 60, 2) := by decide +kernel
theorem dX6_copy_157 : decode cX6_copy 157 = .ok (.iload_n 3, 1) := by decide +kernel
theorem dX6_copy_158 : decode cX6_copy 158 = .ok (.imul, 1) := by decide +kernel
theorem dX6_copy_159 : decode cX6_copy 159 = .ok (.iload 4, 2) := by decide +kernel
theorem dX6_copy_161 : decode cX6_copy 161 = .ok (.iadd, 1) := by decide +kernel
theorem dX6_copy_162 : decode cX6_copy 162 = .ok (.iload 6, 2) := by decide +kernel
theorem dX6_copy_164 : decode cX6_copy 164 = .ok (.iadd, 1) := by decide +kernel
theorem dX6_copy_165 : decode cX6_copy 165 = .ok (.aload_n 0, 1) := by decide +kernel
theorem dX6_copy_166 : decode cX6_copy 166 = .ok (.getfield 73, 3) := by decide +kernel
theorem dX6_copy_169 : decode cX6_copy 169 = .ok (.iload 6, 2) := by decide +kernel
theorem dX6_copy_171 : decode cX6_copy 171 = .ok (.iaload, 1) := by decide +kernel
theorem dX6_copy_172 : decode cX6_copy 172 = .ok (.iastore, 1) := by decide +kernel
theorem dX6_copy_173 : decode cX6_copy 173 = .ok (.iinc 6 1, 3) := by decide +kernel
theorem dX6_copy_176 : decode cX6_copy 176 = .ok (.goto (-32), 3) := by decide +kernel
theorem dX6_copy_179 : decode cX6_copy 179 = .ok (.aload_n 0, 1) := by decide +kernel
theorem dX6_copy_180 : decode cX6_copy 180 = .ok (.iload 5, 2) := by decide +kernel
theorem dX6_copy_182 : decode cX6_copy 182 = .ok (.invokevirtual 132, 3) := by decide +kernel
theorem dX6_copy_185 : decode cX6_copy 185 = .ok (.ireturn, 1) := by decide +kernel
theorem dX6_traced_0 : decode cX6_traced 0 = .ok (.aload_n 0, 1) := by decide +kernel
theorem dX6_traced_1 : decode cX6_traced 1 = .ok (.bipush 31, 2) := by decide +kernel
theorem dX6_traced_3 : decode cX6_traced 3 = .ok (.aload_n 0, 1) := by decide +kernel
theorem dX6_traced_4 : decode cX6_traced 4 = .ok (.getfield 244, 3) := by decide +kernel
theorem dX6_traced_7 : decode cX6_traced 7 = .ok (.imul, 1) := by decide +kernel
theorem dX6_traced_8 : decode cX6_traced 8 = .ok (.iload_n 1, 1) := by decide +kernel
theorem dX6_traced_9 : decode cX6_traced 9 = .ok (.iadd, 1) := by decide +kernel
theorem dX6_traced_10 : decode cX6_traced 10 = .ok (.putfield 244, 3) := by decide +kernel
theorem dX6_traced_13 : decode cX6_traced 13 = .ok (.return_, 1) := by decide +kernel
theorem dX6_tell_0 : decode cX6_tell 0 = .ok (.aload_n 0, 1) := by decide +kernel
theorem dX6_tell_1 : decode cX6_tell 1 = .ok (.iload_n 1, 1) := by decide +kernel
theorem dX6_tell_2 : decode cX6_tell 2 = .ok (.invokevirtual 153, 3) := by decide +kernel
theorem dX6_tell_5 : decode cX6_tell 5 = .ok (.ifCond .eq 5, 3) := by decide +kernel
theorem dX6_tell_8 : decode cX6_tell 8 = .ok (.iconst (-1), 1) := by decide +kernel
theorem dX6_tell_9 : decode cX6_tell 9 = .ok (.ireturn, 1) := by decide +kernel
theorem dX6_tell_10 : decode cX6_tell 10 = .ok (.aload_n 0, 1) := by decide +kernel
theorem dX6_tell_11 : decode cX6_tell 11 = .ok (.getfield 7, 3) := by decide +kernel
theorem dX6_tell_14 : decode cX6_tell 14 = .ok (.iload_n 1, 1) := by decide +kernel
theorem dX6_tell_15 : decode cX6_tell 15 = .ok (.iaload, 1) := by decide +kernel
theorem dX6_tell_16 : decode cX6_tell 16 = .ok (.istore_n 2, 1) := by decide +kernel
theorem dX6_tell_17 : decode cX6_tell 17 = .ok (.iload_n 2, 1) := by decide +kernel
theorem dX6_tell_18 : decode cX6_tell 18 = .ok (.iconst 2, 1) := by decide +kernel
theorem dX6_tell_19 : decode cX6_tell 19 = .ok (.if_icmp .ne 8, 3) := by decide +kernel
theorem dX6_tell_22 : decode cX6_tell 22 = .ok (.aload_n 0, 1) := by decide +kernel
theorem dX6_tell_23 : decode cX6_tell 23 = .ok (.iconst 3, 1) := by decide +kernel
theorem dX6_tell_24 : decode cX6_tell 24 = .ok (.invokevirtual 247, 3) := by decide +kernel
theorem dX6_tell_27 : decode cX6_tell 27 = .ok (.iload_n 2, 1) := by decide +kernel
theorem dX6_tell_28 : decode cX6_tell 28 = .ok (.ifCond .le 8, 3) := by decide +kernel
theorem dX6_tell_31 : decode cX6_tell 31 = .ok (.aload_n 0, 1) := by decide +kernel
theorem dX6_tell_32 : decode cX6_tell 32 = .ok (.iconst 2, 1) := by decide +kernel
theorem dX6_tell_33 : decode cX6_tell 33 = .ok (.invokevirtual 247, 3) := by decide +kernel
theorem dX6_tell_36 : decode cX6_tell 36 = .ok (.aload_n 0, 1) := by decide +kernel
theorem dX6_tell_37 : decode cX6_tell 37 = .ok (.iconst 1, 1) := by decide +kernel
theorem dX6_tell_38 : decode cX6_tell 38 = .ok (.invokevirtual 247, 3) := by decide +kernel
theorem dX6_tell_41 : decode cX6_tell 41 = .ok (.iload_n 2, 1) := by decide +kernel
theorem dX6_tell_42 : decode cX6_tell 42 = .ok (.iconst 2, 1) := by decide +kernel
theorem dX6_tell_43 : decode cX6_tell 43 = .ok (.if_icmp .ne 8, 3) := by decide +kernel
theorem dX6_tell_46 : decode cX6_tell 46 = .ok (.aload_n 0, 1) := by decide +kernel
theorem dX6_tell_47 : decode cX6_tell 47 = .ok (.iconst 1, 1) := by decide +kernel
theorem dX6_tell_48 : decode cX6_tell 48 = .ok (.invokevirtual 247, 3) := by decide +kernel
theorem dX6_tell_51 : decode cX6_tell 51 = .ok (.aload_n 0, 1) := by decide +kernel
theorem dX6_tell_52 : decode cX6_tell 52 = .ok (.getfield 16, 3) := by decide +kernel
theorem dX6_tell_55 : decode cX6_tell 55 = .ok (.iload_n 1, 1) := by decide +kernel
theorem dX6_tell_56 : decode cX6_tell 56 = .ok (.iaload, 1) := by decide +kernel
theorem dX6_tell_57 : decode cX6_tell 57 = .ok (.istore_n 3, 1) := by decide +kernel
theorem dX6_tell_58 : decode cX6_tell 58 = .ok (.iload_n 2, 1) := by decide +kernel
theorem dX6_tell_59 : decode cX6_tell 59 = .ok (.ifCond .ne 7, 3) := by decide +kernel
theorem dX6_tell_62 : decode cX6_tell 62 = .ok (.iload_n 3, 1) := by decide +kernel
theorem dX6_tell_63 : decode cX6_tell 63 = .ok (.goto 21, 3) := by decide +kernel
theorem dX6_tell_66 : decode cX6_tell 66 = .ok (.iload_n 2, 1) := by decide +kernel
theorem dX6_tell_67 : decode cX6_tell 67 = .ok (.iconst 1, 1) := by decide +kernel
theorem dX6_tell_68 : decode cX6_tell 68 = .ok (.if_icmp .ne 10, 3) := by decide +kernel
theorem dX6_tell_71 : decode cX6_tell 71 = .ok (.iload_n 3, 1) := by decide +kernel
theorem dX6_tell_72 : decode cX6_tell 72 = .ok (.bipush 100, 2) := by decide +kernel
theorem dX6_tell_74 : decode cX6_tell 74 = .ok (.iadd, 1) := by decide +kernel
theorem dX6_tell_75 : decode cX6_tell 75 = .ok (.goto 9, 3) := by decide +kernel
theorem dX6_tell_78 : decode cX6_tell 78 = .ok (.iconst 2, 1) := by decide +kernel
theorem dX6_tell_79 : decode cX6_tell 79 = .ok (.iload_n 3, 1) := by decide +kernel
theorem dX6_tell_80 : decode cX6_tell 80 = .ok (.imul, 1) := by decide +kernel
theorem dX6_tell_81 : decode cX6_tell 81 = .ok (.bipush 100, 2) := by decide +kernel
theorem dX6_tell_83 : decode cX6_tell 83 = .ok (.iadd, 1) := by decide +kernel
theorem dX6_tell_84 : decode cX6_tell 84 = .ok (.ireturn, 1) := by decide +kernel
theorem dX6_drop_0 : decode cX6_drop 0 = .ok (.aload_n 0, 1) := by decide +kernel
theorem dX6_drop_1 : decode cX6_drop 1 = .ok (.iload_n 1, 1) := by decide +kernel
theorem dX6_drop_2 : decode cX6_drop 2 = .ok (.invokevirtual 153, 3) := by decide +kernel
theorem dX6_drop_5 : decode cX6_drop 5 = .ok (.ifCond .eq 5, 3) := by decide +kernel
theorem dX6_drop_8 : decode cX6_drop 8 = .ok (.iconst (-1), 1) := by decide +kernel
theorem dX6_drop_9 : decode cX6_drop 9 = .ok (.ireturn, 1) := by decide +kernel
theorem dX6_drop_10 : decode cX6_drop 10 = .ok (.aload_n 0, 1) := by decide +kernel
theorem dX6_drop_11 : decode cX6_drop 11 = .ok (.aload_n 0, 1) := by decide +kernel
theorem dX6_drop_12 : decode cX6_drop 12 = .ok (.getfield 7, 3) := by decide +kernel
theorem dX6_drop_15 : decode cX6_drop 15 = .ok (.iload_n 1, 1) := by decide +kernel
theorem dX6_drop_16 : decode cX6_drop 16 = .ok (.iaload, 1) := by decide +kernel
theorem dX6_drop_17 : decode cX6_drop 17 = .ok (.iconst 2, 1) := by decide +kernel
theorem dX6_drop_18 : decode cX6_drop 18 = .ok (.if_icmp .ne 7, 3) := by decide +kernel
theorem dX6_drop_21 : decode cX6_drop 21 = .ok (.iconst 5, 1) := by decide +kernel
theorem dX6_drop_22 : decode cX6_drop 22 = .ok (.goto 4, 3) := by decide +kernel
theorem dX6_drop_25 : decode cX6_drop 25 = .ok (.iconst 4, 1) := by decide +kernel
theorem dX6_drop_26 : decode cX6_drop 26 = .ok (.invokevirtual 247, 3) := by decide +kernel
theorem dX6_drop_29 : decode cX6_drop 29 = .ok (.aload_n 0, 1) := by decide +kernel
theorem dX6_drop_30 : decode cX6_drop 30 = .ok (.getfield 7, 3) := by decide +kernel
theorem dX6_drop_33 : decode cX6_drop 33 = .ok (.iload_n 1, 1) := by decide +kernel
theorem dX6_drop_34 : decode cX6_drop 34 = .ok (.iaload, 1) := by decide +kernel
theorem dX6_drop_35 : decode cX6_drop 35 = .ok (.iconst 2, 1) := by decide +kernel
theorem dX6_drop_36 : decode cX6_drop 36 = .ok (.if_icmp .ne 8, 3) := by decide +kernel
theorem dX6_drop_39 : decode cX6_drop 39 = .ok (.bipush 70, 2) := by decide +kernel
theorem dX6_drop_41 : decode cX6_drop 41 = .ok (.goto 4, 3) := by decide +kernel
theorem dX6_drop_44 : decode cX6_drop 44 = .ok (.iload_n 1, 1) := by decide +kernel
theorem dX6_drop_45 : decode cX6_drop 45 = .ok (.ireturn, 1) := by decide +kernel
theorem dX6_as_0 : decode cX6_as 0 = .ok (.aload_n 0, 1) := by decide +kernel
theorem dX6_as_1 : decode cX6_as 1 = .ok (.iload_n 1, 1) := by decide +kernel
theorem dX6_as_2 : decode cX6_as 2 = .ok (.invokevirtual 153, 3) := by decide +kernel
theorem dX6_as_5 : decode cX6_as 5 = .ok (.ifCond .eq 9, 3) := by decide +kernel
theorem dX6_as_8 : decode cX6_as 8 = .ok (.aload_n 0, 1) := by decide +kernel
theorem dX6_as_9 : decode cX6_as 9 = .ok (.iconst (-1), 1) := by decide +kernel
theorem dX6_as_10 : decode cX6_as 10 = .ok (.invokevirtual 132, 3) := by decide +kernel
theorem dX6_as_13 : decode cX6_as 13 = .ok (.ireturn, 1) := by decide +kernel
theorem dX6_as_14 : decode cX6_as 14 = .ok (.iload_n 2, 1) := by decide +kernel
theorem dX6_as_15 : decode cX6_as 15 = .ok (.i2l, 1) := by decide +kernel
theorem dX6_as_16 : decode cX6_as 16 = .ok (.lconst 0, 1) := by decide +kernel
theorem dX6_as_17 : decode cX6_as 17 = .ok (.ldc2_w 135, 3) := by decide +kernel
theorem dX6_as_20 : decode cX6_as 20 = .ok (.invokestatic 89, 3) := by decide +kernel
theorem dX6_as_23 : decode cX6_as 23 = .ok (.ifCond .ne 10, 3) := by decide +kernel
theorem dX6_as_26 : decode cX6_as 26 = .ok (.aload_n 0, 1) := by decide +kernel
theorem dX6_as_27 : decode cX6_as 27 = .ok (.bipush (-2), 2) := by decide +kernel
theorem dX6_as_29 : decode cX6_as 29 = .ok (.invokevirtual 132, 3) := by decide +kernel
theorem dX6_as_32 : decode cX6_as 32 = .ok (.ireturn, 1) := by decide +kernel
theorem dX6_as_33 : decode cX6_as 33 = .ok (.aload_n 0, 1) := by decide +kernel
theorem dX6_as_34 : decode cX6_as 34 = .ok (.getfield 7, 3) := by decide +kernel
theorem dX6_as_37 : decode cX6_as 37 = .ok (.iload_n 1, 1) := by decide +kernel
theorem dX6_as_38 : decode cX6_as 38 = .ok (.iaload, 1) := by decide +kernel
theorem dX6_as_39 : decode cX6_as 39 = .ok (.iload_n 2, 1) := by decide +kernel
theorem dX6_as_40 : decode cX6_as 40 = .ok (.if_icmp .lt 11, 3) := by decide +kernel
theorem dX6_as_43 : decode cX6_as 43 = .ok (.aload_n 0, 1) := by decide +kernel
theorem dX6_as_44 : decode cX6_as 44 = .ok (.iconst 1, 1) := by decide +kernel
theorem dX6_as_45 : decode cX6_as 45 = .ok (.invokevirtual 132, 3) := by decide +kernel
theorem dX6_as_48 : decode cX6_as 48 = .ok (.goto 8, 3) := by decide +kernel
theorem dX6_as_51 : decode cX6_as 51 = .ok (.aload_n 0, 1) := by decide +kernel
theorem dX6_as_52 : decode cX6_as 52 = .ok (.iconst 2, 1) := by decide +kernel
theorem dX6_as_53 : decode cX6_as 53 = .ok (.invokevirtual 120, 3) := by decide +kernel
theorem dX6_as_56 : decode cX6_as 56 = .ok (.ireturn, 1) := by decide +kernel
theorem dX6_trace_0 : decode cX6_trace 0 = .ok (.aload_n 0, 1) := by decide +kernel
theorem dX6_trace_1 : decode cX6_trace 1 = .ok (.getfield 244, 3) := by decide +kernel
theorem dX6_trace_4 : decode cX6_trace 4 = .ok (.ireturn, 1) := by decide +kernel
theorem dX6_fault_0 : decode cX6_fault 0 = .ok (.aload_n 0, 1) := by decide +kernel
theorem dX6_fault_1 : decode cX6_fault 1 = .ok (.getfield 78, 3) := by decide +kernel
theorem dX6_fault_4 : decode cX6_fault 4 = .ok (.ireturn, 1) := by decide +kernel
theorem dX6_lettersNow_0 : decode cX6_lettersNow 0 = .ok (.iconst 0, 1) := by decide +kernel
theorem dX6_lettersNow_1 : decode cX6_lettersNow 1 = .ok (.istore_n 1, 1) := by decide +kernel
theorem dX6_lettersNow_2 : decode cX6_lettersNow 2 = .ok (.iconst 0, 1) := by decide +kernel
theorem dX6_lettersNow_3 : decode cX6_lettersNow 3 = .ok (.istore_n 2, 1) := by decide +kernel
theorem dX6_lettersNow_4 : decode cX6_lettersNow 4 = .ok (.iload_n 2, 1) := by decide +kernel
theorem dX6_lettersNow_5 : decode cX6_lettersNow 5 = .ok (.aload_n 0, 1) := by decide +kernel
theorem dX6_lettersNow_6 : decode cX6_lettersNow 6 = .ok (.getfield 86, 3) := by decide +kernel
theorem dX6_lettersNow_9 : decode cX6_lettersNow 9 = .ok (.if_icmp .ge 18, 3) := by decide +kernel
theorem dX6_lettersNow_12 : decode cX6_lettersNow 12 = .ok (.iload_n 1, 1) := by decide +kernel
theorem dX6_lettersNow_13 : decode cX6_lettersNow 13 = .ok (.aload_n 0, 1) := by decide +kernel
theorem dX6_lettersNow_14 : decode cX6_lettersNow 14 = .ok (.getfield 13, 3) := by decide +kernel
theorem dX6_lettersNow_17 : decode cX6_lettersNow 17 = .ok (.iload_n 2, 1) := by decide +kernel
theorem dX6_lettersNow_18 : decode cX6_lettersNow 18 = .ok (.iaload, 1) := by decide +kernel
theorem dX6_lettersNow_19 : decode cX6_lettersNow 19 = .ok (.iadd, 1) := by decide +kernel
theorem dX6_lettersNow_20 : decode cX6_lettersNow 20 = .ok (.istore_n 1, 1) := by decide +kernel
theorem dX6_lettersNow_21 : decode cX6_lettersNow 21 = .ok (.iinc 2 1, 3) := by decide +kernel
theorem dX6_lettersNow_24 : decode cX6_lettersNow 24 = .ok (.goto (-20), 3) := by decide +kernel
theorem dX6_lettersNow_27 : decode cX6_lettersNow 27 = .ok (.iload_n 1, 1) := by decide +kernel
theorem dX6_lettersNow_28 : decode cX6_lettersNow 28 = .ok (.ireturn, 1) := by decide +kernel
theorem dX6_many_0 : decode cX6_many 0 = .ok (.iload_n 1, 1) := by decide +kernel
theorem dX6_many_1 : decode cX6_many 1 = .ok (.tableswitch 51 0 3 #[31, 36, 41, 46], 31) := by decide +kernel
theorem dX6_many_32 : decode cX6_many 32 = .ok (.aload_n 0, 1) := by decide +kernel
theorem dX6_many_33 : decode cX6_many 33 = .ok (.getfield 86, 3) := by decide +kernel
theorem dX6_many_36 : decode cX6_many 36 = .ok (.ireturn, 1) := by decide +kernel
theorem dX6_many_37 : decode cX6_many 37 = .ok (.aload_n 0, 1) := by decide +kernel
theorem dX6_many_38 : decode cX6_many 38 = .ok (.getfield 93, 3) := by decide +kernel
theorem dX6_many_41 : decode cX6_many 41 = .ok (.ireturn, 1) := by decide +kernel
theorem dX6_many_42 : decode cX6_many 42 = .ok (.aload_n 0, 1) := by decide +kernel
theorem dX6_many_43 : decode cX6_many 43 = .ok (.invokevirtual 250, 3) := by decide +kernel
theorem dX6_many_46 : decode cX6_many 46 = .ok (.ireturn, 1) := by decide +kernel
theorem dX6_many_47 : decode cX6_many 47 = .ok (.aload_n 0, 1) := by decide +kernel
theorem dX6_many_48 : decode cX6_many 48 = .ok (.getfield 144, 3) := by decide +kernel
theorem dX6_many_51 : decode cX6_many 51 = .ok (.ireturn, 1) := by decide +kernel
theorem dX6_many_52 : decode cX6_many 52 = .ok (.bipush (-2), 2) := by decide +kernel
theorem dX6_many_54 : decode cX6_many 54 = .ok (.ireturn, 1) := by decide +kernel
theorem dJ6_bitCount_0f7a4_0 : decode cJ6_bitCount_0f7a4 0 = .ok (.iload_n 0, 1) := by decide +kernel
theorem dJ6_bitCount_0f7a4_1 : decode cJ6_bitCount_0f7a4 1 = .ok (.iload_n 0, 1) := by decide +kernel
theorem dJ6_bitCount_0f7a4_2 : decode cJ6_bitCount_0f7a4 2 = .ok (.iconst 1, 1) := by decide +kernel
theorem dJ6_bitCount_0f7a4_3 : decode cJ6_bitCount_0f7a4 3 = .ok (.iushr, 1) := by decide +kernel
theorem dJ6_bitCount_0f7a4_4 : decode cJ6_bitCount_0f7a4 4 = .ok (.ldc_w 265, 3) := by decide +kernel
theorem dJ6_bitCount_0f7a4_7 : decode cJ6_bitCount_0f7a4 7 = .ok (.iand, 1) := by decide +kernel
theorem dJ6_bitCount_0f7a4_8 : decode cJ6_bitCount_0f7a4 8 = .ok (.isub, 1) := by decide +kernel
theorem dJ6_bitCount_0f7a4_9 : decode cJ6_bitCount_0f7a4 9 = .ok (.istore_n 0, 1) := by decide +kernel
theorem dJ6_bitCount_0f7a4_10 : decode cJ6_bitCount_0f7a4 10 = .ok (.iload_n 0, 1) := by decide +kernel
theorem dJ6_bitCount_0f7a4_11 : decode cJ6_bitCount_0f7a4 11 = .ok (.ldc_w 266, 3) := by decide +kernel
theorem dJ6_bitCount_0f7a4_14 : decode cJ6_bitCount_0f7a4 14 = .ok (.iand, 1) := by decide +kernel
theorem dJ6_bitCount_0f7a4_15 : decode cJ6_bitCount_0f7a4 15 = .ok (.iload_n 0, 1) := by decide +kernel
theorem dJ6_bitCount_0f7a4_16 : decode cJ6_bitCount_0f7a4 16 = .ok (.iconst 2, 1) := by decide +kernel
theorem dJ6_bitCount_0f7a4_17 : decode cJ6_bitCount_0f7a4 17 = .ok (.iushr, 1) := by decide +kernel
theorem dJ6_bitCount_0f7a4_18 : decode cJ6_bitCount_0f7a4 18 = .ok (.ldc_w 266, 3) := by decide +kernel
theorem dJ6_bitCount_0f7a4_21 : decode cJ6_bitCount_0f7a4 21 = .ok (.iand, 1) := by decide +kernel
theorem dJ6_bitCount_0f7a4_22 : decode cJ6_bitCount_0f7a4 22 = .ok (.iadd, 1) := by decide +kernel
theorem dJ6_bitCount_0f7a4_23 : decode cJ6_bitCount_0f7a4 23 = .ok (.istore_n 0, 1) := by decide +kernel
theorem dJ6_bitCount_0f7a4_24 : decode cJ6_bitCount_0f7a4 24 = .ok (.iload_n 0, 1) := by decide +kernel
theorem dJ6_bitCount_0f7a4_25 : decode cJ6_bitCount_0f7a4 25 = .ok (.iload_n 0, 1) := by decide +kernel
theorem dJ6_bitCount_0f7a4_26 : decode cJ6_bitCount_0f7a4 26 = .ok (.iconst 4, 1) := by decide +kernel
theorem dJ6_bitCount_0f7a4_27 : decode cJ6_bitCount_0f7a4 27 = .ok (.iushr, 1) := by decide +kernel
theorem dJ6_bitCount_0f7a4_28 : decode cJ6_bitCount_0f7a4 28 = .ok (.iadd, 1) := by decide +kernel
theorem dJ6_bitCount_0f7a4_29 : decode cJ6_bitCount_0f7a4 29 = .ok (.ldc_w 267, 3) := by decide +kernel
theorem dJ6_bitCount_0f7a4_32 : decode cJ6_bitCount_0f7a4 32 = .ok (.iand, 1) := by decide +kernel
theorem dJ6_bitCount_0f7a4_33 : decode cJ6_bitCount_0f7a4 33 = .ok (.istore_n 0, 1) := by decide +kernel
theorem dJ6_bitCount_0f7a4_34 : decode cJ6_bitCount_0f7a4 34 = .ok (.iload_n 0, 1) := by decide +kernel
theorem dJ6_bitCount_0f7a4_35 : decode cJ6_bitCount_0f7a4 35 = .ok (.iload_n 0, 1) := by decide +kernel
theorem dJ6_bitCount_0f7a4_36 : decode cJ6_bitCount_0f7a4 36 = .ok (.bipush 8, 2) := by decide +kernel
theorem dJ6_bitCount_0f7a4_38 : decode cJ6_bitCount_0f7a4 38 = .ok (.iushr, 1) := by decide +kernel
theorem dJ6_bitCount_0f7a4_39 : decode cJ6_bitCount_0f7a4 39 = .ok (.iadd, 1) := by decide +kernel
theorem dJ6_bitCount_0f7a4_40 : decode cJ6_bitCount_0f7a4 40 = .ok (.istore_n 0, 1) := by decide +kernel
theorem dJ6_bitCount_0f7a4_41 : decode cJ6_bitCount_0f7a4 41 = .ok (.iload_n 0, 1) := by decide +kernel
theorem dJ6_bitCount_0f7a4_42 : decode cJ6_bitCount_0f7a4 42 = .ok (.iload_n 0, 1) := by decide +kernel
theorem dJ6_bitCount_0f7a4_43 : decode cJ6_bitCount_0f7a4 43 = .ok (.bipush 16, 2) := by decide +kernel
theorem dJ6_bitCount_0f7a4_45 : decode cJ6_bitCount_0f7a4 45 = .ok (.iushr, 1) := by decide +kernel
theorem dJ6_bitCount_0f7a4_46 : decode cJ6_bitCount_0f7a4 46 = .ok (.iadd, 1) := by decide +kernel
theorem dJ6_bitCount_0f7a4_47 : decode cJ6_bitCount_0f7a4 47 = .ok (.istore_n 0, 1) := by decide +kernel
theorem dJ6_bitCount_0f7a4_48 : decode cJ6_bitCount_0f7a4 48 = .ok (.iload_n 0, 1) := by decide +kernel
theorem dJ6_bitCount_0f7a4_49 : decode cJ6_bitCount_0f7a4 49 = .ok (.bipush 63, 2) := by decide +kernel
theorem dJ6_bitCount_0f7a4_51 : decode cJ6_bitCount_0f7a4 51 = .ok (.iand, 1) := by decide +kernel
theorem dJ6_bitCount_0f7a4_52 : decode cJ6_bitCount_0f7a4 52 = .ok (.ireturn, 1) := by decide +kernel
theorem dJ9_max_7cf53_0 : decode cJ9_max_7cf53 0 = .ok (.iload_n 0, 1) := by decide +kernel
theorem dJ9_max_7cf53_1 : decode cJ9_max_7cf53 1 = .ok (.iload_n 1, 1) := by decide +kernel
theorem dJ9_max_7cf53_2 : decode cJ9_max_7cf53 2 = .ok (.if_icmp .lt 7, 3) := by decide +kernel
theorem dJ9_max_7cf53_5 : decode cJ9_max_7cf53 5 = .ok (.iload_n 0, 1) := by decide +kernel
theorem dJ9_max_7cf53_6 : decode cJ9_max_7cf53 6 = .ok (.goto 4, 3) := by decide +kernel
theorem dJ9_max_7cf53_9 : decode cJ9_max_7cf53 9 = .ok (.iload_n 1, 1) := by decide +kernel
theorem dJ9_max_7cf53_10 : decode cJ9_max_7cf53 10 = .ok (.ireturn, 1) := by decide +kernel
theorem dJ9_min_7cf53_0 : decode cJ9_min_7cf53 0 = .ok (.iload_n 0, 1) := by decide +kernel
theorem dJ9_min_7cf53_1 : decode cJ9_min_7cf53 1 = .ok (.iload_n 1, 1) := by decide +kernel
theorem dJ9_min_7cf53_2 : decode cJ9_min_7cf53 2 = .ok (.if_icmp .gt 7, 3) := by decide +kernel
theorem dJ9_min_7cf53_5 : decode cJ9_min_7cf53 5 = .ok (.iload_n 0, 1) := by decide +kernel
theorem dJ9_min_7cf53_6 : decode cJ9_min_7cf53 6 = .ok (.goto 4, 3) := by decide +kernel
theorem dJ9_min_7cf53_9 : decode cJ9_min_7cf53 9 = .ok (.iload_n 1, 1) := by decide +kernel
theorem dJ9_min_7cf53_10 : decode cJ9_min_7cf53 10 = .ok (.ireturn, 1) := by decide +kernel
