theorem dX0_init_0 : decode cX0_init 0 = .ok (.aload_n 0, 1) := by decide +kernel
theorem dX0_init_1 : decode cX0_init 1 = .ok (.invokespecial 3, 3) := by decide +kernel
theorem dX0_init_4 : decode cX0_init 4 = .ok (.aload_n 0, 1) := by decide +kernel
theorem dX0_init_5 : decode cX0_init 5 = .ok (.bipush 6, 2) := by decide +kernel
theorem dX0_init_7 : decode cX0_init 7 = .ok (.newarray .int, 2) := by decide +kernel
theorem dX0_init_9 : decode cX0_init 9 = .ok (.putfield 9, 3) := by decide +kernel
theorem dX0_init_12 : decode cX0_init 12 = .ok (.aload_n 0, 1) := by decide +kernel
theorem dX0_init_13 : decode cX0_init 13 = .ok (.bipush 6, 2) := by decide +kernel
theorem dX0_init_15 : decode cX0_init 15 = .ok (.newarray .int, 2) := by decide +kernel
theorem dX0_init_17 : decode cX0_init 17 = .ok (.putfield 15, 3) := by decide +kernel
theorem dX0_init_20 : decode cX0_init 20 = .ok (.aload_n 0, 1) := by decide +kernel
theorem dX0_init_21 : decode cX0_init 21 = .ok (.bipush 6, 2) := by decide +kernel
theorem dX0_init_23 : decode cX0_init 23 = .ok (.newarray .int, 2) := by decide +kernel
theorem dX0_init_25 : decode cX0_init 25 = .ok (.putfield 18, 3) := by decide +kernel
theorem dX0_init_28 : decode cX0_init 28 = .ok (.aload_n 0, 1) := by decide +kernel
theorem dX0_init_29 : decode cX0_init 29 = .ok (.bipush 6, 2) := by decide +kernel
theorem dX0_init_31 : decode cX0_init 31 = .ok (.newarray .int, 2) := by decide +kernel
theorem dX0_init_33 : decode cX0_init 33 = .ok (.putfield 21, 3) := by decide +kernel
theorem dX0_init_36 : decode cX0_init 36 = .ok (.aload_n 0, 1) := by decide +kernel
theorem dX0_init_37 : decode cX0_init 37 = .ok (.iconst 5, 1) := by decide +kernel
theorem dX0_init_38 : decode cX0_init 38 = .ok (.newarray .int, 2) := by decide +kernel
theorem dX0_init_40 : decode cX0_init 40 = .ok (.putfield 24, 3) := by decide +kernel
theorem dX0_init_43 : decode cX0_init 43 = .ok (.aload_n 0, 1) := by decide +kernel
theorem dX0_init_44 : decode cX0_init 44 = .ok (.bipush 8, 2) := by decide +kernel
theorem dX0_init_46 : decode cX0_init 46 = .ok (.newarray .int, 2) := by decide +kernel
theorem dX0_init_48 : decode cX0_init 48 = .ok (.putfield 27, 3) := by decide +kernel
theorem dX0_init_51 : decode cX0_init 51 = .ok (.aload_n 0, 1) := by decide +kernel
theorem dX0_init_52 : decode cX0_init 52 = .ok (.bipush 8, 2) := by decide +kernel
theorem dX0_init_54 : decode cX0_init 54 = .ok (.newarray .int, 2) := by decide +kernel
theorem dX0_init_56 : decode cX0_init 56 = .ok (.putfield 30, 3) := by decide +kernel
theorem dX0_init_59 : decode cX0_init 59 = .ok (.return_, 1) := by decide +kernel
theorem dX0_isThere_0 : decode cX0_isThere 0 = .ok (.aload_n 0, 1) := by decide +kernel
theorem dX0_isThere_1 : decode cX0_isThere 1 = .ok (.getfield 33, 3) := by decide +kernel
theorem dX0_isThere_4 : decode cX0_isThere 4 = .ok (.ifCond .le 7, 3) := by decide +kernel
theorem dX0_isThere_7 : decode cX0_isThere 7 = .ok (.iconst 1, 1) := by decide +kernel
theorem dX0_isThere_8 : decode cX0_isThere 8 = .ok (.goto 4, 3) := by decide +kernel
theorem dX0_isThere_11 : decode cX0_isThere 11 = .ok (.iconst 0, 1) := by decide +kernel
theorem dX0_isThere_12 : decode cX0_isThere 12 = .ok (.ireturn, 1) := by decide +kernel
theorem dX0_isSort_0 : decode cX0_isSort 0 = .ok (.iload_n 1, 1) := by decide +kernel
theorem dX0_isSort_1 : decode cX0_isSort 1 = .ok (.ifCond .lt 15, 3) := by decide +kernel
theorem dX0_isSort_4 : decode cX0_isSort 4 = .ok (.iload_n 1, 1) := by decide +kernel
theorem dX0_isSort_5 : decode cX0_isSort 5 = .ok (.aload_n 0, 1) := by decide +kernel
theorem dX0_isSort_6 : decode cX0_isSort 6 = .ok (.getfield 33, 3) := by decide +kernel
theorem dX0_isSort_9 : decode cX0_isSort 9 = .ok (.if_icmp .ge 7, 3) := by decide +kernel
theorem dX0_isSort_12 : decode cX0_isSort 12 = .ok (.iconst 1, 1) := by decide +kernel
theorem dX0_isSort_13 : decode cX0_isSort 13 = .ok (.goto 4, 3) := by decide +kernel
theorem dX0_isSort_16 : decode cX0_isSort 16 = .ok (.iconst 0, 1) := by decide +kernel
theorem dX0_isSort_17 : decode cX0_isSort 17 = .ok (.ireturn, 1) := by decide +kernel
theorem dX0_isSign_0 : decode cX0_isSign 0 = .ok (.iload_n 1, 1) := by decide +kernel
theorem dX0_isSign_1 : decode cX0_isSign 1 = .ok (.ifCond .lt 15, 3) := by decide +kernel
theorem dX0_isSign_4 : decode cX0_isSign 4 = .ok (.iload_n 1, 1) := by decide +kernel
theorem dX0_isSign_5 : decode cX0_isSign 5 = .ok (.aload_n 0, 1) := by decide +kernel
theorem dX0_isSign_6 : decode cX0_isSign 6 = .ok (.getfield 37, 3) := by decide +kernel
theorem dX0_isSign_9 : decode cX0_isSign 9 = .ok (.if_icmp .ge 7, 3) := by decide +kernel
theorem dX0_isSign_12 : decode cX0_isSign 12 = .ok (.iconst 1, 1) := by decide +kernel
theorem dX0_isSign_13 : decode cX0_isSign 13 = .ok (.goto 4, 3) := by decide +kernel
theorem dX0_isSign_16 : decode cX0_isSign 16 = .ok (.iconst 0, 1) := by decide +kernel
theorem dX0_isSign_17 : decode cX0_isSign 17 = .ok (.ireturn, 1) := by decide +kernel
theorem dX0_isSet_0 : decode cX0_isSet 0 = .ok (.iload_n 1, 1) := by decide +kernel
theorem dX0_isSet_1 : decode cX0_isSet 1 = .ok (.ifCond .lt 15, 3) := by decide +kernel
theorem dX0_isSet_4 : decode cX0_isSet 4 = .ok (.iload_n 1, 1) := by decide +kernel
theorem dX0_isSet_5 : decode cX0_isSet 5 = .ok (.aload_n 0, 1) := by decide +kernel
theorem dX0_isSet_6 : decode cX0_isSet 6 = .ok (.invokevirtual 40, 3) := by decide +kernel
theorem dX0_isSet_9 : decode cX0_isSet 9 = .ok (.if_icmp .gt 7, 3) := by decide +kernel
theorem dX0_isSet_12 : decode cX0_isSet 12 = .ok (.iconst 1, 1) := by decide +kernel
theorem dX0_isSet_13 : decode cX0_isSet 13 = .ok (.goto 4, 3) := by decide +kernel
theorem dX0_isSet_16 : decode cX0_isSet 16 = .ok (.iconst 0, 1) := by decide +kernel
theorem dX0_isSet_17 : decode cX0_isSet 17 = .ok (.ireturn, 1) := by decide +kernel
theorem dX0_everySort_0 : decode cX0_everySort 0 = .ok (.iconst 1, 1) := by decide +kernel
theorem dX0_everySort_1 : decode cX0_everySort 1 = .ok (.aload_n 0, 1) := by decide +kernel
theorem dX0_everySort_2 : decode cX0_everySort 2 = .ok (.getfield 33, 3) := by decide +kernel
theorem dX0_everySort_5 : decode cX0_everySort 5 = .ok (.ishl, 1) := by decide +kernel
theorem dX0_everySort_6 : decode cX0_everySort 6 = .ok (.iconst 1, 1) := by decide +kernel
theorem dX0_everySort_7 : decode cX0_everySort 7 = .ok (.isub, 1) := by decide +kernel
theorem dX0_everySort_8 : decode cX0_everySort 8 = .ok (.ireturn, 1) := by decide +kernel
theorem dX0_fill_0 : decode cX0_fill 0 = .ok (.aload_n 0, 1) := by decide +kernel
theorem dX0_fill_1 : decode cX0_fill 1 = .ok (.aload_n 1, 1) := by decide +kernel
theorem dX0_fill_2 : decode cX0_fill 2 = .ok (.getfield 44, 3) := by decide +kernel
theorem dX0_fill_5 : decode cX0_fill 5 = .ok (.putfield 33, 3) := by decide +kernel
theorem dX0_fill_8 : decode cX0_fill 8 = .ok (.aload_n 0, 1) := by decide +kernel
theorem dX0_fill_9 : decode cX0_fill 9 = .ok (.aload_n 1, 1) := by decide +kernel
theorem dX0_fill_10 : decode cX0_fill 10 = .ok (.getfield 47, 3) := by decide +kernel
theorem dX0_fill_13 : decode cX0_fill 13 = .ok (.putfield 37, 3) := by decide +kernel
theorem dX0_fill_16 : decode cX0_fill 16 = .ok (.aload_n 0, 1) := by decide +kernel
theorem dX0_fill_17 : decode cX0_fill 17 = .ok (.iconst 0, 1) := by decide +kernel
theorem dX0_fill_18 : decode cX0_fill 18 = .ok (.putfield 48, 3) := by decide +kernel
theorem dX0_fill_21 : decode cX0_fill 21 = .ok (.iconst 0, 1) := by decide +kernel
theorem dX0_fill_22 : decode cX0_fill 22 = .ok (.istore_n 2, 1) := by decide +kernel
theorem dX0_fill_23 : decode cX0_fill 23 = .ok (.iload_n 2, 1) := by decide +kernel
theorem dX0_fill_24 : decode cX0_fill 24 = .ok (.aload_n 0, 1) := by decide +kernel
theorem dX0_fill_25 : decode cX0_fill 25 = .ok (.getfield 33, 3) := by decide +kernel
theorem dX0_fill_28 : decode cX0_fill 28 = .ok (.if_icmp .ge 23, 3) := by decide +kernel
theorem dX0_fill_31 : decode cX0_fill 31 = .ok (.aload_n 0, 1) := by decide +kernel
theorem dX0_fill_32 : decode cX0_fill 32 = .ok (.aload_n 1, 1) := by decide +kernel
theorem dX0_fill_33 : decode cX0_fill 33 = .ok (.getfield 51, 3) := by decide +kernel
theorem dX0_fill_36 : decode cX0_fill 36 = .ok (.iconst 1, 1) := by decide +kernel
theorem dX0_fill_37 : decode cX0_fill 37 = .ok (.iload_n 2, 1) := by decide +kernel
theorem dX0_fill_38 : decode cX0_fill 38 = .ok (.iconst 5, 1) := by decide +kernel
theorem dX0_fill_39 : decode cX0_fill 39 = .ok (.imul, 1) := by decide +kernel
theorem dX0_fill_40 : decode cX0_fill 40 = .ok (.iadd, 1) := by decide +kernel
theorem dX0_fill_41 : decode cX0_fill 41 = .ok (.iload_n 2, 1) := by decide +kernel
theorem dX0_fill_42 : decode cX0_fill 42 = .ok (.invokevirtual 54, 3) := by decide +kernel
theorem dX0_fill_45 : decode cX0_fill 45 = .ok (.iinc 2 1, 3) := by decide +kernel
theorem dX0_fill_48 : decode cX0_fill 48 = .ok (.goto (-25), 3) := by decide +kernel
theorem dX0_fill_51 : decode cX0_fill 51 = .ok (.iconst 1, 1) := by decide +kernel
theorem dX0_fill_52 : decode cX0_fill 52 = .ok (.aload_n 0, 1) := by decide +kernel
theorem dX0_fill_53 : decode cX0_fill 53 = .ok (.getfield 33, 3) := by decide +kernel
theorem dX0_fill_56 : decode cX0_fill 56 = .ok (.iconst 5, 1) := by decide +kernel
theorem dX0_fill_57 : decode cX0_fill 57 = .ok (.imul, 1) := by decide +kernel
theorem dX0_fill_58 : decode cX0_fill 58 = .ok (.iadd, 1) := by decide +kernel
theorem dX0_fill_59 : decode cX0_fill 59 = .ok (.istore_n 2, 1) := by decide +kernel
theorem dX0_fill_60 : decode cX0_fill 60 = .ok (.iconst 0, 1) := by decide +kernel
theorem dX0_fill_61 : decode cX0_fill 61 = .ok (.istore_n 3, 1) := by decide +kernel
theorem dX0_fill_62 : decode cX0_fill 62 = .ok (.iload_n 3, 1) := by decide +kernel
theorem dX0_fill_63 : decode cX0_fill 63 = .ok (.aload_n 0, 1) := by decide +kernel
theorem dX0_fill_64 : decode cX0_fill 64 = .ok (.getfield 37, 3) := by decide +kernel
theorem dX0_fill_67 : decode cX0_fill 67 = .ok (.if_icmp .ge 55, 3) := by decide +kernel
theorem dX0_fill_70 : decode cX0_fill 70 = .ok (.iload_n 2, 1) := by decide +kernel
theorem dX0_fill_71 : decode cX0_fill 71 = .ok (.iload_n 3, 1) := by decide +kernel
theorem dX0_fill_72 : decode cX0_fill 72 = .ok (.iconst 3, 1) := by decide +kernel
theorem dX0_fill_73 : decode cX0_fill 73 = .ok (.imul, 1) := by decide +kernel
theorem dX0_fill_74 : decode cX0_fill 74 = .ok (.iadd, 1) := by decide +kernel
theorem dX0_fill_75 : decode cX0_fill 75 = .ok (.istore 4, 2) := by decide +kernel
theorem dX0_fill_77 : decode cX0_fill 77 = .ok (.aload_n 0, 1) := by decide +kernel
theorem dX0_fill_78 : decode cX0_fill 78 = .ok (.getfield 24, 3) := by decide +kernel
theorem dX0_fill_81 : decode cX0_fill 81 = .ok (.iload_n 3, 1) := by decide +kernel
theorem dX0_fill_82 : decode cX0_fill 82 = .ok (.bipush 10, 2) := by decide +kernel
theorem dX0_fill_84 : decode cX0_fill 84 = .ok (.aload_n 1, 1) := by decide +kernel
theorem dX0_fill_85 : decode cX0_fill 85 = .ok (.getfield 51, 3) := by decide +kernel
theorem dX0_fill_88 : decode cX0_fill 88 = .ok (.iload 4, 2) := by decide +kernel
theorem dX0_fill_90 : decode cX0_fill 90 = .ok (.iconst 1, 1) := by decide +kernel
theorem dX0_fill_91 : decode cX0_fill 91 = .ok (.iadd, 1) := by decide +kernel
theorem dX0_fill_92 : decode cX0_fill 92 = .ok (.iaload, 1) := by decide +kernel
theorem dX0_fill_93 : decode cX0_fill 93 = .ok (.bipush 48, 2) := by decide +kernel
theorem dX0_fill_95 : decode cX0_fill 95 = .ok (.isub, 1) := by decide +kernel
theorem dX0_fill_96 : decode cX0_fill 96 = .ok (.imul, 1) := by decide +kernel
theorem dX0_fill_97 : decode cX0_fill 97 = .ok (.aload_n 1, 1) := by decide +kernel
theorem dX0_fill_98 : decode cX0_fill 98 = .ok (.getfield 51, 3) := by decide +kernel
theorem dX0_fill_101 : decode cX0_fill 101 = .ok (.iload 4, 2) := by decide +kernel
theorem dX0_fill_103 : decode cX0_fill 103 = .ok (.iconst 2, 1) := by decide +kernel
theorem dX0_fill_104 : decode cX0_fill 104 = .ok (.iadd, 1) := by decide +kernel
theorem dX0_fill_105 : decode cX0_fill 105 = .ok (.iaload, 1) := by decide +kernel
theorem dX0_fill_106 : decode cX0_fill 106 = .ok (.iadd, 1) := by decide +kernel
theorem dX0_fill_107 : decode cX0_fill 107 = .ok (.bipush 48, 2) := by decide +kernel
theorem dX0_fill_109 : decode cX0_fill 109 = .ok (.isub, 1) := by decide +kernel
theorem dX0_fill_110 : decode cX0_fill 110 = .ok (.aload_n 0, 1) := by decide +kernel
theorem dX0_fill_111 : decode cX0_fill 111 = .ok (.invokevirtual 40, 3) := by decide +kernel
theorem dX0_fill_114 : decode cX0_fill 114 = .ok (.iand, 1) := by decide +kernel
theorem dX0_fill_115 : decode cX0_fill 115 = .ok (.iastore, 1) := by decide +kernel
theorem dX0_fill_116 : decode cX0_fill 116 = .ok (.iinc 3 1, 3) := by decide +kernel
theorem dX0_fill_119 : decode cX0_fill 119 = .ok (.goto (-57), 3) := by decide +kernel
theorem dX0_fill_122 : decode cX0_fill 122 = .ok (.return_, 1) := by decide +kernel
theorem dX0_fillSort_0 : decode cX0_fillSort 0 = .ok (.aload_n 0, 1) := by decide +kernel
theorem dX0_fillSort_1 : decode cX0_fillSort 1 = .ok (.getfield 9, 3) := by decide +kernel
theorem dX0_fillSort_4 : decode cX0_fillSort 4 = .ok (.iload_n 3, 1) := by decide +kernel
theorem dX0_fillSort_5 : decode cX0_fillSort 5 = .ok (.aload_n 1, 1) := by decide +kernel
theorem dX0_fillSort_6 : decode cX0_fillSort 6 = .ok (.iload_n 2, 1) := by decide +kernel
theorem dX0_fillSort_7 : decode cX0_fillSort 7 = .ok (.iconst 1, 1) := by decide +kernel
theorem dX0_fillSort_8 : decode cX0_fillSort 8 = .ok (.iadd, 1) := by decide +kernel
theorem dX0_fillSort_9 : decode cX0_fillSort 9 = .ok (.iaload, 1) := by decide +kernel
theorem dX0_fillSort_10 : decode cX0_fillSort 10 = .ok (.bipush 112, 2) := by decide +kernel
theorem dX0_fillSort_12 : decode cX0_fillSort 12 = .ok (.if_icmp .ne 7, 3) := by decide +kernel
theorem dX0_fillSort_15 : decode cX0_fillSort 15 = .ok (.iconst 0, 1) := by decide +kernel
theorem dX0_fillSort_16 : decode cX0_fillSort 16 = .ok (.goto 18, 3) := by decide +kernel
theorem dX0_fillSort_19 : decode cX0_fillSort 19 = .ok (.aload_n 1, 1) := by decide +kernel
theorem dX0_fillSort_20 : decode cX0_fillSort 20 = .ok (.iload_n 2, 1) := by decide +kernel
theorem dX0_fillSort_21 : decode cX0_fillSort 21 = .ok (.iconst 1, 1) := by decide +kernel
theorem dX0_fillSort_22 : decode cX0_fillSort 22 = .ok (.iadd, 1) := by decide +kernel
theorem dX0_fillSort_23 : decode cX0_fillSort 23 = .ok (.iaload, 1) := by decide +kernel
theorem dX0_fillSort_24 : decode cX0_fillSort 24 = .ok (.bipush 115, 2) := by decide +kernel
theorem dX0_fillSort_26 : decode cX0_fillSort 26 = .ok (.if_icmp .ne 7, 3) := by decide +kernel
theorem dX0_fillSort_29 : decode cX0_fillSort 29 = .ok (.iconst 1, 1) := by decide +kernel
theorem dX0_fillSort_30 : decode cX0_fillSort 30 = .ok (.goto 4, 3) := by decide +kernel
theorem dX0_fillSort_33 : decode cX0_fillSort 33 = .ok (.iconst 2, 1) := by decide +kernel
theorem dX0_fillSort_34 : decode cX0_fillSort 34 = .ok (.iastore, 1) := by decide +kernel
theorem dX0_fillSort_35 : decode cX0_fillSort 35 = .ok (.aload_n 0, 1) := by decide +kernel
theorem dX0_fillSort_36 : decode cX0_fillSort 36 = .ok (.getfield 15, 3) := by decide +kernel
theorem dX0_fillSort_39 : decode cX0_fillSort 39 = .ok (.iload_n 3, 1) := by decide +kernel
theorem dX0_fillSort_40 : decode cX0_fillSort 40 = .ok (.aload_n 1, 1) := by decide +kernel
theorem dX0_fillSort_41 : decode cX0_fillSort 41 = .ok (.iload_n 2, 1) := by decide +kernel
theorem dX0_fillSort_42 : decode cX0_fillSort 42 = .ok (.iconst 2, 1) := by decide +kernel
theorem dX0_fillSort_43 : decode cX0_fillSort 43 = .ok (.iadd, 1) := by decide +kernel
theorem dX0_fillSort_44 : decode cX0_fillSort 44 = .ok (.iaload, 1) := by decide +kernel
theorem dX0_fillSort_45 : decode cX0_fillSort 45 = .ok (.bipush 48, 2) := by decide +kernel
theorem dX0_fillSort_47 : decode cX0_fillSort 47 = .ok (.isub, 1) := by decide +kernel
theorem dX0_fillSort_48 : decode cX0_fillSort 48 = .ok (.iastore, 1) := by decide +kernel
theorem dX0_fillSort_49 : decode cX0_fillSort 49 = .ok (.aload_n 0, 1) := by decide +kernel
theorem dX0_fillSort_50 : decode cX0_fillSort 50 = .ok (.getfield 18, 3) := by decide +kernel
theorem dX0_fillSort_53 : decode cX0_fillSort 53 = .ok (.iload_n 3, 1) := by decide +kernel
theorem dX0_fillSort_54 : decode cX0_fillSort 54 = .ok (.aload_n 1, 1) := by decide +kernel
theorem dX0_fillSort_55 : decode cX0_fillSort 55 = .ok (.iload_n 2, 1) := by decide +kernel
theorem dX0_fillSort_56 : decode cX0_fillSort 56 = .ok (.iconst 3, 1) := by decide +kernel
theorem dX0_fillSort_57 : decode cX0_fillSort 57 = .ok (.iadd, 1) := by decide +kernel
theorem dX0_fillSort_58 : decode cX0_fillSort 58 = .ok (.iaload, 1) := by decide +kernel
theorem dX0_fillSort_59 : decode cX0_fillSort 59 = .ok (.bipush 48, 2) := by decide +kernel
theorem dX0_fillSort_61 : decode cX0_fillSort 61 = .ok (.isub, 1) := by decide +kernel
theorem dX0_fillSort_62 : decode cX0_fillSort 62 = .ok (.iastore, 1) := by decide +kernel
theorem dX0_fillSort_63 : decode cX0_fillSort 63 = .ok (.aload_n 0, 1) := by decide +kernel
theorem dX0_fillSort_64 : decode cX0_fillSort 64 = .ok (.getfield 21, 3) := by decide +kernel
theorem dX0_fillSort_67 : decode cX0_fillSort 67 = .ok (.iload_n 3, 1) := by decide +kernel
theorem dX0_fillSort_68 : decode cX0_fillSort 68 = .ok (.aload_n 1, 1) := by decide +kernel
theorem dX0_fillSort_69 : decode cX0_fillSort 69 = .ok (.iload_n 2, 1) := by decide +kernel
theorem dX0_fillSort_70 : decode cX0_fillSort 70 = .ok (.iconst 4, 1) := by decide +kernel
theorem dX0_fillSort_71 : decode cX0_fillSort 71 = .ok (.iadd, 1) := by decide +kernel
theorem dX0_fillSort_72 : decode cX0_fillSort 72 = .ok (.iaload, 1) := by decide +kernel
theorem dX0_fillSort_73 : decode cX0_fillSort 73 = .ok (.bipush 48, 2) := by decide +kernel
theorem dX0_fillSort_75 : decode cX0_fillSort 75 = .ok (.isub, 1) := by decide +kernel
theorem dX0_fillSort_76 : decode cX0_fillSort 76 = .ok (.iastore, 1) := by decide +kernel
theorem dX0_fillSort_77 : decode cX0_fillSort 77 = .ok (.return_, 1) := by decide +kernel
theorem dX0_letters_0 : decode cX0_letters 0 = .ok (.iconst 0, 1) := by decide +kernel
theorem dX0_letters_1 : decode cX0_letters 1 = .ok (.istore_n 1, 1) := by decide +kernel
theorem dX0_letters_2 : decode cX0_letters 2 = .ok (.iconst 0, 1) := by decide +kernel
theorem dX0_letters_3 : decode cX0_letters 3 = .ok (.istore_n 2, 1) := by decide +kernel
theorem dX0_letters_4 : decode cX0_letters 4 = .ok (.iload_n 2, 1) := by decide +kernel
theorem dX0_letters_5 : decode cX0_letters 5 = .ok (.aload_n 0, 1) := by decide +kernel
theorem dX0_letters_6 : decode cX0_letters 6 = .ok (.getfield 33, 3) := by decide +kernel
theorem dX0_letters_9 : decode cX0_letters 9 = .ok (.if_icmp .ge 18, 3) := by decide +kernel
theorem dX0_letters_12 : decode cX0_letters 12 = .ok (.iload_n 1, 1) := by decide +kernel
theorem dX0_letters_13 : decode cX0_letters 13 = .ok (.aload_n 0, 1) := by decide +kernel
theorem dX0_letters_14 : decode cX0_letters 14 = .ok (.getfield 15, 3) := by decide +kernel
theorem dX0_letters_17 : decode cX0_letters 17 = .ok (.iload_n 2, 1) := by decide +kernel
theorem dX0_letters_18 : decode cX0_letters 18 = .ok (.iaload, 1) := by decide +kernel
theorem dX0_letters_19 : decode cX0_letters 19 = .ok (.iadd, 1) := by decide +kernel
theorem dX0_letters_20 : decode cX0_letters 20 = .ok (.istore_n 1, 1) := by decide +kernel
theorem dX0_letters_21 : decode cX0_letters 21 = .ok (.iinc 2 1, 3) := by decide +kernel
theorem dX0_letters_24 : decode cX0_letters 24 = .ok (.goto (-20), 3) := by decide +kernel
theorem dX0_letters_27 : decode cX0_letters 27 = .ok (.iload_n 1, 1) := by decide +kernel
theorem dX0_letters_28 : decode cX0_letters 28 = .ok (.ireturn, 1) := by decide +kernel
theorem dX0_secondsFor_0 : decode cX0_secondsFor 0 = .ok (.iconst 0, 1) := by decide +kernel
theorem dX0_secondsFor_1 : decode cX0_secondsFor 1 = .ok (.istore_n 2, 1) := by decide +kernel
theorem dX0_secondsFor_2 : decode cX0_secondsFor 2 = .ok (.iconst 0, 1) := by decide +kernel
theorem dX0_secondsFor_3 : decode cX0_secondsFor 3 = .ok (.istore_n 3, 1) := by decide +kernel
theorem dX0_secondsFor_4 : decode cX0_secondsFor 4 = .ok (.iload_n 3, 1) := by decide +kernel
theorem dX0_secondsFor_5 : decode cX0_secondsFor 5 = .ok (.aload_n 0, 1) := by decide +kernel
theorem dX0_secondsFor_6 : decode cX0_secondsFor 6 = .ok (.getfield 33, 3) := by decide +kernel
theorem dX0_secondsFor_9 : decode cX0_secondsFor 9 = .ok (.if_icmp .ge 42, 3) := by decide +kernel
theorem dX0_secondsFor_12 : decode cX0_secondsFor 12 = .ok (.iload_n 1, 1) := by decide +kernel
theorem dX0_secondsFor_13 : decode cX0_secondsFor 13 = .ok (.iload_n 3, 1) := by decide +kernel
theorem dX0_secondsFor_14 : decode cX0_secondsFor 14 = .ok (.invokestatic 58, 3) := by decide +kernel
theorem dX0_secondsFor_17 : decode cX0_secondsFor 17 = .ok (.ifCond .eq 28, 3) := by decide +kernel
theorem dX0_secondsFor_20 : decode cX0_secondsFor 20 = .ok (.iload_n 2, 1) := by decide +kernel
theorem dX0_secondsFor_21 : decode cX0_secondsFor 21 = .ok (.aload_n 0, 1) := by decide +kernel
theorem dX0_secondsFor_22 : decode cX0_secondsFor 22 = .ok (.getfield 15, 3) := by decide +kernel
theorem dX0_secondsFor_25 : decode cX0_secondsFor 25 = .ok (.iload_n 3, 1) := by decide +kernel
theorem dX0_secondsFor_26 : decode cX0_secondsFor 26 = .ok (.iaload, 1) := by decide +kernel
theorem dX0_secondsFor_27 : decode cX0_secondsFor 27 = .ok (.aload_n 0, 1) := by decide +kernel
theorem dX0_secondsFor_28 : decode cX0_secondsFor 28 = .ok (.getfield 9, 3) := by decide +kernel
theorem dX0_secondsFor_31 : decode cX0_secondsFor 31 = .ok (.iload_n 3, 1) := by decide +kernel
theorem dX0_secondsFor_32 : decode cX0_secondsFor 32 = .ok (.iaload, 1) := by decide +kernel
theorem dX0_secondsFor_33 : decode cX0_secondsFor 33 = .ok (.aload_n 0, 1) := by decide +kernel
theorem dX0_secondsFor_34 : decode cX0_secondsFor 34 = .ok (.getfield 18, 3) := by decide +kernel
theorem dX0_secondsFor_37 : decode cX0_secondsFor 37 = .ok (.iload_n 3, 1) := by decide +kernel
theorem dX0_secondsFor_38 : decode cX0_secondsFor 38 = .ok (.iaload, 1) := by decide +kernel
theorem dX0_secondsFor_39 : decode cX0_secondsFor 39 = .ok (.invokestatic 62, 3) := by decide +kernel
theorem dX0_secondsFor_42 : decode cX0_secondsFor 42 = .ok (.imul, 1) := by decide +kernel
theorem dX0_secondsFor_43 : decode cX0_secondsFor 43 = .ok (.iadd, 1) := by decide +kernel
theorem dX0_secondsFor_44 : decode cX0_secondsFor 44 = .ok (.istore_n 2, 1) := by decide +kernel
theorem dX0_secondsFor_45 : decode cX0_secondsFor 45 = .ok (.iinc 3 1, 3) := by decide +kernel
theorem dX0_secondsFor_48 : decode cX0_secondsFor 48 = .ok (.goto (-44), 3) := by decide +kernel
theorem dX0_secondsFor_51 : decode cX0_secondsFor 51 = .ok (.iload_n 2, 1) := by decide +kernel
theorem dX0_secondsFor_52 : decode cX0_secondsFor 52 = .ok (.ireturn, 1) := by decide +kernel
theorem dX0_lettersAlike_0 : decode cX0_lettersAlike 0 = .ok (.iconst 0, 1) := by decide +kernel
theorem dX0_lettersAlike_1 : decode cX0_lettersAlike 1 = .ok (.istore_n 2, 1) := by decide +kernel
theorem dX0_lettersAlike_2 : decode cX0_lettersAlike 2 = .ok (.iconst 0, 1) := by decide +kernel
theorem dX0_lettersAlike_3 : decode cX0_lettersAlike 3 = .ok (.istore_n 3, 1) := by decide +kernel
theorem dX0_lettersAlike_4 : decode cX0_lettersAlike 4 = .ok (.iload_n 3, 1) := by decide +kernel
theorem dX0_lettersAlike_5 : decode cX0_lettersAlike 5 = .ok (.aload_n 0, 1) := by decide +kernel
theorem dX0_lettersAlike_6 : decode cX0_lettersAlike 6 = .ok (.getfield 33, 3) := by decide +kernel
theorem dX0_lettersAlike_9 : decode cX0_lettersAlike 9 = .ok (.if_icmp .ge 42, 3) := by decide +kernel
theorem dX0_lettersAlike_12 : decode cX0_lettersAlike 12 = .ok (.iload_n 3, 1) := by decide +kernel
theorem dX0_lettersAlike_13 : decode cX0_lettersAlike 13 = .ok (.iload_n 1, 1) := by decide +kernel
theorem dX0_lettersAlike_14 : decode cX0_lettersAlike 14 = .ok (.if_icmp .eq 31, 3) := by decide +kernel
theorem dX0_lettersAlike_17 : decode cX0_lettersAlike 17 = .ok (.aload_n 0, 1) := by decide +kernel
theorem dX0_lettersAlike_18 : decode cX0_lettersAlike 18 = .ok (.getfield 9, 3) := by decide +kernel
theorem dX0_lettersAlike_21 : decode cX0_lettersAlike 21 = .ok (.iload_n 3, 1) := by decide +kernel
theorem dX0_lettersAlike_22 : decode cX0_lettersAlike 22 = .ok (.iaload, 1) := by decide +kernel
theorem dX0_lettersAlike_23 : decode cX0_lettersAlike 23 = .ok (.ifCond .ne 22, 3) := by decide +kernel
theorem dX0_lettersAlike_26 : decode cX0_lettersAlike 26 = .ok (.aload_n 0, 1) := by decide +kernel
theorem dX0_lettersAlike_27 : decode cX0_lettersAlike 27 = .ok (.getfield 21, 3) := by decide +kernel
theorem dX0_lettersAlike_30 : decode cX0_lettersAlike 30 = .ok (.iload_n 3, 1) := by decide +kernel
theorem dX0_lettersAlike_31 : decode cX0_lettersAlike 31 = .ok (.iaload, 1) := by decide +kernel
theorem dX0_lettersAlike_32 : decode cX0_lettersAlike 32 = .ok (.iload_n 1, 1) := by decide +kernel
theorem dX0_lettersAlike_33 : decode cX0_lettersAlike 33 = .ok (.if_icmp .ne 12, 3) := by decide +kernel
theorem dX0_lettersAlike_36 : decode cX0_lettersAlike 36 = .ok (.iload_n 2, 1) := by decide +kernel
theorem dX0_lettersAlike_37 : decode cX0_lettersAlike 37 = .ok (.aload_n 0, 1) := by decide +kernel
theorem dX0_lettersAlike_38 : decode cX0_lettersAlike 38 = .ok (.getfield 15, 3) := by decide +kernel
theorem dX0_lettersAlike_41 : decode cX0_lettersAlike 41 = .ok (.iload_n 3, 1) := by decide +kernel
theorem dX0_lettersAlike_42 : decode cX0_lettersAlike 42 = .ok (.iaload, 1) := by decide +kernel
theorem dX0_lettersAlike_43 : decode cX0_lettersAlike 43 = .ok (.iadd, 1) := by decide +kernel
theorem dX0_lettersAlike_44 : decode cX0_lettersAlike 44 = .ok (.istore_n 2, 1) := by decide +kernel
theorem dX0_lettersAlike_45 : decode cX0_lettersAlike 45 = .ok (.iinc 3 1, 3) := by decide +kernel
theorem dX0_lettersAlike_48 : decode cX0_lettersAlike 48 = .ok (.goto (-44), 3) := by decide +kernel
theorem dX0_lettersAlike_51 : decode cX0_lettersAlike 51 = .ok (.iload_n 2, 1) := by decide +kernel
theorem dX0_lettersAlike_52 : decode cX0_lettersAlike 52 = .ok (.ireturn, 1) := by decide +kernel
theorem dX0_firstShort_0 : decode cX0_firstShort 0 = .ok (.iconst 0, 1) := by decide +kernel
theorem dX0_firstShort_1 : decode cX0_firstShort 1 = .ok (.istore_n 3, 1) := by decide +kernel
theorem dX0_firstShort_2 : decode cX0_firstShort 2 = .ok (.iload_n 3, 1) := by decide +kernel
theorem dX0_firstShort_3 : decode cX0_firstShort 3 = .ok (.iload_n 2, 1) := by decide +kernel
theorem dX0_firstShort_4 : decode cX0_firstShort 4 = .ok (.if_icmp .ge 62, 3) := by decide +kernel
theorem dX0_firstShort_7 : decode cX0_firstShort 7 = .ok (.iconst 0, 1) := by decide +kernel
theorem dX0_firstShort_8 : decode cX0_firstShort 8 = .ok (.istore 4, 2) := by decide +kernel
theorem dX0_firstShort_10 : decode cX0_firstShort 10 = .ok (.iconst 0, 1) := by decide +kernel
theorem dX0_firstShort_11 : decode cX0_firstShort 11 = .ok (.istore 5, 2) := by decide +kernel
theorem dX0_firstShort_13 : decode cX0_firstShort 13 = .ok (.iload 5, 2) := by decide +kernel
theorem dX0_firstShort_15 : decode cX0_firstShort 15 = .ok (.iload_n 3, 1) := by decide +kernel
theorem dX0_firstShort_16 : decode cX0_firstShort 16 = .ok (.if_icmp .ge 29, 3) := by decide +kernel
theorem dX0_firstShort_19 : decode cX0_firstShort 19 = .ok (.iload 4, 2) := by decide +kernel
theorem dX0_firstShort_21 : decode cX0_firstShort 21 = .ok (.aload_n 1, 1) := by decide +kernel
theorem dX0_firstShort_22 : decode cX0_firstShort 22 = .ok (.iload 5, 2) := by decide +kernel
theorem dX0_firstShort_24 : decode cX0_firstShort 24 = .ok (.iaload, 1) := by decide +kernel
theorem dX0_firstShort_25 : decode cX0_firstShort 25 = .ok (.aload_n 1, 1) := by decide +kernel
theorem dX0_firstShort_26 : decode cX0_firstShort 26 = .ok (.iload_n 3, 1) := by decide +kernel
theorem dX0_firstShort_27 : decode cX0_firstShort 27 = .ok (.iaload, 1) := by decide +kernel
theorem dX0_firstShort_28 : decode cX0_firstShort 28 = .ok (.if_icmp .ne 7, 3) := by decide +kernel
theorem dX0_firstShort_31 : decode cX0_firstShort 31 = .ok (.iconst 1, 1) := by decide +kernel
theorem dX0_firstShort_32 : decode cX0_firstShort 32 = .ok (.goto 4, 3) := by decide +kernel
theorem dX0_firstShort_35 : decode cX0_firstShort 35 = .ok (.iconst 0, 1) := by decide +kernel
theorem dX0_firstShort_36 : decode cX0_firstShort 36 = .ok (.iadd, 1) := by decide +kernel
theorem dX0_firstShort_37 : decode cX0_firstShort 37 = .ok (.istore 4, 2) := by decide +kernel
theorem dX0_firstShort_39 : decode cX0_firstShort 39 = .ok (.iinc 5 1, 3) := by decide +kernel
theorem dX0_firstShort_42 : decode cX0_firstShort 42 = .ok (.goto (-29), 3) := by decide +kernel
theorem dX0_firstShort_45 : decode cX0_firstShort 45 = .ok (.iload 4, 2) := by decide +kernel
theorem dX0_firstShort_47 : decode cX0_firstShort 47 = .ok (.aload_n 0, 1) := by decide +kernel
theorem dX0_firstShort_48 : decode cX0_firstShort 48 = .ok (.getfield 15, 3) := by decide +kernel
theorem dX0_firstShort_51 : decode cX0_firstShort 51 = .ok (.aload_n 1, 1) := by decide +kernel
theorem dX0_firstShort_52 : decode cX0_firstShort 52 = .ok (.iload_n 3, 1) := by decide +kernel
theorem dX0_firstShort_53 : decode cX0_firstShort 53 = .ok (.iaload, 1) := by decide +kernel
theorem dX0_firstShort_54 : decode cX0_firstShort 54 = .ok (.iaload, 1) := by decide +kernel
theorem dX0_firstShort_55 : decode cX0_firstShort 55 = .ok (.if_icmp .lt 5, 3) := by decide +kernel
theorem dX0_firstShort_58 : decode cX0_firstShort 58 = .ok (.iload_n 3, 1) := by decide +kernel
theorem dX0_firstShort_59 : decode cX0_firstShort 59 = .ok (.ireturn, 1) := by decide +kernel
theorem dX0_firstShort_60 : decode cX0_firstShort 60 = .ok (.iinc 3 1, 3) := by decide +kernel
theorem dX0_firstShort_63 : decode cX0_firstShort 63 = .ok (.goto (-61), 3) := by decide +kernel
theorem dX0_firstShort_66 : decode cX0_firstShort 66 = .ok (.bipush (-9), 2) := by decide +kernel
theorem dX0_firstShort_68 : decode cX0_firstShort 68 = .ok (.ireturn, 1) := by decide +kernel
theorem dX0_heapOf_0 : decode cX0_heapOf 0 = .ok (.aload_n 0, 1) := by decide +kernel
theorem dX0_heapOf_1 : decode cX0_heapOf 1 = .ok (.invokevirtual 40, 3) := by decide +kernel
theorem dX0_heapOf_4 : decode cX0_heapOf 4 = .ok (.istore_n 3, 1) := by decide +kernel
theorem dX0_heapOf_5 : decode cX0_heapOf 5 = .ok (.iconst 0, 1) := by decide +kernel
theorem dX0_heapOf_6 : decode cX0_heapOf 6 = .ok (.istore 4, 2) := by decide +kernel
theorem dX0_heapOf_8 : decode cX0_heapOf 8 = .ok (.iload 4, 2) := by decide +kernel
theorem dX0_heapOf_10 : decode cX0_heapOf 10 = .ok (.aload_n 0, 1) := by decide +kernel
theorem dX0_heapOf_11 : decode cX0_heapOf 11 = .ok (.getfield 37, 3) := by decide +kernel
theorem dX0_heapOf_14 : decode cX0_heapOf 14 = .ok (.if_icmp .ge 54, 3) := by decide +kernel
theorem dX0_heapOf_17 : decode cX0_heapOf 17 = .ok (.iload_n 2, 1) := by decide +kernel
theorem dX0_heapOf_18 : decode cX0_heapOf 18 = .ok (.iload 4, 2) := by decide +kernel
theorem dX0_heapOf_20 : decode cX0_heapOf 20 = .ok (.invokestatic 58, 3) := by decide +kernel
theorem dX0_heapOf_23 : decode cX0_heapOf 23 = .ok (.ifCond .eq 39, 3) := by decide +kernel
theorem dX0_heapOf_26 : decode cX0_heapOf 26 = .ok (.iload_n 3, 1) := by decide +kernel
theorem dX0_heapOf_27 : decode cX0_heapOf 27 = .ok (.aload_n 0, 1) := by decide +kernel
theorem dX0_heapOf_28 : decode cX0_heapOf 28 = .ok (.getfield 24, 3) := by decide +kernel
theorem dX0_heapOf_31 : decode cX0_heapOf 31 = .ok (.iload 4, 2) := by decide +kernel
theorem dX0_heapOf_33 : decode cX0_heapOf 33 = .ok (.iaload, 1) := by decide +kernel
theorem dX0_heapOf_34 : decode cX0_heapOf 34 = .ok (.iload_n 1, 1) := by decide +kernel
theorem dX0_heapOf_35 : decode cX0_heapOf 35 = .ok (.invokestatic 58, 3) := by decide +kernel
theorem dX0_heapOf_38 : decode cX0_heapOf 38 = .ok (.ifCond .eq 13, 3) := by decide +kernel
theorem dX0_heapOf_41 : decode cX0_heapOf 41 = .ok (.aload_n 0, 1) := by decide +kernel
theorem dX0_heapOf_42 : decode cX0_heapOf 42 = .ok (.getfield 24, 3) := by decide +kernel
theorem dX0_heapOf_45 : decode cX0_heapOf 45 = .ok (.iload 4, 2) := by decide +kernel
theorem dX0_heapOf_47 : decode cX0_heapOf 47 = .ok (.iaload, 1) := by decide +kernel
theorem dX0_heapOf_48 : decode cX0_heapOf 48 = .ok (.goto 12, 3) := by decide +kernel
theorem dX0_heapOf_51 : decode cX0_heapOf 51 = .ok (.aload_n 0, 1) := by decide +kernel
theorem dX0_heapOf_52 : decode cX0_heapOf 52 = .ok (.getfield 24, 3) := by decide +kernel
theorem dX0_heapOf_55 : decode cX0_heapOf 55 = .ok (.iload 4, 2) := by decide +kernel
theorem dX0_heapOf_57 : decode cX0_heapOf 57 = .ok (.iaload, 1) := by decide +kernel
theorem dX0_heapOf_58 : decode cX0_heapOf 58 = .ok (.iconst (-1), 1) := by decide +kernel
theorem dX0_heapOf_59 : decode cX0_heapOf 59 = .ok (.ixor, 1) := by decide +kernel
theorem dX0_heapOf_60 : decode cX0_heapOf 60 = .ok (.iand, 1) := by decide +kernel
theorem dX0_heapOf_61 : decode cX0_heapOf 61 = .ok (.istore_n 3, 1) := by decide +kernel
theorem dX0_heapOf_62 : decode cX0_heapOf 62 = .ok (.iinc 4 1, 3) := by decide +kernel
theorem dX0_heapOf_65 : decode cX0_heapOf 65 = .ok (.goto (-57), 3) := by decide +kernel
theorem dX0_heapOf_68 : decode cX0_heapOf 68 = .ok (.iload_n 3, 1) := by decide +kernel
theorem dX0_heapOf_69 : decode cX0_heapOf 69 = .ok (.ireturn, 1) := by decide +kernel
theorem dX0_waiting_0 : decode cX0_waiting 0 = .ok (.iconst 0, 1) := by decide +kernel
theorem dX0_waiting_1 : decode cX0_waiting 1 = .ok (.istore_n 2, 1) := by decide +kernel
theorem dX0_waiting_2 : decode cX0_waiting 2 = .ok (.iconst 0, 1) := by decide +kernel
theorem dX0_waiting_3 : decode cX0_waiting 3 = .ok (.istore_n 3, 1) := by decide +kernel
theorem dX0_waiting_4 : decode cX0_waiting 4 = .ok (.iload_n 3, 1) := by decide +kernel
theorem dX0_waiting_5 : decode cX0_waiting 5 = .ok (.aload_n 0, 1) := by decide +kernel
theorem dX0_waiting_6 : decode cX0_waiting 6 = .ok (.getfield 33, 3) := by decide +kernel
theorem dX0_waiting_9 : decode cX0_waiting 9 = .ok (.if_icmp .ge 27, 3) := by decide +kernel
theorem dX0_waiting_12 : decode cX0_waiting 12 = .ok (.aload_n 0, 1) := by decide +kernel
theorem dX0_waiting_13 : decode cX0_waiting 13 = .ok (.iload_n 3, 1) := by decide +kernel
theorem dX0_waiting_14 : decode cX0_waiting 14 = .ok (.iload_n 1, 1) := by decide +kernel
theorem dX0_waiting_15 : decode cX0_waiting 15 = .ok (.invokevirtual 66, 3) := by decide +kernel
theorem dX0_waiting_18 : decode cX0_waiting 18 = .ok (.iconst 1, 1) := by decide +kernel
theorem dX0_waiting_19 : decode cX0_waiting 19 = .ok (.iload_n 3, 1) := by decide +kernel
theorem dX0_waiting_20 : decode cX0_waiting 20 = .ok (.ishl, 1) := by decide +kernel
theorem dX0_waiting_21 : decode cX0_waiting 21 = .ok (.if_icmp .eq 9, 3) := by decide +kernel
theorem dX0_waiting_24 : decode cX0_waiting 24 = .ok (.iload_n 2, 1) := by decide +kernel
theorem dX0_waiting_25 : decode cX0_waiting 25 = .ok (.iconst 1, 1) := by decide +kernel
theorem dX0_waiting_26 : decode cX0_waiting 26 = .ok (.iload_n 3, 1) := by decide +kernel
theorem dX0_waiting_27 : decode cX0_waiting 27 = .ok (.ishl, 1) := by decide +kernel
theorem dX0_waiting_28 : decode cX0_waiting 28 = .ok (.ior, 1) := by decide +kernel
theorem dX0_waiting_29 : decode cX0_waiting 29 = .ok (.istore_n 2, 1) := by decide +kernel
theorem dX0_waiting_30 : decode cX0_waiting 30 = .ok (.iinc 3 1, 3) := by decide +kernel
theorem dX0_waiting_33 : decode cX0_waiting 33 = .ok (.goto (-29), 3) := by decide +kernel
theorem dX0_waiting_36 : decode cX0_waiting 36 = .ok (.iload_n 2, 1) := by decide +kernel
theorem dX0_waiting_37 : decode cX0_waiting 37 = .ok (.ireturn, 1) := by decide +kernel
theorem dX0_heaps_0 : decode cX0_heaps 0 = .ok (.iconst 0, 1) := by decide +kernel
theorem dX0_heaps_1 : decode cX0_heaps 1 = .ok (.istore_n 2, 1) := by decide +kernel
theorem dX0_heaps_2 : decode cX0_heaps 2 = .ok (.iconst 0, 1) := by decide +kernel
theorem dX0_heaps_3 : decode cX0_heaps 3 = .ok (.istore_n 3, 1) := by decide +kernel
theorem dX0_heaps_4 : decode cX0_heaps 4 = .ok (.iload_n 3, 1) := by decide +kernel
theorem dX0_heaps_5 : decode cX0_heaps 5 = .ok (.aload_n 0, 1) := by decide +kernel
theorem dX0_heaps_6 : decode cX0_heaps 6 = .ok (.getfield 33, 3) := by decide +kernel
theorem dX0_heaps_9 : decode cX0_heaps 9 = .ok (.if_icmp .ge 30, 3) := by decide +kernel
theorem dX0_heaps_12 : decode cX0_heaps 12 = .ok (.iload_n 2, 1) := by decide +kernel
theorem dX0_heaps_13 : decode cX0_heaps 13 = .ok (.aload_n 0, 1) := by decide +kernel
theorem dX0_heaps_14 : decode cX0_heaps 14 = .ok (.iload_n 3, 1) := by decide +kernel
theorem dX0_heaps_15 : decode cX0_heaps 15 = .ok (.iload_n 1, 1) := by decide +kernel
theorem dX0_heaps_16 : decode cX0_heaps 16 = .ok (.invokevirtual 66, 3) := by decide +kernel
theorem dX0_heaps_19 : decode cX0_heaps 19 = .ok (.invokestatic 69, 3) := by decide +kernel
theorem dX0_heaps_22 : decode cX0_heaps 22 = .ok (.iload_n 3, 1) := by decide +kernel
theorem dX0_heaps_23 : decode cX0_heaps 23 = .ok (.if_icmp .ne 7, 3) := by decide +kernel
theorem dX0_heaps_26 : decode cX0_heaps 26 = .ok (.iconst 1, 1) := by decide +kernel
theorem dX0_heaps_27 : decode cX0_heaps 27 = .ok (.goto 4, 3) := by decide +kernel
theorem dX0_heaps_30 : decode cX0_heaps 30 = .ok (.iconst 0, 1) := by decide +kernel
theorem dX0_heaps_31 : decode cX0_heaps 31 = .ok (.iadd, 1) := by decide +kernel
theorem dX0_heaps_32 : decode cX0_heaps 32 = .ok (.istore_n 2, 1) := by decide +kernel
theorem dX0_heaps_33 : decode cX0_heaps 33 = .ok (.iinc 3 1, 3) := by decide +kernel
theorem dX0_heaps_36 : decode cX0_heaps 36 = .ok (.goto (-32), 3) := by decide +kernel
theorem dX0_heaps_39 : decode cX0_heaps 39 = .ok (.iload_n 2, 1) := by decide +kernel
theorem dX0_heaps_40 : decode cX0_heaps 40 = .ok (.ireturn, 1) := by decide +kernel
theorem dX0_note_0 : decode cX0_note 0 = .ok (.aload_n 0, 1) := by decide +kernel
theorem dX0_note_1 : decode cX0_note 1 = .ok (.getfield 27, 3) := by decide +kernel
theorem dX0_note_4 : decode cX0_note 4 = .ok (.aload_n 0, 1) := by decide +kernel
theorem dX0_note_5 : decode cX0_note 5 = .ok (.getfield 48, 3) := by decide +kernel
theorem dX0_note_8 : decode cX0_note 8 = .ok (.iload_n 1, 1) := by decide +kernel
theorem dX0_note_9 : decode cX0_note 9 = .ok (.iastore, 1) := by decide +kernel
theorem dX0_note_10 : decode cX0_note 10 = .ok (.aload_n 0, 1) := by decide +kernel
theorem dX0_note_11 : decode cX0_note 11 = .ok (.getfield 30, 3) := by decide +kernel
theorem dX0_note_14 : decode cX0_note 14 = .ok (.aload_n 0, 1) := by decide +kernel
theorem dX0_note_15 : decode cX0_note 15 = .ok (.getfield 48, 3) := by decide +kernel
theorem dX0_note_18 : decode cX0_note 18 = .ok (.iload_n 2, 1) := by decide +kernel
theorem dX0_note_19 : decode cX0_note 19 = .ok (.iastore, 1) := by decide +kernel
theorem dX0_note_20 : decode cX0_note 20 = .ok (.aload_n 0, 1) := by decide +kernel
theorem dX0_note_21 : decode cX0_note 21 = .ok (.dup, 1) := by decide +kernel
theorem dX0_note_22 : decode cX0_note 22 = .ok (.getfield 48, 3) := by decide +kernel
theorem dX0_note_25 : decode cX0_note 25 = .ok (.iconst 1, 1) := by decide +kernel
theorem dX0_note_26 : decode cX0_note 26 = .ok (.iadd, 1) := by decide +kernel
theorem dX0_note_27 : decode cX0_note 27 = .ok (.putfield 48, 3) := by decide +kernel
theorem dX0_note_30 : decode cX0_note 30 = .ok (.aload_n 0, 1) := by decide +kernel
theorem dX0_note_31 : decode cX0_note 31 = .ok (.getfield 48, 3) := by decide +kernel
theorem dX0_note_34 : decode cX0_note 34 = .ok (.iconst 1, 1) := by decide +kernel
theorem dX0_note_35 : decode cX0_note 35 = .ok (.isub, 1) := by decide +kernel
theorem dX0_note_36 : decode cX0_note 36 = .ok (.ireturn, 1) := by decide +kernel
theorem dX0_readingsHold_0 : decode cX0_readingsHold 0 = .ok (.iconst 0, 1) := by decide +kernel
theorem dX0_readingsHold_1 : decode cX0_readingsHold 1 = .ok (.istore_n 3, 1) := by decide +kernel
theorem dX0_readingsHold_2 : decode cX0_readingsHold 2 = .ok (.iload_n 3, 1) := by decide +kernel
theorem dX0_readingsHold_3 : decode cX0_readingsHold 3 = .ok (.aload_n 0, 1) := by decide +kernel
theorem dX0_readingsHold_4 : decode cX0_readingsHold 4 = .ok (.getfield 48, 3) := by decide +kernel
theorem dX0_readingsHold_7 : decode cX0_readingsHold 7 = .ok (.if_icmp .ge 59, 3) := by decide +kernel
theorem dX0_readingsHold_10 : decode cX0_readingsHold 10 = .ok (.aload_n 0, 1) := by decide +kernel
theorem dX0_readingsHold_11 : decode cX0_readingsHold 11 = .ok (.aload_n 0, 1) := by decide +kernel
theorem dX0_readingsHold_12 : decode cX0_readingsHold 12 = .ok (.getfield 27, 3) := by decide +kernel
theorem dX0_readingsHold_15 : decode cX0_readingsHold 15 = .ok (.iload_n 3, 1) := by decide +kernel
theorem dX0_readingsHold_16 : decode cX0_readingsHold 16 = .ok (.iaload, 1) := by decide +kernel
theorem dX0_readingsHold_17 : decode cX0_readingsHold 17 = .ok (.iconst 1, 1) := by decide +kernel
theorem dX0_readingsHold_18 : decode cX0_readingsHold 18 = .ok (.iload_n 1, 1) := by decide +kernel
theorem dX0_readingsHold_19 : decode cX0_readingsHold 19 = .ok (.ishl, 1) := by decide +kernel
theorem dX0_readingsHold_20 : decode cX0_readingsHold 20 = .ok (.iconst (-1), 1) := by decide +kernel
theorem dX0_readingsHold_21 : decode cX0_readingsHold 21 = .ok (.ixor, 1) := by decide +kernel
theorem dX0_readingsHold_22 : decode cX0_readingsHold 22 = .ok (.iand, 1) := by decide +kernel
theorem dX0_readingsHold_23 : decode cX0_readingsHold 23 = .ok (.invokevirtual 73, 3) := by decide +kernel
theorem dX0_readingsHold_26 : decode cX0_readingsHold 26 = .ok (.istore 4, 2) := by decide +kernel
theorem dX0_readingsHold_28 : decode cX0_readingsHold 28 = .ok (.aload_n 0, 1) := by decide +kernel
theorem dX0_readingsHold_29 : decode cX0_readingsHold 29 = .ok (.getfield 27, 3) := by decide +kernel
theorem dX0_readingsHold_32 : decode cX0_readingsHold 32 = .ok (.iload_n 3, 1) := by decide +kernel
theorem dX0_readingsHold_33 : decode cX0_readingsHold 33 = .ok (.iaload, 1) := by decide +kernel
theorem dX0_readingsHold_34 : decode cX0_readingsHold 34 = .ok (.iload_n 1, 1) := by decide +kernel
theorem dX0_readingsHold_35 : decode cX0_readingsHold 35 = .ok (.invokestatic 58, 3) := by decide +kernel
theorem dX0_readingsHold_38 : decode cX0_readingsHold 38 = .ok (.ifCond .eq 9, 3) := by decide +kernel
theorem dX0_readingsHold_41 : decode cX0_readingsHold 41 = .ok (.iload 4, 2) := by decide +kernel
theorem dX0_readingsHold_43 : decode cX0_readingsHold 43 = .ok (.iload_n 2, 1) := by decide +kernel
theorem dX0_readingsHold_44 : decode cX0_readingsHold 44 = .ok (.iadd, 1) := by decide +kernel
theorem dX0_readingsHold_45 : decode cX0_readingsHold 45 = .ok (.istore 4, 2) := by decide +kernel
theorem dX0_readingsHold_47 : decode cX0_readingsHold 47 = .ok (.iload 4, 2) := by decide +kernel
theorem dX0_readingsHold_49 : decode cX0_readingsHold 49 = .ok (.aload_n 0, 1) := by decide +kernel
theorem dX0_readingsHold_50 : decode cX0_readingsHold 50 = .ok (.getfield 30, 3) := by decide +kernel
theorem dX0_readingsHold_53 : decode cX0_readingsHold 53 = .ok (.iload_n 3, 1) := by decide +kernel
theorem dX0_readingsHold_54 : decode cX0_readingsHold 54 = .ok (.iaload, 1) := by decide +kernel
theorem dX0_readingsHold_55 : decode cX0_readingsHold 55 = .ok (.if_icmp .eq 5, 3) := by decide +kernel
theorem dX0_readingsHold_58 : decode cX0_readingsHold 58 = .ok (.iconst 0, 1) := by decide +kernel
theorem dX0_readingsHold_59 : decode cX0_readingsHold 59 = .ok (.ireturn, 1) := by decide +kernel
theorem dX0_readingsHold_60 : decode cX0_readingsHold 60 = .ok (.iinc 3 1, 3) := by decide +kernel
theorem dX0_readingsHold_63 : decode cX0_readingsHold 63 = .ok (.goto (-61), 3) := by decide +kernel
theorem dX0_readingsHold_66 : decode cX0_readingsHold 66 = .ok (.iconst 1, 1) := by decide +kernel
theorem dX0_readingsHold_67 : decode cX0_readingsHold 67 = .ok (.ireturn, 1) := by decide +kernel
theorem dX1_init_0 : decode cX1_init 0 = .ok (.aload_n 0, 1) := by decide +kernel
theorem dX1_init_1 : decode cX1_init 1 = .ok (.invokespecial 3, 3) := by decide +kernel
theorem dX1_init_4 : decode cX1_init 4 = .ok (.aload_n 0, 1) := by decide +kernel
theorem dX1_init_5 : decode cX1_init 5 = .ok (.bipush 32, 2) := by decide +kernel
theorem dX1_init_7 : decode cX1_init 7 = .ok (.newarray .int, 2) := by decide +kernel
theorem dX1_init_9 : decode cX1_init 9 = .ok (.putfield 9, 3) := by decide +kernel
theorem dX1_init_12 : decode cX1_init 12 = .ok (.aload_n 0, 1) := by decide +kernel
theorem dX1_init_13 : decode cX1_init 13 = .ok (.bipush 64, 2) := by decide +kernel
theorem dX1_init_15 : decode cX1_init 15 = .ok (.newarray .int, 2) := by decide +kernel
theorem dX1_init_17 : decode cX1_init 17 = .ok (.putfield 15, 3) := by decide +kernel
theorem dX1_init_20 : decode cX1_init 20 = .ok (.return_, 1) := by decide +kernel
theorem dX1_weighOrders_0 : decode cX1_weighOrders 0 = .ok (.iconst 1, 1) := by decide +kernel
theorem dX1_weighOrders_1 : decode cX1_weighOrders 1 = .ok (.aload_n 1, 1) := by decide +kernel
theorem dX1_weighOrders_2 : decode cX1_weighOrders 2 = .ok (.getfield 18, 3) := by decide +kernel
theorem dX1_weighOrders_5 : decode cX1_weighOrders 5 = .ok (.ishl, 1) := by decide +kernel
theorem dX1_weighOrders_6 : decode cX1_weighOrders 6 = .ok (.iconst 1, 1) := by decide +kernel
theorem dX1_weighOrders_7 : decode cX1_weighOrders 7 = .ok (.isub, 1) := by decide +kernel
theorem dX1_weighOrders_8 : decode cX1_weighOrders 8 = .ok (.istore_n 2, 1) := by decide +kernel
theorem dX1_weighOrders_9 : decode cX1_weighOrders 9 = .ok (.iload_n 2, 1) := by decide +kernel
theorem dX1_weighOrders_10 : decode cX1_weighOrders 10 = .ok (.ifCond .lt 36, 3) := by decide +kernel
theorem dX1_weighOrders_13 : decode cX1_weighOrders 13 = .ok (.aload_n 1, 1) := by decide +kernel
theorem dX1_weighOrders_14 : decode cX1_weighOrders 14 = .ok (.iload_n 2, 1) := by decide +kernel
theorem dX1_weighOrders_15 : decode cX1_weighOrders 15 = .ok (.invokevirtual 24, 3) := by decide +kernel
theorem dX1_weighOrders_18 : decode cX1_weighOrders 18 = .ok (.istore_n 3, 1) := by decide +kernel
theorem dX1_weighOrders_19 : decode cX1_weighOrders 19 = .ok (.aload_n 0, 1) := by decide +kernel
theorem dX1_weighOrders_20 : decode cX1_weighOrders 20 = .ok (.getfield 9, 3) := by decide +kernel
theorem dX1_weighOrders_23 : decode cX1_weighOrders 23 = .ok (.iload_n 2, 1) := by decide +kernel
theorem dX1_weighOrders_24 : decode cX1_weighOrders 24 = .ok (.iload_n 3, 1) := by decide +kernel
theorem dX1_weighOrders_25 : decode cX1_weighOrders 25 = .ok (.ifCond .ne 7, 3) := by decide +kernel
theorem dX1_weighOrders_28 : decode cX1_weighOrders 28 = .ok (.iconst 0, 1) := by decide +kernel
theorem dX1_weighOrders_29 : decode cX1_weighOrders 29 = .ok (.goto 10, 3) := by decide +kernel
theorem dX1_weighOrders_32 : decode cX1_weighOrders 32 = .ok (.aload_n 0, 1) := by decide +kernel
theorem dX1_weighOrders_33 : decode cX1_weighOrders 33 = .ok (.aload_n 1, 1) := by decide +kernel
theorem dX1_weighOrders_34 : decode cX1_weighOrders 34 = .ok (.iload_n 2, 1) := by decide +kernel
theorem dX1_weighOrders_35 : decode cX1_weighOrders 35 = .ok (.iload_n 3, 1) := by decide +kernel
theorem dX1_weighOrders_36 : decode cX1_weighOrders 36 = .ok (.invokevirtual 28, 3) := by decide +kernel
theorem dX1_weighOrders_39 : decode cX1_weighOrders 39 = .ok (.iastore, 1) := by decide +kernel
theorem dX1_weighOrders_40 : decode cX1_weighOrders 40 = .ok (.iinc 2 (-1), 3) := by decide +kernel
theorem dX1_weighOrders_43 : decode cX1_weighOrders 43 = .ok (.goto (-34), 3) := by decide +kernel
theorem dX1_weighOrders_46 : decode cX1_weighOrders 46 = .ok (.return_, 1) := by decide +kernel
theorem dX1_fewestFrom_0 : decode cX1_fewestFrom 0 = .ok (.bipush (-9), 2) := by decide +kernel
theorem dX1_fewestFrom_2 : decode cX1_fewestFrom 2 = .ok (.istore 4, 2) := by decide +kernel
theorem dX1_fewestFrom_4 : decode cX1_fewestFrom 4 = .ok (.iconst 0, 1) := by decide +kernel
theorem dX1_fewestFrom_5 : decode cX1_fewestFrom 5 = .ok (.istore 5, 2) := by decide +kernel
theorem dX1_fewestFrom_7 : decode cX1_fewestFrom 7 = .ok (.iload 5, 2) := by decide +kernel
theorem dX1_fewestFrom_9 : decode cX1_fewestFrom 9 = .ok (.aload_n 1, 1) := by decide +kernel
theorem dX1_fewestFrom_10 : decode cX1_fewestFrom 10 = .ok (.getfield 18, 3) := by decide +kernel
theorem dX1_fewestFrom_13 : decode cX1_fewestFrom 13 = .ok (.if_icmp .ge 36, 3) := by decide +kernel
theorem dX1_fewestFrom_16 : decode cX1_fewestFrom 16 = .ok (.iload_n 2, 1) := by decide +kernel
theorem dX1_fewestFrom_17 : decode cX1_fewestFrom 17 = .ok (.iload 5, 2) := by decide +kernel
theorem dX1_fewestFrom_19 : decode cX1_fewestFrom 19 = .ok (.invokestatic 32, 3) := by decide +kernel
theorem dX1_fewestFrom_22 : decode cX1_fewestFrom 22 = .ok (.ifCond .ne 21, 3) := by decide +kernel
theorem dX1_fewestFrom_25 : decode cX1_fewestFrom 25 = .ok (.iload 4, 2) := by decide +kernel
theorem dX1_fewestFrom_27 : decode cX1_fewestFrom 27 = .ok (.aload_n 0, 1) := by decide +kernel
theorem dX1_fewestFrom_28 : decode cX1_fewestFrom 28 = .ok (.getfield 9, 3) := by decide +kernel
theorem dX1_fewestFrom_31 : decode cX1_fewestFrom 31 = .ok (.iload_n 2, 1) := by decide +kernel
theorem dX1_fewestFrom_32 : decode cX1_fewestFrom 32 = .ok (.iconst 1, 1) := by decide +kernel
theorem dX1_fewestFrom_33 : decode cX1_fewestFrom 33 = .ok (.iload 5, 2) := by decide +kernel
theorem dX1_fewestFrom_35 : decode cX1_fewestFrom 35 = .ok (.ishl, 1) := by decide +kernel
theorem dX1_fewestFrom_36 : decode cX1_fewestFrom 36 = .ok (.ior, 1) := by decide +kernel
theorem dX1_fewestFrom_37 : decode cX1_fewestFrom 37 = .ok (.iaload, 1) := by decide +kernel
theorem dX1_fewestFrom_38 : decode cX1_fewestFrom 38 = .ok (.invokestatic 36, 3) := by decide +kernel
theorem dX1_fewestFrom_41 : decode cX1_fewestFrom 41 = .ok (.istore 4, 2) := by decide +kernel
theorem dX1_fewestFrom_43 : decode cX1_fewestFrom 43 = .ok (.iinc 5 1, 3) := by decide +kernel
theorem dX1_fewestFrom_46 : decode cX1_fewestFrom 46 = .ok (.goto (-39), 3) := by decide +kernel
theorem dX1_fewestFrom_49 : decode cX1_fewestFrom 49 = .ok (.iload 4, 2) := by decide +kernel
theorem dX1_fewestFrom_51 : decode cX1_fewestFrom 51 = .ok (.bipush (-9), 2) := by decide +kernel
theorem dX1_fewestFrom_53 : decode cX1_fewestFrom 53 = .ok (.if_icmp .ne 8, 3) := by decide +kernel
theorem dX1_fewestFrom_56 : decode cX1_fewestFrom 56 = .ok (.bipush (-9), 2) := by decide +kernel
theorem dX1_fewestFrom_58 : decode cX1_fewestFrom 58 = .ok (.goto 11, 3) := by decide +kernel
theorem dX1_fewestFrom_61 : decode cX1_fewestFrom 61 = .ok (.iload 4, 2) := by decide +kernel
theorem dX1_fewestFrom_63 : decode cX1_fewestFrom 63 = .ok (.aload_n 1, 1) := by decide +kernel
theorem dX1_fewestFrom_64 : decode cX1_fewestFrom 64 = .ok (.iload_n 3, 1) := by decide +kernel
theorem dX1_fewestFrom_65 : decode cX1_fewestFrom 65 = .ok (.invokevirtual 40, 3) := by decide +kernel
theorem dX1_fewestFrom_68 : decode cX1_fewestFrom 68 = .ok (.iadd, 1) := by decide +kernel
theorem dX1_fewestFrom_69 : decode cX1_fewestFrom 69 = .ok (.ireturn, 1) := by decide +kernel
theorem dX1_fewer_0 : decode cX1_fewer 0 = .ok (.iload_n 0, 1) := by decide +kernel
theorem dX1_fewer_1 : decode cX1_fewer 1 = .ok (.bipush (-9), 2) := by decide +kernel
theorem dX1_fewer_3 : decode cX1_fewer 3 = .ok (.if_icmp .ne 5, 3) := by decide +kernel
theorem dX1_fewer_6 : decode cX1_fewer 6 = .ok (.iload_n 1, 1) := by decide +kernel
theorem dX1_fewer_7 : decode cX1_fewer 7 = .ok (.ireturn, 1) := by decide +kernel
theorem dX1_fewer_8 : decode cX1_fewer 8 = .ok (.iload_n 1, 1) := by decide +kernel
theorem dX1_fewer_9 : decode cX1_fewer 9 = .ok (.bipush (-9), 2) := by decide +kernel
theorem dX1_fewer_11 : decode cX1_fewer 11 = .ok (.if_icmp .ne 7, 3) := by decide +kernel
theorem dX1_fewer_14 : decode cX1_fewer 14 = .ok (.iload_n 0, 1) := by decide +kernel
theorem dX1_fewer_15 : decode cX1_fewer 15 = .ok (.goto 8, 3) := by decide +kernel
theorem dX1_fewer_18 : decode cX1_fewer 18 = .ok (.iload_n 0, 1) := by decide +kernel
theorem dX1_fewer_19 : decode cX1_fewer 19 = .ok (.iload_n 1, 1) := by decide +kernel
theorem dX1_fewer_20 : decode cX1_fewer 20 = .ok (.invokestatic 43, 3) := by decide +kernel
theorem dX1_fewer_23 : decode cX1_fewer 23 = .ok (.ireturn, 1) := by decide +kernel
theorem dX1_fewestByOrder_0 : decode cX1_fewestByOrder 0 = .ok (.aload_n 0, 1) := by decide +kernel
theorem dX1_fewestByOrder_1 : decode cX1_fewestByOrder 1 = .ok (.getfield 9, 3) := by decide +kernel
theorem dX1_fewestByOrder_4 : decode cX1_fewestByOrder 4 = .ok (.iconst 0, 1) := by decide +kernel
theorem dX1_fewestByOrder_5 : decode cX1_fewestByOrder 5 = .ok (.iaload, 1) := by decide +kernel
theorem dX1_fewestByOrder_6 : decode cX1_fewestByOrder 6 = .ok (.ireturn, 1) := by decide +kernel
theorem dX1_signOfOrder_0 : decode cX1_signOfOrder 0 = .ok (.iconst 0, 1) := by decide +kernel
theorem dX1_signOfOrder_1 : decode cX1_signOfOrder 1 = .ok (.istore_n 3, 1) := by decide +kernel
theorem dX1_signOfOrder_2 : decode cX1_signOfOrder 2 = .ok (.iconst 0, 1) := by decide +kernel
theorem dX1_signOfOrder_3 : decode cX1_signOfOrder 3 = .ok (.istore 4, 2) := by decide +kernel
theorem dX1_signOfOrder_5 : decode cX1_signOfOrder 5 = .ok (.iload 4, 2) := by decide +kernel
theorem dX1_signOfOrder_7 : decode cX1_signOfOrder 7 = .ok (.iload_n 2, 1) := by decide +kernel
theorem dX1_signOfOrder_8 : decode cX1_signOfOrder 8 = .ok (.if_icmp .ge 34, 3) := by decide +kernel
theorem dX1_signOfOrder_11 : decode cX1_signOfOrder 11 = .ok (.aload_n 0, 1) := by decide +kernel
theorem dX1_signOfOrder_12 : decode cX1_signOfOrder 12 = .ok (.aload_n 1, 1) := by decide +kernel
theorem dX1_signOfOrder_13 : decode cX1_signOfOrder 13 = .ok (.iload_n 3, 1) := by decide +kernel
theorem dX1_signOfOrder_14 : decode cX1_signOfOrder 14 = .ok (.invokevirtual 48, 3) := by decide +kernel
theorem dX1_signOfOrder_17 : decode cX1_signOfOrder 17 = .ok (.istore 5, 2) := by decide +kernel
theorem dX1_signOfOrder_19 : decode cX1_signOfOrder 19 = .ok (.iload 5, 2) := by decide +kernel
theorem dX1_signOfOrder_21 : decode cX1_signOfOrder 21 = .ok (.bipush (-9), 2) := by decide +kernel
theorem dX1_signOfOrder_23 : decode cX1_signOfOrder 23 = .ok (.if_icmp .ne 6, 3) := by decide +kernel
theorem dX1_signOfOrder_26 : decode cX1_signOfOrder 26 = .ok (.bipush (-9), 2) := by decide +kernel
theorem dX1_signOfOrder_28 : decode cX1_signOfOrder 28 = .ok (.ireturn, 1) := by decide +kernel
theorem dX1_signOfOrder_29 : decode cX1_signOfOrder 29 = .ok (.iload_n 3, 1) := by decide +kernel
theorem dX1_signOfOrder_30 : decode cX1_signOfOrder 30 = .ok (.iconst 1, 1) := by decide +kernel
theorem dX1_signOfOrder_31 : decode cX1_signOfOrder 31 = .ok (.iload 5, 2) := by decide +kernel
theorem dX1_signOfOrder_33 : decode cX1_signOfOrder 33 = .ok (.ishl, 1) := by decide +kernel
theorem dX1_signOfOrder_34 : decode cX1_signOfOrder 34 = .ok (.ior, 1) := by decide +kernel
theorem dX1_signOfOrder_35 : decode cX1_signOfOrder 35 = .ok (.istore_n 3, 1) := by decide +kernel
theorem dX1_signOfOrder_36 : decode cX1_signOfOrder 36 = .ok (.iinc 4 1, 3) := by decide +kernel
theorem dX1_signOfOrder_39 : decode cX1_signOfOrder 39 = .ok (.goto (-34), 3) := by decide +kernel
theorem dX1_signOfOrder_42 : decode cX1_signOfOrder 42 = .ok (.aload_n 0, 1) := by decide +kernel
theorem dX1_signOfOrder_43 : decode cX1_signOfOrder 43 = .ok (.aload_n 1, 1) := by decide +kernel
theorem dX1_signOfOrder_44 : decode cX1_signOfOrder 44 = .ok (.iload_n 3, 1) := by decide +kernel
theorem dX1_signOfOrder_45 : decode cX1_signOfOrder 45 = .ok (.invokevirtual 48, 3) := by decide +kernel
theorem dX1_signOfOrder_48 : decode cX1_signOfOrder 48 = .ok (.ireturn, 1) := by decide +kernel
theorem dX1_nextSign_0 : decode cX1_nextSign 0 = .ok (.aload_n 1, 1) := by decide +kernel
theorem dX1_nextSign_1 : decode cX1_nextSign 1 = .ok (.iload_n 2, 1) := by decide +kernel
theorem dX1_nextSign_2 : decode cX1_nextSign 2 = .ok (.invokevirtual 24, 3) := by decide +kernel
theorem dX1_nextSign_5 : decode cX1_nextSign 5 = .ok (.istore_n 3, 1) := by decide +kernel
theorem dX1_nextSign_6 : decode cX1_nextSign 6 = .ok (.aload_n 0, 1) := by decide +kernel
theorem dX1_nextSign_7 : decode cX1_nextSign 7 = .ok (.getfield 9, 3) := by decide +kernel
theorem dX1_nextSign_10 : decode cX1_nextSign 10 = .ok (.iload_n 2, 1) := by decide +kernel
theorem dX1_nextSign_11 : decode cX1_nextSign 11 = .ok (.iaload, 1) := by decide +kernel
theorem dX1_nextSign_12 : decode cX1_nextSign 12 = .ok (.bipush (-9), 2) := by decide +kernel
theorem dX1_nextSign_14 : decode cX1_nextSign 14 = .ok (.if_icmp .eq 7, 3) := by decide +kernel
theorem dX1_nextSign_17 : decode cX1_nextSign 17 = .ok (.iload_n 3, 1) := by decide +kernel
theorem dX1_nextSign_18 : decode cX1_nextSign 18 = .ok (.ifCond .ne 6, 3) := by decide +kernel
theorem dX1_nextSign_21 : decode cX1_nextSign 21 = .ok (.bipush (-9), 2) := by decide +kernel
theorem dX1_nextSign_23 : decode cX1_nextSign 23 = .ok (.ireturn, 1) := by decide +kernel
theorem dX1_nextSign_24 : decode cX1_nextSign 24 = .ok (.aload_n 0, 1) := by decide +kernel
theorem dX1_nextSign_25 : decode cX1_nextSign 25 = .ok (.getfield 9, 3) := by decide +kernel
theorem dX1_nextSign_28 : decode cX1_nextSign 28 = .ok (.iload_n 2, 1) := by decide +kernel
theorem dX1_nextSign_29 : decode cX1_nextSign 29 = .ok (.iaload, 1) := by decide +kernel
theorem dX1_nextSign_30 : decode cX1_nextSign 30 = .ok (.aload_n 1, 1) := by decide +kernel
theorem dX1_nextSign_31 : decode cX1_nextSign 31 = .ok (.iload_n 3, 1) := by decide +kernel
theorem dX1_nextSign_32 : decode cX1_nextSign 32 = .ok (.invokevirtual 40, 3) := by decide +kernel
theorem dX1_nextSign_35 : decode cX1_nextSign 35 = .ok (.isub, 1) := by decide +kernel
theorem dX1_nextSign_36 : decode cX1_nextSign 36 = .ok (.istore 4, 2) := by decide +kernel
theorem dX1_nextSign_38 : decode cX1_nextSign 38 = .ok (.iconst 0, 1) := by decide +kernel
theorem dX1_nextSign_39 : decode cX1_nextSign 39 = .ok (.istore 5, 2) := by decide +kernel
theorem dX1_nextSign_41 : decode cX1_nextSign 41 = .ok (.iload 5, 2) := by decide +kernel
theorem dX1_nextSign_43 : decode cX1_nextSign 43 = .ok (.aload_n 1, 1) := by decide +kernel
theorem dX1_nextSign_44 : decode cX1_nextSign 44 = .ok (.getfield 18, 3) := by decide +kernel
theorem dX1_nextSign_47 : decode cX1_nextSign 47 = .ok (.if_icmp .ge 37, 3) := by decide +kernel
theorem dX1_nextSign_50 : decode cX1_nextSign 50 = .ok (.iload_n 2, 1) := by decide +kernel
theorem dX1_nextSign_51 : decode cX1_nextSign 51 = .ok (.iload 5, 2) := by decide +kernel
theorem dX1_nextSign_53 : decode cX1_nextSign 53 = .ok (.invokestatic 32, 3) := by decide +kernel
theorem dX1_nextSign_56 : decode cX1_nextSign 56 = .ok (.ifCond .ne 22, 3) := by decide +kernel
theorem dX1_nextSign_59 : decode cX1_nextSign 59 = .ok (.aload_n 0, 1) := by decide +kernel
theorem dX1_nextSign_60 : decode cX1_nextSign 60 = .ok (.getfield 9, 3) := by decide +kernel
theorem dX1_nextSign_63 : decode cX1_nextSign 63 = .ok (.iload_n 2, 1) := by decide +kernel
theorem dX1_nextSign_64 : decode cX1_nextSign 64 = .ok (.iconst 1, 1) := by decide +kernel
theorem dX1_nextSign_65 : decode cX1_nextSign 65 = .ok (.iload 5, 2) := by decide +kernel
theorem dX1_nextSign_67 : decode cX1_nextSign 67 = .ok (.ishl, 1) := by decide +kernel
theorem dX1_nextSign_68 : decode cX1_nextSign 68 = .ok (.ior, 1) := by decide +kernel
theorem dX1_nextSign_69 : decode cX1_nextSign 69 = .ok (.iaload, 1) := by decide +kernel
theorem dX1_nextSign_70 : decode cX1_nextSign 70 = .ok (.iload 4, 2) := by decide +kernel
theorem dX1_nextSign_72 : decode cX1_nextSign 72 = .ok (.if_icmp .ne 6, 3) := by decide +kernel
theorem dX1_nextSign_75 : decode cX1_nextSign 75 = .ok (.iload 5, 2) := by decide +kernel
theorem dX1_nextSign_77 : decode cX1_nextSign 77 = .ok (.ireturn, 1) := by decide +kernel
theorem dX1_nextSign_78 : decode cX1_nextSign 78 = .ok (.iinc 5 1, 3) := by decide +kernel
theorem dX1_nextSign_81 : decode cX1_nextSign 81 = .ok (.goto (-40), 3) := by decide +kernel
theorem dX1_nextSign_84 : decode cX1_nextSign 84 = .ok (.bipush (-9), 2) := by decide +kernel
theorem dX1_nextSign_86 : decode cX1_nextSign 86 = .ok (.ireturn, 1) := by decide +kernel
theorem dX1_weighTrees_0 : decode cX1_weighTrees 0 = .ok (.iconst 0, 1) := by decide +kernel
theorem dX1_weighTrees_1 : decode cX1_weighTrees 1 = .ok (.istore_n 2, 1) := by decide +kernel
theorem dX1_weighTrees_2 : decode cX1_weighTrees 2 = .ok (.iload_n 2, 1) := by decide +kernel
theorem dX1_weighTrees_3 : decode cX1_weighTrees 3 = .ok (.aload_n 1, 1) := by decide +kernel
theorem dX1_weighTrees_4 : decode cX1_weighTrees 4 = .ok (.invokevirtual 52, 3) := by decide +kernel
theorem dX1_weighTrees_7 : decode cX1_weighTrees 7 = .ok (.if_icmp .gt 33, 3) := by decide +kernel
theorem dX1_weighTrees_10 : decode cX1_weighTrees 10 = .ok (.aload_n 0, 1) := by decide +kernel
theorem dX1_weighTrees_11 : decode cX1_weighTrees 11 = .ok (.getfield 15, 3) := by decide +kernel
theorem dX1_weighTrees_14 : decode cX1_weighTrees 14 = .ok (.iload_n 2, 1) := by decide +kernel
theorem dX1_weighTrees_15 : decode cX1_weighTrees 15 = .ok (.iload_n 2, 1) := by decide +kernel
theorem dX1_weighTrees_16 : decode cX1_weighTrees 16 = .ok (.invokestatic 56, 3) := by decide +kernel
theorem dX1_weighTrees_19 : decode cX1_weighTrees 19 = .ok (.iconst 2, 1) := by decide +kernel
theorem dX1_weighTrees_20 : decode cX1_weighTrees 20 = .ok (.if_icmp .ge 7, 3) := by decide +kernel
theorem dX1_weighTrees_23 : decode cX1_weighTrees 23 = .ok (.iconst 0, 1) := by decide +kernel
theorem dX1_weighTrees_24 : decode cX1_weighTrees 24 = .ok (.goto 9, 3) := by decide +kernel
theorem dX1_weighTrees_27 : decode cX1_weighTrees 27 = .ok (.aload_n 0, 1) := by decide +kernel
theorem dX1_weighTrees_28 : decode cX1_weighTrees 28 = .ok (.aload_n 1, 1) := by decide +kernel
theorem dX1_weighTrees_29 : decode cX1_weighTrees 29 = .ok (.iload_n 2, 1) := by decide +kernel
theorem dX1_weighTrees_30 : decode cX1_weighTrees 30 = .ok (.invokevirtual 61, 3) := by decide +kernel
theorem dX1_weighTrees_33 : decode cX1_weighTrees 33 = .ok (.iastore, 1) := by decide +kernel
theorem dX1_weighTrees_34 : decode cX1_weighTrees 34 = .ok (.iinc 2 1, 3) := by decide +kernel
theorem dX1_weighTrees_37 : decode cX1_weighTrees 37 = .ok (.goto (-35), 3) := by decide +kernel
theorem dX1_weighTrees_40 : decode cX1_weighTrees 40 = .ok (.return_, 1) := by decide +kernel
theorem dX1_fewestOf_0 : decode cX1_fewestOf 0 = .ok (.bipush (-9), 2) := by decide +kernel
theorem dX1_fewestOf_2 : decode cX1_fewestOf 2 = .ok (.istore_n 3, 1) := by decide +kernel
theorem dX1_fewestOf_3 : decode cX1_fewestOf 3 = .ok (.iconst 0, 1) := by decide +kernel
theorem dX1_fewestOf_4 : decode cX1_fewestOf 4 = .ok (.istore 4, 2) := by decide +kernel
theorem dX1_fewestOf_6 : decode cX1_fewestOf 6 = .ok (.iload 4, 2) := by decide +kernel
theorem dX1_fewestOf_8 : decode cX1_fewestOf 8 = .ok (.aload_n 1, 1) := by decide +kernel
theorem dX1_fewestOf_9 : decode cX1_fewestOf 9 = .ok (.getfield 18, 3) := by decide +kernel
theorem dX1_fewestOf_12 : decode cX1_fewestOf 12 = .ok (.if_icmp .ge 22, 3) := by decide +kernel
theorem dX1_fewestOf_15 : decode cX1_fewestOf 15 = .ok (.iload_n 3, 1) := by decide +kernel
theorem dX1_fewestOf_16 : decode cX1_fewestOf 16 = .ok (.aload_n 0, 1) := by decide +kernel
theorem dX1_fewestOf_17 : decode cX1_fewestOf 17 = .ok (.aload_n 1, 1) := by decide +kernel
theorem dX1_fewestOf_18 : decode cX1_fewestOf 18 = .ok (.iload_n 2, 1) := by decide +kernel
theorem dX1_fewestOf_19 : decode cX1_fewestOf 19 = .ok (.iload 4, 2) := by decide +kernel
theorem dX1_fewestOf_21 : decode cX1_fewestOf 21 = .ok (.invokevirtual 64, 3) := by decide +kernel
theorem dX1_fewestOf_24 : decode cX1_fewestOf 24 = .ok (.invokestatic 36, 3) := by decide +kernel
theorem dX1_fewestOf_27 : decode cX1_fewestOf 27 = .ok (.istore_n 3, 1) := by decide +kernel
theorem dX1_fewestOf_28 : decode cX1_fewestOf 28 = .ok (.iinc 4 1, 3) := by decide +kernel
theorem dX1_fewestOf_31 : decode cX1_fewestOf 31 = .ok (.goto (-25), 3) := by decide +kernel
theorem dX1_fewestOf_34 : decode cX1_fewestOf 34 = .ok (.iload_n 3, 1) := by decide +kernel
theorem dX1_fewestOf_35 : decode cX1_fewestOf 35 = .ok (.bipush (-9), 2) := by decide +kernel
theorem dX1_fewestOf_37 : decode cX1_fewestOf 37 = .ok (.if_icmp .ne 8, 3) := by decide +kernel
theorem dX1_fewestOf_40 : decode cX1_fewestOf 40 = .ok (.bipush (-9), 2) := by decide +kernel
theorem dX1_fewestOf_42 : decode cX1_fewestOf 42 = .ok (.goto 10, 3) := by decide +kernel
theorem dX1_fewestOf_45 : decode cX1_fewestOf 45 = .ok (.iload_n 3, 1) := by decide +kernel
theorem dX1_fewestOf_46 : decode cX1_fewestOf 46 = .ok (.aload_n 1, 1) := by decide +kernel
theorem dX1_fewestOf_47 : decode cX1_fewestOf 47 = .ok (.iload_n 2, 1) := by decide +kernel
theorem dX1_fewestOf_48 : decode cX1_fewestOf 48 = .ok (.invokevirtual 40, 3) := by decide +kernel
theorem dX1_fewestOf_51 : decode cX1_fewestOf 51 = .ok (.iadd, 1) := by decide +kernel
theorem dX1_fewestOf_52 : decode cX1_fewestOf 52 = .ok (.ireturn, 1) := by decide +kernel
theorem dX1_behindParting_0 : decode cX1_behindParting 0 = .ok (.iload_n 2, 1) := by decide +kernel
theorem dX1_behindParting_1 : decode cX1_behindParting 1 = .ok (.aload_n 1, 1) := by decide +kernel
theorem dX1_behindParting_2 : decode cX1_behindParting 2 = .ok (.getfield 67, 3) := by decide +kernel
theorem dX1_behindParting_5 : decode cX1_behindParting 5 = .ok (.iload_n 3, 1) := by decide +kernel
theorem dX1_behindParting_6 : decode cX1_behindParting 6 = .ok (.iaload, 1) := by decide +kernel
theorem dX1_behindParting_7 : decode cX1_behindParting 7 = .ok (.iand, 1) := by decide +kernel
theorem dX1_behindParting_8 : decode cX1_behindParting 8 = .ok (.istore 4, 2) := by decide +kernel
theorem dX1_behindParting_10 : decode cX1_behindParting 10 = .ok (.iload_n 2, 1) := by decide +kernel
theorem dX1_behindParting_11 : decode cX1_behindParting 11 = .ok (.aload_n 1, 1) := by decide +kernel
theorem dX1_behindParting_12 : decode cX1_behindParting 12 = .ok (.getfield 67, 3) := by decide +kernel
theorem dX1_behindParting_15 : decode cX1_behindParting 15 = .ok (.iload_n 3, 1) := by decide +kernel
theorem dX1_behindParting_16 : decode cX1_behindParting 16 = .ok (.iaload, 1) := by decide +kernel
theorem dX1_behindParting_17 : decode cX1_behindParting 17 = .ok (.iconst (-1), 1) := by decide +kernel
theorem dX1_behindParting_18 : decode cX1_behindParting 18 = .ok (.ixor, 1) := by decide +kernel
theorem dX1_behindParting_19 : decode cX1_behindParting 19 = .ok (.iand, 1) := by decide +kernel
theorem dX1_behindParting_20 : decode cX1_behindParting 20 = .ok (.istore 5, 2) := by decide +kernel
theorem dX1_behindParting_22 : decode cX1_behindParting 22 = .ok (.iload 4, 2) := by decide +kernel
theorem dX1_behindParting_24 : decode cX1_behindParting 24 = .ok (.ifCond .eq 32, 3) := by decide +kernel
theorem dX1_behindParting_27 : decode cX1_behindParting 27 = .ok (.iload 5, 2) := by decide +kernel
theorem dX1_behindParting_29 : decode cX1_behindParting 29 = .ok (.ifCond .eq 27, 3) := by decide +kernel
theorem dX1_behindParting_32 : decode cX1_behindParting 32 = .ok (.aload_n 0, 1) := by decide +kernel
theorem dX1_behindParting_33 : decode cX1_behindParting 33 = .ok (.getfield 15, 3) := by decide +kernel
theorem dX1_behindParting_36 : decode cX1_behindParting 36 = .ok (.iload 4, 2) := by decide +kernel
theorem dX1_behindParting_38 : decode cX1_behindParting 38 = .ok (.iaload, 1) := by decide +kernel
theorem dX1_behindParting_39 : decode cX1_behindParting 39 = .ok (.bipush (-9), 2) := by decide +kernel
theorem dX1_behindParting_41 : decode cX1_behindParting 41 = .ok (.if_icmp .eq 15, 3) := by decide +kernel
theorem dX1_behindParting_44 : decode cX1_behindParting 44 = .ok (.aload_n 0, 1) := by decide +kernel
theorem dX1_behindParting_45 : decode cX1_behindParting 45 = .ok (.getfield 15, 3) := by decide +kernel
theorem dX1_behindParting_48 : decode cX1_behindParting 48 = .ok (.iload 5, 2) := by decide +kernel
theorem dX1_behindParting_50 : decode cX1_behindParting 50 = .ok (.iaload, 1) := by decide +kernel
theorem dX1_behindParting_51 : decode cX1_behindParting 51 = .ok (.bipush (-9), 2) := by decide +kernel
theorem dX1_behindParting_53 : decode cX1_behindParting 53 = .ok (.if_icmp .ne 6, 3) := by decide +kernel
theorem dX1_behindParting_56 : decode cX1_behindParting 56 = .ok (.bipush (-9), 2) := by decide +kernel
theorem dX1_behindParting_58 : decode cX1_behindParting 58 = .ok (.ireturn, 1) := by decide +kernel
theorem dX1_behindParting_59 : decode cX1_behindParting 59 = .ok (.aload_n 0, 1) := by decide +kernel
theorem dX1_behindParting_60 : decode cX1_behindParting 60 = .ok (.getfield 15, 3) := by decide +kernel
theorem dX1_behindParting_63 : decode cX1_behindParting 63 = .ok (.iload 4, 2) := by decide +kernel
theorem dX1_behindParting_65 : decode cX1_behindParting 65 = .ok (.iaload, 1) := by decide +kernel
theorem dX1_behindParting_66 : decode cX1_behindParting 66 = .ok (.aload_n 0, 1) := by decide +kernel
theorem dX1_behindParting_67 : decode cX1_behindParting 67 = .ok (.getfield 15, 3) := by decide +kernel
theorem dX1_behindParting_70 : decode cX1_behindParting 70 = .ok (.iload 5, 2) := by decide +kernel
theorem dX1_behindParting_72 : decode cX1_behindParting 72 = .ok (.iaload, 1) := by decide +kernel
theorem dX1_behindParting_73 : decode cX1_behindParting 73 = .ok (.iadd, 1) := by decide +kernel
theorem dX1_behindParting_74 : decode cX1_behindParting 74 = .ok (.ireturn, 1) := by decide +kernel
theorem dX1_fewestByTree_0 : decode cX1_fewestByTree 0 = .ok (.aload_n 0, 1) := by decide +kernel
theorem dX1_fewestByTree_1 : decode cX1_fewestByTree 1 = .ok (.getfield 15, 3) := by decide +kernel
theorem dX1_fewestByTree_4 : decode cX1_fewestByTree 4 = .ok (.aload_n 1, 1) := by decide +kernel
theorem dX1_fewestByTree_5 : decode cX1_fewestByTree 5 = .ok (.invokevirtual 52, 3) := by decide +kernel
theorem dX1_fewestByTree_8 : decode cX1_fewestByTree 8 = .ok (.iaload, 1) := by decide +kernel
theorem dX1_fewestByTree_9 : decode cX1_fewestByTree 9 = .ok (.ireturn, 1) := by decide +kernel
theorem dX1_firstOfTree_0 : decode cX1_firstOfTree 0 = .ok (.aload_n 1, 1) := by decide +kernel
theorem dX1_firstOfTree_1 : decode cX1_firstOfTree 1 = .ok (.invokevirtual 52, 3) := by decide +kernel
theorem dX1_firstOfTree_4 : decode cX1_firstOfTree 4 = .ok (.istore_n 2, 1) := by decide +kernel
theorem dX1_firstOfTree_5 : decode cX1_firstOfTree 5 = .ok (.aload_n 0, 1) := by decide +kernel
theorem dX1_firstOfTree_6 : decode cX1_firstOfTree 6 = .ok (.getfield 15, 3) := by decide +kernel
theorem dX1_firstOfTree_9 : decode cX1_firstOfTree 9 = .ok (.iload_n 2, 1) := by decide +kernel
theorem dX1_firstOfTree_10 : decode cX1_firstOfTree 10 = .ok (.iaload, 1) := by decide +kernel
theorem dX1_firstOfTree_11 : decode cX1_firstOfTree 11 = .ok (.bipush (-9), 2) := by decide +kernel
theorem dX1_firstOfTree_13 : decode cX1_firstOfTree 13 = .ok (.if_icmp .ne 6, 3) := by decide +kernel
theorem dX1_firstOfTree_16 : decode cX1_firstOfTree 16 = .ok (.bipush (-9), 2) := by decide +kernel
theorem dX1_firstOfTree_18 : decode cX1_firstOfTree 18 = .ok (.ireturn, 1) := by decide +kernel
theorem dX1_firstOfTree_19 : decode cX1_firstOfTree 19 = .ok (.aload_n 0, 1) := by decide +kernel
theorem dX1_firstOfTree_20 : decode cX1_firstOfTree 20 = .ok (.getfield 15, 3) := by decide +kernel
theorem dX1_firstOfTree_23 : decode cX1_firstOfTree 23 = .ok (.iload_n 2, 1) := by decide +kernel
theorem dX1_firstOfTree_24 : decode cX1_firstOfTree 24 = .ok (.iaload, 1) := by decide +kernel
theorem dX1_firstOfTree_25 : decode cX1_firstOfTree 25 = .ok (.aload_n 1, 1) := by decide +kernel
theorem dX1_firstOfTree_26 : decode cX1_firstOfTree 26 = .ok (.iload_n 2, 1) := by decide +kernel
theorem dX1_firstOfTree_27 : decode cX1_firstOfTree 27 = .ok (.invokevirtual 40, 3) := by decide +kernel
theorem dX1_firstOfTree_30 : decode cX1_firstOfTree 30 = .ok (.isub, 1) := by decide +kernel
theorem dX1_firstOfTree_31 : decode cX1_firstOfTree 31 = .ok (.istore_n 3, 1) := by decide +kernel
theorem dX1_firstOfTree_32 : decode cX1_firstOfTree 32 = .ok (.iconst 0, 1) := by decide +kernel
theorem dX1_firstOfTree_33 : decode cX1_firstOfTree 33 = .ok (.istore 4, 2) := by decide +kernel
theorem dX1_firstOfTree_35 : decode cX1_firstOfTree 35 = .ok (.iload 4, 2) := by decide +kernel
theorem dX1_firstOfTree_37 : decode cX1_firstOfTree 37 = .ok (.aload_n 1, 1) := by decide +kernel
theorem dX1_firstOfTree_38 : decode cX1_firstOfTree 38 = .ok (.getfield 18, 3) := by decide +kernel
theorem dX1_firstOfTree_41 : decode cX1_firstOfTree 41 = .ok (.if_icmp .ge 24, 3) := by decide +kernel
theorem dX1_firstOfTree_44 : decode cX1_firstOfTree 44 = .ok (.aload_n 0, 1) := by decide +kernel
theorem dX1_firstOfTree_45 : decode cX1_firstOfTree 45 = .ok (.aload_n 1, 1) := by decide +kernel
theorem dX1_firstOfTree_46 : decode cX1_firstOfTree 46 = .ok (.iload_n 2, 1) := by decide +kernel
theorem dX1_firstOfTree_47 : decode cX1_firstOfTree 47 = .ok (.iload 4, 2) := by decide +kernel
theorem dX1_firstOfTree_49 : decode cX1_firstOfTree 49 = .ok (.invokevirtual 64, 3) := by decide +kernel
theorem dX1_firstOfTree_52 : decode cX1_firstOfTree 52 = .ok (.iload_n 3, 1) := by decide +kernel
theorem dX1_firstOfTree_53 : decode cX1_firstOfTree 53 = .ok (.if_icmp .ne 6, 3) := by decide +kernel
theorem dX1_firstOfTree_56 : decode cX1_firstOfTree 56 = .ok (.iload 4, 2) := by decide +kernel
theorem dX1_firstOfTree_58 : decode cX1_firstOfTree 58 = .ok (.ireturn, 1) := by decide +kernel
theorem dX1_firstOfTree_59 : decode cX1_firstOfTree 59 = .ok (.iinc 4 1, 3) := by decide +kernel
theorem dX1_firstOfTree_62 : decode cX1_firstOfTree 62 = .ok (.goto (-27), 3) := by decide +kernel
theorem dX1_firstOfTree_65 : decode cX1_firstOfTree 65 = .ok (.bipush (-9), 2) := by decide +kernel
theorem dX1_firstOfTree_67 : decode cX1_firstOfTree 67 = .ok (.ireturn, 1) := by decide +kernel
theorem dX2_init_0 : decode cX2_init 0 = .ok (.aload_n 0, 1) := by decide +kernel
theorem dX2_init_1 : decode cX2_init 1 = .ok (.invokespecial 3, 3) := by decide +kernel
theorem dX2_init_4 : decode cX2_init 4 = .ok (.aload_n 0, 1) := by decide +kernel
theorem dX2_init_5 : decode cX2_init 5 = .ok (.sipush 240, 3) := by decide +kernel
theorem dX2_init_8 : decode cX2_init 8 = .ok (.newarray .int, 2) := by decide +kernel
theorem dX2_init_10 : decode cX2_init 10 = .ok (.putfield 9, 3) := by decide +kernel
theorem dX2_init_13 : decode cX2_init 13 = .ok (.aload_n 0, 1) := by decide +kernel
theorem dX2_init_14 : decode cX2_init 14 = .ok (.iconst 4, 1) := by decide +kernel
theorem dX2_init_15 : decode cX2_init 15 = .ok (.newarray .int, 2) := by decide +kernel
theorem dX2_init_17 : decode cX2_init 17 = .ok (.putfield 15, 3) := by decide +kernel
theorem dX2_init_20 : decode cX2_init 20 = .ok (.aload_n 0, 1) := by decide +kernel
theorem dX2_init_21 : decode cX2_init 21 = .ok (.iconst 4, 1) := by decide +kernel
theorem dX2_init_22 : decode cX2_init 22 = .ok (.newarray .int, 2) := by decide +kernel
theorem dX2_init_24 : decode cX2_init 24 = .ok (.putfield 18, 3) := by decide +kernel
theorem dX2_init_27 : decode cX2_init 27 = .ok (.iconst 0, 1) := by decide +kernel
theorem dX2_init_28 : decode cX2_init 28 = .ok (.istore_n 1, 1) := by decide +kernel
theorem dX2_init_29 : decode cX2_init 29 = .ok (.iload_n 1, 1) := by decide +kernel
theorem dX2_init_30 : decode cX2_init 30 = .ok (.iconst 4, 1) := by decide +kernel
theorem dX2_init_31 : decode cX2_init 31 = .ok (.if_icmp .ge 17, 3) := by decide +kernel
theorem dX2_init_34 : decode cX2_init 34 = .ok (.aload_n 0, 1) := by decide +kernel
theorem dX2_init_35 : decode cX2_init 35 = .ok (.getfield 18, 3) := by decide +kernel
theorem dX2_init_38 : decode cX2_init 38 = .ok (.iload_n 1, 1) := by decide +kernel
theorem dX2_init_39 : decode cX2_init 39 = .ok (.bipush (-9), 2) := by decide +kernel
theorem dX2_init_41 : decode cX2_init 41 = .ok (.iastore, 1) := by decide +kernel
theorem dX2_init_42 : decode cX2_init 42 = .ok (.iinc 1 1, 3) := by decide +kernel
theorem dX2_init_45 : decode cX2_init 45 = .ok (.goto (-16), 3) := by decide +kernel
theorem dX2_init_48 : decode cX2_init 48 = .ok (.return_, 1) := by decide +kernel
theorem dX2_isSheet_0 : decode cX2_isSheet 0 = .ok (.iload_n 0, 1) := by decide +kernel
theorem dX2_isSheet_1 : decode cX2_isSheet 1 = .ok (.ifCond .lt 12, 3) := by decide +kernel
theorem dX2_isSheet_4 : decode cX2_isSheet 4 = .ok (.iload_n 0, 1) := by decide +kernel
theorem dX2_isSheet_5 : decode cX2_isSheet 5 = .ok (.iconst 4, 1) := by decide +kernel
theorem dX2_isSheet_6 : decode cX2_isSheet 6 = .ok (.if_icmp .ge 7, 3) := by decide +kernel
theorem dX2_isSheet_9 : decode cX2_isSheet 9 = .ok (.iconst 1, 1) := by decide +kernel
theorem dX2_isSheet_10 : decode cX2_isSheet 10 = .ok (.goto 4, 3) := by decide +kernel
theorem dX2_isSheet_13 : decode cX2_isSheet 13 = .ok (.iconst 0, 1) := by decide +kernel
theorem dX2_isSheet_14 : decode cX2_isSheet 14 = .ok (.ireturn, 1) := by decide +kernel
theorem dX2_isLane_0 : decode cX2_isLane 0 = .ok (.iload_n 0, 1) := by decide +kernel
theorem dX2_isLane_1 : decode cX2_isLane 1 = .ok (.ifCond .lt 12, 3) := by decide +kernel
theorem dX2_isLane_4 : decode cX2_isLane 4 = .ok (.iload_n 0, 1) := by decide +kernel
theorem dX2_isLane_5 : decode cX2_isLane 5 = .ok (.iconst 3, 1) := by decide +kernel
theorem dX2_isLane_6 : decode cX2_isLane 6 = .ok (.if_icmp .ge 7, 3) := by decide +kernel
theorem dX2_isLane_9 : decode cX2_isLane 9 = .ok (.iconst 1, 1) := by decide +kernel
theorem dX2_isLane_10 : decode cX2_isLane 10 = .ok (.goto 4, 3) := by decide +kernel
theorem dX2_isLane_13 : decode cX2_isLane 13 = .ok (.iconst 0, 1) := by decide +kernel
theorem dX2_isLane_14 : decode cX2_isLane 14 = .ok (.ireturn, 1) := by decide +kernel
theorem dX2_isEmpty_0 : decode cX2_isEmpty 0 = .ok (.aload_n 0, 1) := by decide +kernel
theorem dX2_isEmpty_1 : decode cX2_isEmpty 1 = .ok (.getfield 18, 3) := by decide +kernel
theorem dX2_isEmpty_4 : decode cX2_isEmpty 4 = .ok (.iload_n 1, 1) := by decide +kernel
theorem dX2_isEmpty_5 : decode cX2_isEmpty 5 = .ok (.iaload, 1) := by decide +kernel
theorem dX2_isEmpty_6 : decode cX2_isEmpty 6 = .ok (.bipush (-9), 2) := by decide +kernel
theorem dX2_isEmpty_8 : decode cX2_isEmpty 8 = .ok (.if_icmp .ne 7, 3) := by decide +kernel
theorem dX2_isEmpty_11 : decode cX2_isEmpty 11 = .ok (.iconst 1, 1) := by decide +kernel
theorem dX2_isEmpty_12 : decode cX2_isEmpty 12 = .ok (.goto 4, 3) := by decide +kernel
theorem dX2_isEmpty_15 : decode cX2_isEmpty 15 = .ok (.iconst 0, 1) := by decide +kernel
theorem dX2_isEmpty_16 : decode cX2_isEmpty 16 = .ok (.ireturn, 1) := by decide +kernel
theorem dX2_faultAsRow_0 : decode cX2_faultAsRow 0 = .ok (.aload_n 0, 1) := by decide +kernel
theorem dX2_faultAsRow_1 : decode cX2_faultAsRow 1 = .ok (.iload_n 1, 1) := by decide +kernel
theorem dX2_faultAsRow_2 : decode cX2_faultAsRow 2 = .ok (.invokevirtual 21, 3) := by decide +kernel
theorem dX2_faultAsRow_5 : decode cX2_faultAsRow 5 = .ok (.ifCond .eq 5, 3) := by decide +kernel
theorem dX2_faultAsRow_8 : decode cX2_faultAsRow 8 = .ok (.iconst 1, 1) := by decide +kernel
theorem dX2_faultAsRow_9 : decode cX2_faultAsRow 9 = .ok (.ireturn, 1) := by decide +kernel
theorem dX2_faultAsRow_10 : decode cX2_faultAsRow 10 = .ok (.aload_n 0, 1) := by decide +kernel
theorem dX2_faultAsRow_11 : decode cX2_faultAsRow 11 = .ok (.getfield 15, 3) := by decide +kernel
theorem dX2_faultAsRow_14 : decode cX2_faultAsRow 14 = .ok (.iload_n 1, 1) := by decide +kernel
theorem dX2_faultAsRow_15 : decode cX2_faultAsRow 15 = .ok (.iaload, 1) := by decide +kernel
theorem dX2_faultAsRow_16 : decode cX2_faultAsRow 16 = .ok (.iload_n 2, 1) := by decide +kernel
theorem dX2_faultAsRow_17 : decode cX2_faultAsRow 17 = .ok (.if_icmp .ne 7, 3) := by decide +kernel
theorem dX2_faultAsRow_20 : decode cX2_faultAsRow 20 = .ok (.iconst 0, 1) := by decide +kernel
theorem dX2_faultAsRow_21 : decode cX2_faultAsRow 21 = .ok (.goto 4, 3) := by decide +kernel
theorem dX2_faultAsRow_24 : decode cX2_faultAsRow 24 = .ok (.iconst 2, 1) := by decide +kernel
theorem dX2_faultAsRow_25 : decode cX2_faultAsRow 25 = .ok (.ireturn, 1) := by decide +kernel
theorem dX2_faultOfPair_0 : decode cX2_faultOfPair 0 = .ok (.aload_n 0, 1) := by decide +kernel
theorem dX2_faultOfPair_1 : decode cX2_faultOfPair 1 = .ok (.iload_n 1, 1) := by decide +kernel
theorem dX2_faultOfPair_2 : decode cX2_faultOfPair 2 = .ok (.invokevirtual 21, 3) := by decide +kernel
theorem dX2_faultOfPair_5 : decode cX2_faultOfPair 5 = .ok (.ifCond .ne 11, 3) := by decide +kernel
theorem dX2_faultOfPair_8 : decode cX2_faultOfPair 8 = .ok (.aload_n 0, 1) := by decide +kernel
theorem dX2_faultOfPair_9 : decode cX2_faultOfPair 9 = .ok (.iload_n 2, 1) := by decide +kernel
theorem dX2_faultOfPair_10 : decode cX2_faultOfPair 10 = .ok (.invokevirtual 21, 3) := by decide +kernel
theorem dX2_faultOfPair_13 : decode cX2_faultOfPair 13 = .ok (.ifCond .eq 5, 3) := by decide +kernel
theorem dX2_faultOfPair_16 : decode cX2_faultOfPair 16 = .ok (.iconst 1, 1) := by decide +kernel
theorem dX2_faultOfPair_17 : decode cX2_faultOfPair 17 = .ok (.ireturn, 1) := by decide +kernel
theorem dX2_faultOfPair_18 : decode cX2_faultOfPair 18 = .ok (.aload_n 0, 1) := by decide +kernel
theorem dX2_faultOfPair_19 : decode cX2_faultOfPair 19 = .ok (.getfield 15, 3) := by decide +kernel
theorem dX2_faultOfPair_22 : decode cX2_faultOfPair 22 = .ok (.iload_n 1, 1) := by decide +kernel
theorem dX2_faultOfPair_23 : decode cX2_faultOfPair 23 = .ok (.iaload, 1) := by decide +kernel
theorem dX2_faultOfPair_24 : decode cX2_faultOfPair 24 = .ok (.aload_n 0, 1) := by decide +kernel
theorem dX2_faultOfPair_25 : decode cX2_faultOfPair 25 = .ok (.getfield 15, 3) := by decide +kernel
theorem dX2_faultOfPair_28 : decode cX2_faultOfPair 28 = .ok (.iload_n 2, 1) := by decide +kernel
theorem dX2_faultOfPair_29 : decode cX2_faultOfPair 29 = .ok (.iaload, 1) := by decide +kernel
theorem dX2_faultOfPair_30 : decode cX2_faultOfPair 30 = .ok (.if_icmp .ne 7, 3) := by decide +kernel
theorem dX2_faultOfPair_33 : decode cX2_faultOfPair 33 = .ok (.iconst 0, 1) := by decide +kernel
theorem dX2_faultOfPair_34 : decode cX2_faultOfPair 34 = .ok (.goto 4, 3) := by decide +kernel
theorem dX2_faultOfPair_37 : decode cX2_faultOfPair 37 = .ok (.iconst 2, 1) := by decide +kernel
theorem dX2_faultOfPair_38 : decode cX2_faultOfPair 38 = .ok (.ireturn, 1) := by decide +kernel
theorem dX2_faultOfCell_0 : decode cX2_faultOfCell 0 = .ok (.aload_n 0, 1) := by decide +kernel
theorem dX2_faultOfCell_1 : decode cX2_faultOfCell 1 = .ok (.iload_n 1, 1) := by decide +kernel
theorem dX2_faultOfCell_2 : decode cX2_faultOfCell 2 = .ok (.invokevirtual 21, 3) := by decide +kernel
theorem dX2_faultOfCell_5 : decode cX2_faultOfCell 5 = .ok (.ifCond .eq 5, 3) := by decide +kernel
theorem dX2_faultOfCell_8 : decode cX2_faultOfCell 8 = .ok (.iconst 1, 1) := by decide +kernel
theorem dX2_faultOfCell_9 : decode cX2_faultOfCell 9 = .ok (.ireturn, 1) := by decide +kernel
theorem dX2_faultOfCell_10 : decode cX2_faultOfCell 10 = .ok (.iload_n 2, 1) := by decide +kernel
theorem dX2_faultOfCell_11 : decode cX2_faultOfCell 11 = .ok (.ifCond .lt 17, 3) := by decide +kernel
theorem dX2_faultOfCell_14 : decode cX2_faultOfCell 14 = .ok (.iload_n 2, 1) := by decide +kernel
theorem dX2_faultOfCell_15 : decode cX2_faultOfCell 15 = .ok (.aload_n 0, 1) := by decide +kernel
theorem dX2_faultOfCell_16 : decode cX2_faultOfCell 16 = .ok (.getfield 18, 3) := by decide +kernel
theorem dX2_faultOfCell_19 : decode cX2_faultOfCell 19 = .ok (.iload_n 1, 1) := by decide +kernel
theorem dX2_faultOfCell_20 : decode cX2_faultOfCell 20 = .ok (.iaload, 1) := by decide +kernel
theorem dX2_faultOfCell_21 : decode cX2_faultOfCell 21 = .ok (.if_icmp .ge 7, 3) := by decide +kernel
theorem dX2_faultOfCell_24 : decode cX2_faultOfCell 24 = .ok (.iconst 0, 1) := by decide +kernel
theorem dX2_faultOfCell_25 : decode cX2_faultOfCell 25 = .ok (.goto 4, 3) := by decide +kernel
theorem dX2_faultOfCell_28 : decode cX2_faultOfCell 28 = .ok (.iconst 3, 1) := by decide +kernel
theorem dX2_faultOfCell_29 : decode cX2_faultOfCell 29 = .ok (.ireturn, 1) := by decide +kernel
theorem dX2_faultOfSpan_0 : decode cX2_faultOfSpan 0 = .ok (.iload_n 2, 1) := by decide +kernel
theorem dX2_faultOfSpan_1 : decode cX2_faultOfSpan 1 = .ok (.ifCond .lt 33, 3) := by decide +kernel
theorem dX2_faultOfSpan_4 : decode cX2_faultOfSpan 4 = .ok (.iload_n 2, 1) := by decide +kernel
theorem dX2_faultOfSpan_5 : decode cX2_faultOfSpan 5 = .ok (.aload_n 0, 1) := by decide +kernel
theorem dX2_faultOfSpan_6 : decode cX2_faultOfSpan 6 = .ok (.getfield 18, 3) := by decide +kernel
theorem dX2_faultOfSpan_9 : decode cX2_faultOfSpan 9 = .ok (.iload_n 1, 1) := by decide +kernel
theorem dX2_faultOfSpan_10 : decode cX2_faultOfSpan 10 = .ok (.iaload, 1) := by decide +kernel
theorem dX2_faultOfSpan_11 : decode cX2_faultOfSpan 11 = .ok (.if_icmp .gt 23, 3) := by decide +kernel
theorem dX2_faultOfSpan_14 : decode cX2_faultOfSpan 14 = .ok (.iload_n 3, 1) := by decide +kernel
theorem dX2_faultOfSpan_15 : decode cX2_faultOfSpan 15 = .ok (.ifCond .lt 19, 3) := by decide +kernel
theorem dX2_faultOfSpan_18 : decode cX2_faultOfSpan 18 = .ok (.iload_n 3, 1) := by decide +kernel
theorem dX2_faultOfSpan_19 : decode cX2_faultOfSpan 19 = .ok (.aload_n 0, 1) := by decide +kernel
theorem dX2_faultOfSpan_20 : decode cX2_faultOfSpan 20 = .ok (.getfield 18, 3) := by decide +kernel
theorem dX2_faultOfSpan_23 : decode cX2_faultOfSpan 23 = .ok (.iload_n 1, 1) := by decide +kernel
theorem dX2_faultOfSpan_24 : decode cX2_faultOfSpan 24 = .ok (.iaload, 1) := by decide +kernel
theorem dX2_faultOfSpan_25 : decode cX2_faultOfSpan 25 = .ok (.iload_n 2, 1) := by decide +kernel
theorem dX2_faultOfSpan_26 : decode cX2_faultOfSpan 26 = .ok (.isub, 1) := by decide +kernel
theorem dX2_faultOfSpan_27 : decode cX2_faultOfSpan 27 = .ok (.if_icmp .gt 7, 3) := by decide +kernel
theorem dX2_faultOfSpan_30 : decode cX2_faultOfSpan 30 = .ok (.iconst 1, 1) := by decide +kernel
theorem dX2_faultOfSpan_31 : decode cX2_faultOfSpan 31 = .ok (.goto 4, 3) := by decide +kernel
theorem dX2_faultOfSpan_34 : decode cX2_faultOfSpan 34 = .ok (.iconst 0, 1) := by decide +kernel
theorem dX2_faultOfSpan_35 : decode cX2_faultOfSpan 35 = .ok (.istore 4, 2) := by decide +kernel
theorem dX2_faultOfSpan_37 : decode cX2_faultOfSpan 37 = .ok (.iload 4, 2) := by decide +kernel
theorem dX2_faultOfSpan_39 : decode cX2_faultOfSpan 39 = .ok (.ifCond .eq 7, 3) := by decide +kernel
theorem dX2_faultOfSpan_42 : decode cX2_faultOfSpan 42 = .ok (.iconst 0, 1) := by decide +kernel
theorem dX2_faultOfSpan_43 : decode cX2_faultOfSpan 43 = .ok (.goto 4, 3) := by decide +kernel
theorem dX2_faultOfSpan_46 : decode cX2_faultOfSpan 46 = .ok (.iconst 3, 1) := by decide +kernel
theorem dX2_faultOfSpan_47 : decode cX2_faultOfSpan 47 = .ok (.ireturn, 1) := by decide +kernel
theorem dX2_renew_0 : decode cX2_renew 0 = .ok (.aload_n 0, 1) := by decide +kernel
theorem dX2_renew_1 : decode cX2_renew 1 = .ok (.getfield 15, 3) := by decide +kernel
theorem dX2_renew_4 : decode cX2_renew 4 = .ok (.iload_n 1, 1) := by decide +kernel
theorem dX2_renew_5 : decode cX2_renew 5 = .ok (.iload_n 2, 1) := by decide +kernel
theorem dX2_renew_6 : decode cX2_renew 6 = .ok (.iastore, 1) := by decide +kernel
theorem dX2_renew_7 : decode cX2_renew 7 = .ok (.aload_n 0, 1) := by decide +kernel
theorem dX2_renew_8 : decode cX2_renew 8 = .ok (.getfield 18, 3) := by decide +kernel
theorem dX2_renew_11 : decode cX2_renew 11 = .ok (.iload_n 1, 1) := by decide +kernel
theorem dX2_renew_12 : decode cX2_renew 12 = .ok (.iload_n 3, 1) := by decide +kernel
theorem dX2_renew_13 : decode cX2_renew 13 = .ok (.iastore, 1) := by decide +kernel
theorem dX2_renew_14 : decode cX2_renew 14 = .ok (.iconst 0, 1) := by decide +kernel
theorem dX2_renew_15 : decode cX2_renew 15 = .ok (.istore 4, 2) := by decide +kernel
theorem dX2_renew_17 : decode cX2_renew 17 = .ok (.iload 4, 2) := by decide +kernel
theorem dX2_renew_19 : decode cX2_renew 19 = .ok (.iload_n 3, 1) := by decide +kernel
theorem dX2_renew_20 : decode cX2_renew 20 = .ok (.if_icmp .ge 22, 3) := by decide +kernel
theorem dX2_renew_23 : decode cX2_renew 23 = .ok (.aload_n 0, 1) := by decide +kernel
theorem dX2_renew_24 : decode cX2_renew 24 = .ok (.getfield 9, 3) := by decide +kernel
theorem dX2_renew_27 : decode cX2_renew 27 = .ok (.iload_n 1, 1) := by decide +kernel
theorem dX2_renew_28 : decode cX2_renew 28 = .ok (.bipush 60, 2) := by decide +kernel
theorem dX2_renew_30 : decode cX2_renew 30 = .ok (.imul, 1) := by decide +kernel
theorem dX2_renew_31 : decode cX2_renew 31 = .ok (.iload 4, 2) := by decide +kernel
theorem dX2_renew_33 : decode cX2_renew 33 = .ok (.iadd, 1) := by decide +kernel
theorem dX2_renew_34 : decode cX2_renew 34 = .ok (.iconst 0, 1) := by decide +kernel
theorem dX2_renew_35 : decode cX2_renew 35 = .ok (.iastore, 1) := by decide +kernel
theorem dX2_renew_36 : decode cX2_renew 36 = .ok (.iinc 4 1, 3) := by decide +kernel
theorem dX2_renew_39 : decode cX2_renew 39 = .ok (.goto (-22), 3) := by decide +kernel
theorem dX2_renew_42 : decode cX2_renew 42 = .ok (.return_, 1) := by decide +kernel
theorem dX2_clear_0 : decode cX2_clear 0 = .ok (.aload_n 0, 1) := by decide +kernel
theorem dX2_clear_1 : decode cX2_clear 1 = .ok (.iload_n 1, 1) := by decide +kernel
theorem dX2_clear_2 : decode cX2_clear 2 = .ok (.invokevirtual 21, 3) := by decide +kernel
theorem dX2_clear_5 : decode cX2_clear 5 = .ok (.ifCond .ne 7, 3) := by decide +kernel
theorem dX2_clear_8 : decode cX2_clear 8 = .ok (.iconst 1, 1) := by decide +kernel
theorem dX2_clear_9 : decode cX2_clear 9 = .ok (.goto 4, 3) := by decide +kernel
theorem dX2_clear_12 : decode cX2_clear 12 = .ok (.iconst 0, 1) := by decide +kernel
theorem dX2_clear_13 : decode cX2_clear 13 = .ok (.istore_n 2, 1) := by decide +kernel
theorem dX2_clear_14 : decode cX2_clear 14 = .ok (.aload_n 0, 1) := by decide +kernel
theorem dX2_clear_15 : decode cX2_clear 15 = .ok (.getfield 18, 3) := by decide +kernel
theorem dX2_clear_18 : decode cX2_clear 18 = .ok (.iload_n 1, 1) := by decide +kernel
theorem dX2_clear_19 : decode cX2_clear 19 = .ok (.bipush (-9), 2) := by decide +kernel
theorem dX2_clear_21 : decode cX2_clear 21 = .ok (.iastore, 1) := by decide +kernel
theorem dX2_clear_22 : decode cX2_clear 22 = .ok (.iload_n 2, 1) := by decide +kernel
theorem dX2_clear_23 : decode cX2_clear 23 = .ok (.ireturn, 1) := by decide +kernel
theorem dX2_read_0 : decode cX2_read 0 = .ok (.aload_n 0, 1) := by decide +kernel
theorem dX2_read_1 : decode cX2_read 1 = .ok (.getfield 9, 3) := by decide +kernel
theorem dX2_read_4 : decode cX2_read 4 = .ok (.iload_n 1, 1) := by decide +kernel
theorem dX2_read_5 : decode cX2_read 5 = .ok (.bipush 60, 2) := by decide +kernel
theorem dX2_read_7 : decode cX2_read 7 = .ok (.imul, 1) := by decide +kernel
theorem dX2_read_8 : decode cX2_read 8 = .ok (.iload_n 2, 1) := by decide +kernel
theorem dX2_read_9 : decode cX2_read 9 = .ok (.iadd, 1) := by decide +kernel
theorem dX2_read_10 : decode cX2_read 10 = .ok (.iaload, 1) := by decide +kernel
theorem dX2_read_11 : decode cX2_read 11 = .ok (.ireturn, 1) := by decide +kernel
theorem dX2_write_0 : decode cX2_write 0 = .ok (.aload_n 0, 1) := by decide +kernel
theorem dX2_write_1 : decode cX2_write 1 = .ok (.getfield 9, 3) := by decide +kernel
theorem dX2_write_4 : decode cX2_write 4 = .ok (.iload_n 1, 1) := by decide +kernel
theorem dX2_write_5 : decode cX2_write 5 = .ok (.bipush 60, 2) := by decide +kernel
theorem dX2_write_7 : decode cX2_write 7 = .ok (.imul, 1) := by decide +kernel
theorem dX2_write_8 : decode cX2_write 8 = .ok (.iload_n 2, 1) := by decide +kernel
theorem dX2_write_9 : decode cX2_write 9 = .ok (.iadd, 1) := by decide +kernel
theorem dX2_write_10 : decode cX2_write 10 = .ok (.iload_n 3, 1) := by decide +kernel
theorem dX2_write_11 : decode cX2_write 11 = .ok (.aload_n 0, 1) := by decide +kernel
theorem dX2_write_12 : decode cX2_write 12 = .ok (.getfield 15, 3) := by decide +kernel
theorem dX2_write_15 : decode cX2_write 15 = .ok (.iload_n 1, 1) := by decide +kernel
theorem dX2_write_16 : decode cX2_write 16 = .ok (.iaload, 1) := by decide +kernel
theorem dX2_write_17 : decode cX2_write 17 = .ok (.invokestatic 25, 3) := by decide +kernel
theorem dX2_write_20 : decode cX2_write 20 = .ok (.iastore, 1) := by decide +kernel
theorem dX2_write_21 : decode cX2_write 21 = .ok (.return_, 1) := by decide +kernel
theorem dX2_cut_0 : decode cX2_cut 0 = .ok (.iload_n 1, 1) := by decide +kernel
theorem dX2_cut_1 : decode cX2_cut 1 = .ok (.lookupswitch 33 #[(0, 27), (1, 30)], 27) := by decide +kernel
theorem dX2_cut_28 : decode cX2_cut 28 = .ok (.iload_n 0, 1) := by decide +kernel
theorem dX2_cut_29 : decode cX2_cut 29 = .ok (.i2b, 1) := by decide +kernel
theorem dX2_cut_30 : decode cX2_cut 30 = .ok (.ireturn, 1) := by decide +kernel
theorem dX2_cut_31 : decode cX2_cut 31 = .ok (.iload_n 0, 1) := by decide +kernel
theorem dX2_cut_32 : decode cX2_cut 32 = .ok (.i2s, 1) := by decide +kernel
theorem dX2_cut_33 : decode cX2_cut 33 = .ok (.ireturn, 1) := by decide +kernel
theorem dX2_cut_34 : decode cX2_cut 34 = .ok (.iload_n 0, 1) := by decide +kernel
theorem dX2_cut_35 : decode cX2_cut 35 = .ok (.ireturn, 1) := by decide +kernel
theorem dX2_move_0 : decode cX2_move 0 = .ok (.aload_n 0, 1) := by decide +kernel
theorem dX2_move_1 : decode cX2_move 1 = .ok (.getfield 9, 3) := by decide +kernel
theorem dX2_move_4 : decode cX2_move 4 = .ok (.iload_n 1, 1) := by decide +kernel
theorem dX2_move_5 : decode cX2_move 5 = .ok (.bipush 60, 2) := by decide +kernel
theorem dX2_move_7 : decode cX2_move 7 = .ok (.imul, 1) := by decide +kernel
theorem dX2_move_8 : decode cX2_move 8 = .ok (.iload_n 2, 1) := by decide +kernel
theorem dX2_move_9 : decode cX2_move 9 = .ok (.iadd, 1) := by decide +kernel
theorem dX2_move_10 : decode cX2_move 10 = .ok (.aload_n 0, 1) := by decide +kernel
theorem dX2_move_11 : decode cX2_move 11 = .ok (.getfield 9, 3) := by decide +kernel
theorem dX2_move_14 : decode cX2_move 14 = .ok (.iload_n 3, 1) := by decide +kernel
theorem dX2_move_15 : decode cX2_move 15 = .ok (.bipush 60, 2) := by decide +kernel
theorem dX2_move_17 : decode cX2_move 17 = .ok (.imul, 1) := by decide +kernel
theorem dX2_move_18 : decode cX2_move 18 = .ok (.iload 4, 2) := by decide +kernel
theorem dX2_move_20 : decode cX2_move 20 = .ok (.iadd, 1) := by decide +kernel
theorem dX2_move_21 : decode cX2_move 21 = .ok (.iload 5, 2) := by decide +kernel
theorem dX2_move_23 : decode cX2_move 23 = .ok (.invokestatic 29, 3) := by decide +kernel
theorem dX2_move_26 : decode cX2_move 26 = .ok (.return_, 1) := by decide +kernel
theorem dX2_take_0 : decode cX2_take 0 = .ok (.aload_n 0, 1) := by decide +kernel
theorem dX2_take_1 : decode cX2_take 1 = .ok (.getfield 9, 3) := by decide +kernel
theorem dX2_take_4 : decode cX2_take 4 = .ok (.iload_n 1, 1) := by decide +kernel
theorem dX2_take_5 : decode cX2_take 5 = .ok (.bipush 60, 2) := by decide +kernel
theorem dX2_take_7 : decode cX2_take 7 = .ok (.imul, 1) := by decide +kernel
theorem dX2_take_8 : decode cX2_take 8 = .ok (.iload_n 2, 1) := by decide +kernel
theorem dX2_take_9 : decode cX2_take 9 = .ok (.iadd, 1) := by decide +kernel
theorem dX2_take_10 : decode cX2_take 10 = .ok (.aload 4, 2) := by decide +kernel
theorem dX2_take_12 : decode cX2_take 12 = .ok (.iconst 0, 1) := by decide +kernel
theorem dX2_take_13 : decode cX2_take 13 = .ok (.iload_n 3, 1) := by decide +kernel
theorem dX2_take_14 : decode cX2_take 14 = .ok (.invokestatic 29, 3) := by decide +kernel
theorem dX2_take_17 : decode cX2_take 17 = .ok (.return_, 1) := by decide +kernel
theorem dX3_init_0 : decode cX3_init 0 = .ok (.aload_n 0, 1) := by decide +kernel
theorem dX3_init_1 : decode cX3_init 1 = .ok (.invokespecial 3, 3) := by decide +kernel
theorem dX3_init_4 : decode cX3_init 4 = .ok (.aload_n 0, 1) := by decide +kernel
theorem dX3_init_5 : decode cX3_init 5 = .ok (.bipush 60, 2) := by decide +kernel
theorem dX3_init_7 : decode cX3_init 7 = .ok (.newarray .int, 2) := by decide +kernel
theorem dX3_init_9 : decode cX3_init 9 = .ok (.putfield 9, 3) := by decide +kernel
theorem dX3_init_12 : decode cX3_init 12 = .ok (.return_, 1) := by decide +kernel
theorem dX3_firstFault_0 : decode cX3_firstFault 0 = .ok (.aload_n 0, 1) := by decide +kernel
theorem dX3_firstFault_1 : decode cX3_firstFault 1 = .ok (.iload_n 1, 1) := by decide +kernel
theorem dX3_firstFault_2 : decode cX3_firstFault 2 = .ok (.putfield 15, 3) := by decide +kernel
theorem dX3_firstFault_5 : decode cX3_firstFault 5 = .ok (.aload_n 0, 1) := by decide +kernel
theorem dX3_firstFault_6 : decode cX3_firstFault 6 = .ok (.iconst 0, 1) := by decide +kernel
theorem dX3_firstFault_7 : decode cX3_firstFault 7 = .ok (.putfield 19, 3) := by decide +kernel
theorem dX3_firstFault_10 : decode cX3_firstFault 10 = .ok (.aload_n 0, 1) := by decide +kernel
theorem dX3_firstFault_11 : decode cX3_firstFault 11 = .ok (.iconst 0, 1) := by decide +kernel
theorem dX3_firstFault_12 : decode cX3_firstFault 12 = .ok (.putfield 22, 3) := by decide +kernel
theorem dX3_firstFault_15 : decode cX3_firstFault 15 = .ok (.aload_n 0, 1) := by decide +kernel
theorem dX3_firstFault_16 : decode cX3_firstFault 16 = .ok (.iconst 0, 1) := by decide +kernel
theorem dX3_firstFault_17 : decode cX3_firstFault 17 = .ok (.putfield 25, 3) := by decide +kernel
theorem dX3_firstFault_20 : decode cX3_firstFault 20 = .ok (.aload_n 0, 1) := by decide +kernel
theorem dX3_firstFault_21 : decode cX3_firstFault 21 = .ok (.bipush 116, 2) := by decide +kernel
theorem dX3_firstFault_23 : decode cX3_firstFault 23 = .ok (.bipush 116, 2) := by decide +kernel
theorem dX3_firstFault_25 : decode cX3_firstFault 25 = .ok (.invokevirtual 28, 3) := by decide +kernel
theorem dX3_firstFault_28 : decode cX3_firstFault 28 = .ok (.ifCond .eq 28, 3) := by decide +kernel
theorem dX3_firstFault_31 : decode cX3_firstFault 31 = .ok (.aload_n 0, 1) := by decide +kernel
theorem dX3_firstFault_32 : decode cX3_firstFault 32 = .ok (.invokevirtual 32, 3) := by decide +kernel
theorem dX3_firstFault_35 : decode cX3_firstFault 35 = .ok (.ifCond .eq 21, 3) := by decide +kernel
theorem dX3_firstFault_38 : decode cX3_firstFault 38 = .ok (.aload_n 0, 1) := by decide +kernel
theorem dX3_firstFault_39 : decode cX3_firstFault 39 = .ok (.invokevirtual 36, 3) := by decide +kernel
theorem dX3_firstFault_42 : decode cX3_firstFault 42 = .ok (.ifCond .eq 14, 3) := by decide +kernel
theorem dX3_firstFault_45 : decode cX3_firstFault 45 = .ok (.aload_n 0, 1) := by decide +kernel
theorem dX3_firstFault_46 : decode cX3_firstFault 46 = .ok (.getfield 19, 3) := by decide +kernel
theorem dX3_firstFault_49 : decode cX3_firstFault 49 = .ok (.aload_n 0, 1) := by decide +kernel
theorem dX3_firstFault_50 : decode cX3_firstFault 50 = .ok (.getfield 15, 3) := by decide +kernel
theorem dX3_firstFault_53 : decode cX3_firstFault 53 = .ok (.if_icmp .ge 8, 3) := by decide +kernel
theorem dX3_firstFault_56 : decode cX3_firstFault 56 = .ok (.aload_n 0, 1) := by decide +kernel
theorem dX3_firstFault_57 : decode cX3_firstFault 57 = .ok (.getfield 19, 3) := by decide +kernel
theorem dX3_firstFault_60 : decode cX3_firstFault 60 = .ok (.ireturn, 1) := by decide +kernel
theorem dX3_firstFault_61 : decode cX3_firstFault 61 = .ok (.bipush (-9), 2) := by decide +kernel
theorem dX3_firstFault_63 : decode cX3_firstFault 63 = .ok (.ireturn, 1) := by decide +kernel
theorem dX3_passes_0 : decode cX3_passes 0 = .ok (.aload_n 0, 1) := by decide +kernel
theorem dX3_passes_1 : decode cX3_passes 1 = .ok (.iload_n 1, 1) := by decide +kernel
theorem dX3_passes_2 : decode cX3_passes 2 = .ok (.iload_n 2, 1) := by decide +kernel
theorem dX3_passes_3 : decode cX3_passes 3 = .ok (.invokevirtual 39, 3) := by decide +kernel
theorem dX3_passes_6 : decode cX3_passes 6 = .ok (.ifCond .ne 5, 3) := by decide +kernel
theorem dX3_passes_9 : decode cX3_passes 9 = .ok (.iconst 0, 1) := by decide +kernel
theorem dX3_passes_10 : decode cX3_passes 10 = .ok (.ireturn, 1) := by decide +kernel
theorem dX3_passes_11 : decode cX3_passes 11 = .ok (.aload_n 0, 1) := by decide +kernel
theorem dX3_passes_12 : decode cX3_passes 12 = .ok (.dup, 1) := by decide +kernel
theorem dX3_passes_13 : decode cX3_passes 13 = .ok (.getfield 19, 3) := by decide +kernel
theorem dX3_passes_16 : decode cX3_passes 16 = .ok (.iconst 1, 1) := by decide +kernel
theorem dX3_passes_17 : decode cX3_passes 17 = .ok (.iadd, 1) := by decide +kernel
theorem dX3_passes_18 : decode cX3_passes 18 = .ok (.putfield 19, 3) := by decide +kernel
theorem dX3_passes_21 : decode cX3_passes 21 = .ok (.iconst 1, 1) := by decide +kernel
theorem dX3_passes_22 : decode cX3_passes 22 = .ok (.ireturn, 1) := by decide +kernel
theorem dX3_isNext_0 : decode cX3_isNext 0 = .ok (.aload_n 0, 1) := by decide +kernel
theorem dX3_isNext_1 : decode cX3_isNext 1 = .ok (.getfield 19, 3) := by decide +kernel
theorem dX3_isNext_4 : decode cX3_isNext 4 = .ok (.aload_n 0, 1) := by decide +kernel
theorem dX3_isNext_5 : decode cX3_isNext 5 = .ok (.getfield 15, 3) := by decide +kernel
theorem dX3_isNext_8 : decode cX3_isNext 8 = .ok (.if_icmp .ge 33, 3) := by decide +kernel
theorem dX3_isNext_11 : decode cX3_isNext 11 = .ok (.aload_n 0, 1) := by decide +kernel
theorem dX3_isNext_12 : decode cX3_isNext 12 = .ok (.getfield 9, 3) := by decide +kernel
theorem dX3_isNext_15 : decode cX3_isNext 15 = .ok (.aload_n 0, 1) := by decide +kernel
theorem dX3_isNext_16 : decode cX3_isNext 16 = .ok (.getfield 19, 3) := by decide +kernel
theorem dX3_isNext_19 : decode cX3_isNext 19 = .ok (.iaload, 1) := by decide +kernel
theorem dX3_isNext_20 : decode cX3_isNext 20 = .ok (.iload_n 1, 1) := by decide +kernel
theorem dX3_isNext_21 : decode cX3_isNext 21 = .ok (.if_icmp .lt 20, 3) := by decide +kernel
theorem dX3_isNext_24 : decode cX3_isNext 24 = .ok (.aload_n 0, 1) := by decide +kernel
theorem dX3_isNext_25 : decode cX3_isNext 25 = .ok (.getfield 9, 3) := by decide +kernel
theorem dX3_isNext_28 : decode cX3_isNext 28 = .ok (.aload_n 0, 1) := by decide +kernel
theorem dX3_isNext_29 : decode cX3_isNext 29 = .ok (.getfield 19, 3) := by decide +kernel
theorem dX3_isNext_32 : decode cX3_isNext 32 = .ok (.iaload, 1) := by decide +kernel
theorem dX3_isNext_33 : decode cX3_isNext 33 = .ok (.iload_n 2, 1) := by decide +kernel
theorem dX3_isNext_34 : decode cX3_isNext 34 = .ok (.if_icmp .gt 7, 3) := by decide +kernel
theorem dX3_isNext_37 : decode cX3_isNext 37 = .ok (.iconst 1, 1) := by decide +kernel
theorem dX3_isNext_38 : decode cX3_isNext 38 = .ok (.goto 4, 3) := by decide +kernel
theorem dX3_isNext_41 : decode cX3_isNext 41 = .ok (.iconst 0, 1) := by decide +kernel
theorem dX3_isNext_42 : decode cX3_isNext 42 = .ok (.ireturn, 1) := by decide +kernel
theorem dX3_passesSorts_0 : decode cX3_passesSorts 0 = .ok (.aload_n 0, 1) := by decide +kernel
theorem dX3_passesSorts_1 : decode cX3_passesSorts 1 = .ok (.getfield 22, 3) := by decide +kernel
theorem dX3_passesSorts_4 : decode cX3_passesSorts 4 = .ok (.bipush 6, 2) := by decide +kernel
theorem dX3_passesSorts_6 : decode cX3_passesSorts 6 = .ok (.if_icmp .ge 36, 3) := by decide +kernel
theorem dX3_passesSorts_9 : decode cX3_passesSorts 9 = .ok (.aload_n 0, 1) := by decide +kernel
theorem dX3_passesSorts_10 : decode cX3_passesSorts 10 = .ok (.bipush 59, 2) := by decide +kernel
theorem dX3_passesSorts_12 : decode cX3_passesSorts 12 = .ok (.bipush 59, 2) := by decide +kernel
theorem dX3_passesSorts_14 : decode cX3_passesSorts 14 = .ok (.invokevirtual 39, 3) := by decide +kernel
theorem dX3_passesSorts_17 : decode cX3_passesSorts 17 = .ok (.ifCond .eq 25, 3) := by decide +kernel
theorem dX3_passesSorts_20 : decode cX3_passesSorts 20 = .ok (.aload_n 0, 1) := by decide +kernel
theorem dX3_passesSorts_21 : decode cX3_passesSorts 21 = .ok (.invokevirtual 42, 3) := by decide +kernel
theorem dX3_passesSorts_24 : decode cX3_passesSorts 24 = .ok (.ifCond .ne 5, 3) := by decide +kernel
theorem dX3_passesSorts_27 : decode cX3_passesSorts 27 = .ok (.iconst 0, 1) := by decide +kernel
theorem dX3_passesSorts_28 : decode cX3_passesSorts 28 = .ok (.ireturn, 1) := by decide +kernel
theorem dX3_passesSorts_29 : decode cX3_passesSorts 29 = .ok (.aload_n 0, 1) := by decide +kernel
theorem dX3_passesSorts_30 : decode cX3_passesSorts 30 = .ok (.dup, 1) := by decide +kernel
theorem dX3_passesSorts_31 : decode cX3_passesSorts 31 = .ok (.getfield 22, 3) := by decide +kernel
theorem dX3_passesSorts_34 : decode cX3_passesSorts 34 = .ok (.iconst 1, 1) := by decide +kernel
theorem dX3_passesSorts_35 : decode cX3_passesSorts 35 = .ok (.iadd, 1) := by decide +kernel
theorem dX3_passesSorts_36 : decode cX3_passesSorts 36 = .ok (.putfield 22, 3) := by decide +kernel
theorem dX3_passesSorts_39 : decode cX3_passesSorts 39 = .ok (.goto (-39), 3) := by decide +kernel
theorem dX3_passesSorts_42 : decode cX3_passesSorts 42 = .ok (.aload_n 0, 1) := by decide +kernel
theorem dX3_passesSorts_43 : decode cX3_passesSorts 43 = .ok (.getfield 22, 3) := by decide +kernel
theorem dX3_passesSorts_46 : decode cX3_passesSorts 46 = .ok (.iconst 2, 1) := by decide +kernel
theorem dX3_passesSorts_47 : decode cX3_passesSorts 47 = .ok (.if_icmp .lt 7, 3) := by decide +kernel
theorem dX3_passesSorts_50 : decode cX3_passesSorts 50 = .ok (.iconst 1, 1) := by decide +kernel
theorem dX3_passesSorts_51 : decode cX3_passesSorts 51 = .ok (.goto 4, 3) := by decide +kernel
theorem dX3_passesSorts_54 : decode cX3_passesSorts 54 = .ok (.iconst 0, 1) := by decide +kernel
theorem dX3_passesSorts_55 : decode cX3_passesSorts 55 = .ok (.ireturn, 1) := by decide +kernel
theorem dX3_passesSort_0 : decode cX3_passesSort 0 = .ok (.aload_n 0, 1) := by decide +kernel
theorem dX3_passesSort_1 : decode cX3_passesSort 1 = .ok (.bipush 59, 2) := by decide +kernel
theorem dX3_passesSort_3 : decode cX3_passesSort 3 = .ok (.bipush 59, 2) := by decide +kernel
theorem dX3_passesSort_5 : decode cX3_passesSort 5 = .ok (.invokevirtual 28, 3) := by decide +kernel
theorem dX3_passesSort_8 : decode cX3_passesSort 8 = .ok (.ifCond .eq 47, 3) := by decide +kernel
theorem dX3_passesSort_11 : decode cX3_passesSort 11 = .ok (.aload_n 0, 1) := by decide +kernel
theorem dX3_passesSort_12 : decode cX3_passesSort 12 = .ok (.invokevirtual 45, 3) := by decide +kernel
theorem dX3_passesSort_15 : decode cX3_passesSort 15 = .ok (.ifCond .eq 40, 3) := by decide +kernel
theorem dX3_passesSort_18 : decode cX3_passesSort 18 = .ok (.aload_n 0, 1) := by decide +kernel
theorem dX3_passesSort_19 : decode cX3_passesSort 19 = .ok (.bipush 48, 2) := by decide +kernel
theorem dX3_passesSort_21 : decode cX3_passesSort 21 = .ok (.bipush 57, 2) := by decide +kernel
theorem dX3_passesSort_23 : decode cX3_passesSort 23 = .ok (.invokevirtual 28, 3) := by decide +kernel
theorem dX3_passesSort_26 : decode cX3_passesSort 26 = .ok (.ifCond .eq 29, 3) := by decide +kernel
theorem dX3_passesSort_29 : decode cX3_passesSort 29 = .ok (.aload_n 0, 1) := by decide +kernel
theorem dX3_passesSort_30 : decode cX3_passesSort 30 = .ok (.bipush 49, 2) := by decide +kernel
theorem dX3_passesSort_32 : decode cX3_passesSort 32 = .ok (.bipush 57, 2) := by decide +kernel
theorem dX3_passesSort_34 : decode cX3_passesSort 34 = .ok (.invokevirtual 28, 3) := by decide +kernel
theorem dX3_passesSort_37 : decode cX3_passesSort 37 = .ok (.ifCond .eq 18, 3) := by decide +kernel
theorem dX3_passesSort_40 : decode cX3_passesSort 40 = .ok (.aload_n 0, 1) := by decide +kernel
theorem dX3_passesSort_41 : decode cX3_passesSort 41 = .ok (.bipush 48, 2) := by decide +kernel
theorem dX3_passesSort_43 : decode cX3_passesSort 43 = .ok (.bipush 53, 2) := by decide +kernel
theorem dX3_passesSort_45 : decode cX3_passesSort 45 = .ok (.invokevirtual 28, 3) := by decide +kernel
theorem dX3_passesSort_48 : decode cX3_passesSort 48 = .ok (.ifCond .eq 7, 3) := by decide +kernel
theorem dX3_passesSort_51 : decode cX3_passesSort 51 = .ok (.iconst 1, 1) := by decide +kernel
theorem dX3_passesSort_52 : decode cX3_passesSort 52 = .ok (.goto 4, 3) := by decide +kernel
theorem dX3_passesSort_55 : decode cX3_passesSort 55 = .ok (.iconst 0, 1) := by decide +kernel
theorem dX3_passesSort_56 : decode cX3_passesSort 56 = .ok (.ireturn, 1) := by decide +kernel
theorem dX3_passesKind_0 : decode cX3_passesKind 0 = .ok (.aload_n 0, 1) := by decide +kernel
theorem dX3_passesKind_1 : decode cX3_passesKind 1 = .ok (.bipush 112, 2) := by decide +kernel
theorem dX3_passesKind_3 : decode cX3_passesKind 3 = .ok (.bipush 112, 2) := by decide +kernel
theorem dX3_passesKind_5 : decode cX3_passesKind 5 = .ok (.invokevirtual 28, 3) := by decide +kernel
theorem dX3_passesKind_8 : decode cX3_passesKind 8 = .ok (.ifCond .ne 25, 3) := by decide +kernel
theorem dX3_passesKind_11 : decode cX3_passesKind 11 = .ok (.aload_n 0, 1) := by decide +kernel
theorem dX3_passesKind_12 : decode cX3_passesKind 12 = .ok (.bipush 115, 2) := by decide +kernel
theorem dX3_passesKind_14 : decode cX3_passesKind 14 = .ok (.bipush 115, 2) := by decide +kernel
theorem dX3_passesKind_16 : decode cX3_passesKind 16 = .ok (.invokevirtual 28, 3) := by decide +kernel
theorem dX3_passesKind_19 : decode cX3_passesKind 19 = .ok (.ifCond .ne 14, 3) := by decide +kernel
theorem dX3_passesKind_22 : decode cX3_passesKind 22 = .ok (.aload_n 0, 1) := by decide +kernel
theorem dX3_passesKind_23 : decode cX3_passesKind 23 = .ok (.bipush 100, 2) := by decide +kernel
theorem dX3_passesKind_25 : decode cX3_passesKind 25 = .ok (.bipush 100, 2) := by decide +kernel
theorem dX3_passesKind_27 : decode cX3_passesKind 27 = .ok (.invokevirtual 28, 3) := by decide +kernel
theorem dX3_passesKind_30 : decode cX3_passesKind 30 = .ok (.ifCond .eq 7, 3) := by decide +kernel
theorem dX3_passesKind_33 : decode cX3_passesKind 33 = .ok (.iconst 1, 1) := by decide +kernel
theorem dX3_passesKind_34 : decode cX3_passesKind 34 = .ok (.goto 4, 3) := by decide +kernel
theorem dX3_passesKind_37 : decode cX3_passesKind 37 = .ok (.iconst 0, 1) := by decide +kernel
theorem dX3_passesKind_38 : decode cX3_passesKind 38 = .ok (.ireturn, 1) := by decide +kernel
theorem dX3_passesSigns_0 : decode cX3_passesSigns 0 = .ok (.aload_n 0, 1) := by decide +kernel
theorem dX3_passesSigns_1 : decode cX3_passesSigns 1 = .ok (.getfield 25, 3) := by decide +kernel
theorem dX3_passesSigns_4 : decode cX3_passesSigns 4 = .ok (.iconst 5, 1) := by decide +kernel
theorem dX3_passesSigns_5 : decode cX3_passesSigns 5 = .ok (.if_icmp .ge 36, 3) := by decide +kernel
theorem dX3_passesSigns_8 : decode cX3_passesSigns 8 = .ok (.aload_n 0, 1) := by decide +kernel
theorem dX3_passesSigns_9 : decode cX3_passesSigns 9 = .ok (.bipush 47, 2) := by decide +kernel
theorem dX3_passesSigns_11 : decode cX3_passesSigns 11 = .ok (.bipush 47, 2) := by decide +kernel
theorem dX3_passesSigns_13 : decode cX3_passesSigns 13 = .ok (.invokevirtual 39, 3) := by decide +kernel
theorem dX3_passesSigns_16 : decode cX3_passesSigns 16 = .ok (.ifCond .eq 25, 3) := by decide +kernel
theorem dX3_passesSigns_19 : decode cX3_passesSigns 19 = .ok (.aload_n 0, 1) := by decide +kernel
theorem dX3_passesSigns_20 : decode cX3_passesSigns 20 = .ok (.invokevirtual 48, 3) := by decide +kernel
theorem dX3_passesSigns_23 : decode cX3_passesSigns 23 = .ok (.ifCond .ne 5, 3) := by decide +kernel
theorem dX3_passesSigns_26 : decode cX3_passesSigns 26 = .ok (.iconst 0, 1) := by decide +kernel
theorem dX3_passesSigns_27 : decode cX3_passesSigns 27 = .ok (.ireturn, 1) := by decide +kernel
theorem dX3_passesSigns_28 : decode cX3_passesSigns 28 = .ok (.aload_n 0, 1) := by decide +kernel
theorem dX3_passesSigns_29 : decode cX3_passesSigns 29 = .ok (.dup, 1) := by decide +kernel
theorem dX3_passesSigns_30 : decode cX3_passesSigns 30 = .ok (.getfield 25, 3) := by decide +kernel
theorem dX3_passesSigns_33 : decode cX3_passesSigns 33 = .ok (.iconst 1, 1) := by decide +kernel
theorem dX3_passesSigns_34 : decode cX3_passesSigns 34 = .ok (.iadd, 1) := by decide +kernel
theorem dX3_passesSigns_35 : decode cX3_passesSigns 35 = .ok (.putfield 25, 3) := by decide +kernel
theorem dX3_passesSigns_38 : decode cX3_passesSigns 38 = .ok (.goto (-38), 3) := by decide +kernel
theorem dX3_passesSigns_41 : decode cX3_passesSigns 41 = .ok (.aload_n 0, 1) := by decide +kernel
theorem dX3_passesSigns_42 : decode cX3_passesSigns 42 = .ok (.getfield 25, 3) := by decide +kernel
theorem dX3_passesSigns_45 : decode cX3_passesSigns 45 = .ok (.iconst 1, 1) := by decide +kernel
theorem dX3_passesSigns_46 : decode cX3_passesSigns 46 = .ok (.if_icmp .lt 7, 3) := by decide +kernel
theorem dX3_passesSigns_49 : decode cX3_passesSigns 49 = .ok (.iconst 1, 1) := by decide +kernel
theorem dX3_passesSigns_50 : decode cX3_passesSigns 50 = .ok (.goto 4, 3) := by decide +kernel
theorem dX3_passesSigns_53 : decode cX3_passesSigns 53 = .ok (.iconst 0, 1) := by decide +kernel
theorem dX3_passesSigns_54 : decode cX3_passesSigns 54 = .ok (.ireturn, 1) := by decide +kernel
theorem dX3_passesSign_0 : decode cX3_passesSign 0 = .ok (.aload_n 0, 1) := by decide +kernel
theorem dX3_passesSign_1 : decode cX3_passesSign 1 = .ok (.bipush 47, 2) := by decide +kernel
theorem dX3_passesSign_3 : decode cX3_passesSign 3 = .ok (.bipush 47, 2) := by decide +kernel
theorem dX3_passesSign_5 : decode cX3_passesSign 5 = .ok (.invokevirtual 28, 3) := by decide +kernel
theorem dX3_passesSign_8 : decode cX3_passesSign 8 = .ok (.ifCond .ne 5, 3) := by decide +kernel
theorem dX3_passesSign_11 : decode cX3_passesSign 11 = .ok (.iconst 0, 1) := by decide +kernel
theorem dX3_passesSign_12 : decode cX3_passesSign 12 = .ok (.ireturn, 1) := by decide +kernel
theorem dX3_passesSign_13 : decode cX3_passesSign 13 = .ok (.aload_n 0, 1) := by decide +kernel
theorem dX3_passesSign_14 : decode cX3_passesSign 14 = .ok (.bipush 54, 2) := by decide +kernel
theorem dX3_passesSign_16 : decode cX3_passesSign 16 = .ok (.bipush 54, 2) := by decide +kernel
theorem dX3_passesSign_18 : decode cX3_passesSign 18 = .ok (.invokevirtual 39, 3) := by decide +kernel
theorem dX3_passesSign_21 : decode cX3_passesSign 21 = .ok (.ifCond .eq 8, 3) := by decide +kernel
theorem dX3_passesSign_24 : decode cX3_passesSign 24 = .ok (.bipush 51, 2) := by decide +kernel
theorem dX3_passesSign_26 : decode cX3_passesSign 26 = .ok (.goto 5, 3) := by decide +kernel
theorem dX3_passesSign_29 : decode cX3_passesSign 29 = .ok (.bipush 57, 2) := by decide +kernel
theorem dX3_passesSign_31 : decode cX3_passesSign 31 = .ok (.istore_n 1, 1) := by decide +kernel
theorem dX3_passesSign_32 : decode cX3_passesSign 32 = .ok (.aload_n 0, 1) := by decide +kernel
theorem dX3_passesSign_33 : decode cX3_passesSign 33 = .ok (.bipush 48, 2) := by decide +kernel
theorem dX3_passesSign_35 : decode cX3_passesSign 35 = .ok (.bipush 54, 2) := by decide +kernel
theorem dX3_passesSign_37 : decode cX3_passesSign 37 = .ok (.invokevirtual 28, 3) := by decide +kernel
theorem dX3_passesSign_40 : decode cX3_passesSign 40 = .ok (.ifCond .eq 17, 3) := by decide +kernel
theorem dX3_passesSign_43 : decode cX3_passesSign 43 = .ok (.aload_n 0, 1) := by decide +kernel
theorem dX3_passesSign_44 : decode cX3_passesSign 44 = .ok (.bipush 48, 2) := by decide +kernel
theorem dX3_passesSign_46 : decode cX3_passesSign 46 = .ok (.iload_n 1, 1) := by decide +kernel
theorem dX3_passesSign_47 : decode cX3_passesSign 47 = .ok (.invokevirtual 28, 3) := by decide +kernel
theorem dX3_passesSign_50 : decode cX3_passesSign 50 = .ok (.ifCond .eq 7, 3) := by decide +kernel
theorem dX3_passesSign_53 : decode cX3_passesSign 53 = .ok (.iconst 1, 1) := by decide +kernel
theorem dX3_passesSign_54 : decode cX3_passesSign 54 = .ok (.goto 4, 3) := by decide +kernel
theorem dX3_passesSign_57 : decode cX3_passesSign 57 = .ok (.iconst 0, 1) := by decide +kernel
theorem dX3_passesSign_58 : decode cX3_passesSign 58 = .ok (.ireturn, 1) := by decide +kernel
theorem dX4_init_0 : decode cX4_init 0 = .ok (.aload_n 0, 1) := by decide +kernel
theorem dX4_init_1 : decode cX4_init 1 = .ok (.invokespecial 3, 3) := by decide +kernel
theorem dX4_init_4 : decode cX4_init 4 = .ok (.aload_n 0, 1) := by decide +kernel
theorem dX4_init_5 : decode cX4_init 5 = .ok (.bipush 6, 2) := by decide +kernel
theorem dX4_init_7 : decode cX4_init 7 = .ok (.newarray .int, 2) := by decide +kernel
theorem dX4_init_9 : decode cX4_init 9 = .ok (.putfield 9, 3) := by decide +kernel
theorem dX4_init_12 : decode cX4_init 12 = .ok (.return_, 1) := by decide +kernel
theorem dX4_go_0 : decode cX4_go 0 = .ok (.aload_n 0, 1) := by decide +kernel
theorem dX4_go_1 : decode cX4_go 1 = .ok (.iconst 0, 1) := by decide +kernel
theorem dX4_go_2 : decode cX4_go 2 = .ok (.putfield 15, 3) := by decide +kernel
theorem dX4_go_5 : decode cX4_go 5 = .ok (.aload_n 0, 1) := by decide +kernel
theorem dX4_go_6 : decode cX4_go 6 = .ok (.bipush (-9), 2) := by decide +kernel
theorem dX4_go_8 : decode cX4_go 8 = .ok (.putfield 19, 3) := by decide +kernel
theorem dX4_go_11 : decode cX4_go 11 = .ok (.aload_n 0, 1) := by decide +kernel
theorem dX4_go_12 : decode cX4_go 12 = .ok (.iconst 0, 1) := by decide +kernel
theorem dX4_go_13 : decode cX4_go 13 = .ok (.putfield 22, 3) := by decide +kernel
theorem dX4_go_16 : decode cX4_go 16 = .ok (.iconst 0, 1) := by decide +kernel
theorem dX4_go_17 : decode cX4_go 17 = .ok (.istore 4, 2) := by decide +kernel
theorem dX4_go_19 : decode cX4_go 19 = .ok (.iload 4, 2) := by decide +kernel
theorem dX4_go_21 : decode cX4_go 21 = .ok (.bipush 6, 2) := by decide +kernel
theorem dX4_go_23 : decode cX4_go 23 = .ok (.if_icmp .ge 18, 3) := by decide +kernel
theorem dX4_go_26 : decode cX4_go 26 = .ok (.aload_n 0, 1) := by decide +kernel
theorem dX4_go_27 : decode cX4_go 27 = .ok (.getfield 9, 3) := by decide +kernel
theorem dX4_go_30 : decode cX4_go 30 = .ok (.iload 4, 2) := by decide +kernel
theorem dX4_go_32 : decode cX4_go 32 = .ok (.bipush (-9), 2) := by decide +kernel
theorem dX4_go_34 : decode cX4_go 34 = .ok (.iastore, 1) := by decide +kernel
theorem dX4_go_35 : decode cX4_go 35 = .ok (.iinc 4 1, 3) := by decide +kernel
theorem dX4_go_38 : decode cX4_go 38 = .ok (.goto (-19), 3) := by decide +kernel
theorem dX4_go_41 : decode cX4_go 41 = .ok (.iconst 0, 1) := by decide +kernel
theorem dX4_go_42 : decode cX4_go 42 = .ok (.istore 4, 2) := by decide +kernel
theorem dX4_go_44 : decode cX4_go 44 = .ok (.iload 4, 2) := by decide +kernel
theorem dX4_go_46 : decode cX4_go 46 = .ok (.iload_n 3, 1) := by decide +kernel
theorem dX4_go_47 : decode cX4_go 47 = .ok (.if_icmp .ge 20, 3) := by decide +kernel
theorem dX4_go_50 : decode cX4_go 50 = .ok (.aload_n 0, 1) := by decide +kernel
theorem dX4_go_51 : decode cX4_go 51 = .ok (.aload_n 1, 1) := by decide +kernel
theorem dX4_go_52 : decode cX4_go 52 = .ok (.aload_n 2, 1) := by decide +kernel
theorem dX4_go_53 : decode cX4_go 53 = .ok (.iload 4, 2) := by decide +kernel
theorem dX4_go_55 : decode cX4_go 55 = .ok (.iaload, 1) := by decide +kernel
theorem dX4_go_56 : decode cX4_go 56 = .ok (.iload 4, 2) := by decide +kernel
theorem dX4_go_58 : decode cX4_go 58 = .ok (.invokevirtual 25, 3) := by decide +kernel
theorem dX4_go_61 : decode cX4_go 61 = .ok (.iinc 4 1, 3) := by decide +kernel
theorem dX4_go_64 : decode cX4_go 64 = .ok (.goto (-20), 3) := by decide +kernel
theorem dX4_go_67 : decode cX4_go 67 = .ok (.return_, 1) := by decide +kernel
theorem dX4_passBy_0 : decode cX4_passBy 0 = .ok (.aload_n 0, 1) := by decide +kernel
theorem dX4_passBy_1 : decode cX4_passBy 1 = .ok (.getfield 22, 3) := by decide +kernel
theorem dX4_passBy_4 : decode cX4_passBy 4 = .ok (.iconst 1, 1) := by decide +kernel
theorem dX4_passBy_5 : decode cX4_passBy 5 = .ok (.iload_n 2, 1) := by decide +kernel
theorem dX4_passBy_6 : decode cX4_passBy 6 = .ok (.ishl, 1) := by decide +kernel
theorem dX4_passBy_7 : decode cX4_passBy 7 = .ok (.ior, 1) := by decide +kernel
theorem dX4_passBy_8 : decode cX4_passBy 8 = .ok (.istore 4, 2) := by decide +kernel
theorem dX4_passBy_10 : decode cX4_passBy 10 = .ok (.aload_n 1, 1) := by decide +kernel
theorem dX4_passBy_11 : decode cX4_passBy 11 = .ok (.aload_n 0, 1) := by decide +kernel
theorem dX4_passBy_12 : decode cX4_passBy 12 = .ok (.getfield 22, 3) := by decide +kernel
theorem dX4_passBy_15 : decode cX4_passBy 15 = .ok (.invokevirtual 29, 3) := by decide +kernel
theorem dX4_passBy_18 : decode cX4_passBy 18 = .ok (.istore 5, 2) := by decide +kernel
theorem dX4_passBy_20 : decode cX4_passBy 20 = .ok (.aload_n 0, 1) := by decide +kernel
theorem dX4_passBy_21 : decode cX4_passBy 21 = .ok (.dup, 1) := by decide +kernel
theorem dX4_passBy_22 : decode cX4_passBy 22 = .ok (.getfield 15, 3) := by decide +kernel
theorem dX4_passBy_25 : decode cX4_passBy 25 = .ok (.aload_n 1, 1) := by decide +kernel
theorem dX4_passBy_26 : decode cX4_passBy 26 = .ok (.iload 5, 2) := by decide +kernel
theorem dX4_passBy_28 : decode cX4_passBy 28 = .ok (.invokevirtual 35, 3) := by decide +kernel
theorem dX4_passBy_31 : decode cX4_passBy 31 = .ok (.iadd, 1) := by decide +kernel
theorem dX4_passBy_32 : decode cX4_passBy 32 = .ok (.putfield 15, 3) := by decide +kernel
theorem dX4_passBy_35 : decode cX4_passBy 35 = .ok (.aload_n 0, 1) := by decide +kernel
theorem dX4_passBy_36 : decode cX4_passBy 36 = .ok (.getfield 19, 3) := by decide +kernel
theorem dX4_passBy_39 : decode cX4_passBy 39 = .ok (.bipush (-9), 2) := by decide +kernel
theorem dX4_passBy_41 : decode cX4_passBy 41 = .ok (.if_icmp .ne 25, 3) := by decide +kernel
theorem dX4_passBy_44 : decode cX4_passBy 44 = .ok (.aload_n 1, 1) := by decide +kernel
theorem dX4_passBy_45 : decode cX4_passBy 45 = .ok (.iload 4, 2) := by decide +kernel
theorem dX4_passBy_47 : decode cX4_passBy 47 = .ok (.invokevirtual 38, 3) := by decide +kernel
theorem dX4_passBy_50 : decode cX4_passBy 50 = .ok (.aload_n 1, 1) := by decide +kernel
theorem dX4_passBy_51 : decode cX4_passBy 51 = .ok (.aload_n 0, 1) := by decide +kernel
theorem dX4_passBy_52 : decode cX4_passBy 52 = .ok (.getfield 22, 3) := by decide +kernel
theorem dX4_passBy_55 : decode cX4_passBy 55 = .ok (.invokevirtual 38, 3) := by decide +kernel
theorem dX4_passBy_58 : decode cX4_passBy 58 = .ok (.if_icmp .ne 8, 3) := by decide +kernel
theorem dX4_passBy_61 : decode cX4_passBy 61 = .ok (.aload_n 0, 1) := by decide +kernel
theorem dX4_passBy_62 : decode cX4_passBy 62 = .ok (.iload_n 3, 1) := by decide +kernel
theorem dX4_passBy_63 : decode cX4_passBy 63 = .ok (.putfield 19, 3) := by decide +kernel
theorem dX4_passBy_66 : decode cX4_passBy 66 = .ok (.aload_n 0, 1) := by decide +kernel
theorem dX4_passBy_67 : decode cX4_passBy 67 = .ok (.iload 5, 2) := by decide +kernel
theorem dX4_passBy_69 : decode cX4_passBy 69 = .ok (.aload_n 1, 1) := by decide +kernel
theorem dX4_passBy_70 : decode cX4_passBy 70 = .ok (.iload 4, 2) := by decide +kernel
theorem dX4_passBy_72 : decode cX4_passBy 72 = .ok (.invokevirtual 29, 3) := by decide +kernel
theorem dX4_passBy_75 : decode cX4_passBy 75 = .ok (.iconst (-1), 1) := by decide +kernel
theorem dX4_passBy_76 : decode cX4_passBy 76 = .ok (.ixor, 1) := by decide +kernel
theorem dX4_passBy_77 : decode cX4_passBy 77 = .ok (.iand, 1) := by decide +kernel
theorem dX4_passBy_78 : decode cX4_passBy 78 = .ok (.invokevirtual 41, 3) := by decide +kernel
theorem dX4_passBy_81 : decode cX4_passBy 81 = .ok (.aload_n 0, 1) := by decide +kernel
theorem dX4_passBy_82 : decode cX4_passBy 82 = .ok (.iload 4, 2) := by decide +kernel
theorem dX4_passBy_84 : decode cX4_passBy 84 = .ok (.putfield 22, 3) := by decide +kernel
theorem dX4_passBy_87 : decode cX4_passBy 87 = .ok (.return_, 1) := by decide +kernel
theorem dX4_noteReady_0 : decode cX4_noteReady 0 = .ok (.iconst 0, 1) := by decide +kernel
theorem dX4_noteReady_1 : decode cX4_noteReady 1 = .ok (.istore_n 2, 1) := by decide +kernel
theorem dX4_noteReady_2 : decode cX4_noteReady 2 = .ok (.iload_n 2, 1) := by decide +kernel
theorem dX4_noteReady_3 : decode cX4_noteReady 3 = .ok (.bipush 6, 2) := by decide +kernel
theorem dX4_noteReady_5 : decode cX4_noteReady 5 = .ok (.if_icmp .ge 27, 3) := by decide +kernel
theorem dX4_noteReady_8 : decode cX4_noteReady 8 = .ok (.iload_n 1, 1) := by decide +kernel
theorem dX4_noteReady_9 : decode cX4_noteReady 9 = .ok (.iload_n 2, 1) := by decide +kernel
theorem dX4_noteReady_10 : decode cX4_noteReady 10 = .ok (.invokestatic 45, 3) := by decide +kernel
theorem dX4_noteReady_13 : decode cX4_noteReady 13 = .ok (.ifCond .eq 13, 3) := by decide +kernel
theorem dX4_noteReady_16 : decode cX4_noteReady 16 = .ok (.aload_n 0, 1) := by decide +kernel
theorem dX4_noteReady_17 : decode cX4_noteReady 17 = .ok (.getfield 9, 3) := by decide +kernel
theorem dX4_noteReady_20 : decode cX4_noteReady 20 = .ok (.iload_n 2, 1) := by decide +kernel
theorem dX4_noteReady_21 : decode cX4_noteReady 21 = .ok (.aload_n 0, 1) := by decide +kernel
theorem dX4_noteReady_22 : decode cX4_noteReady 22 = .ok (.getfield 15, 3) := by decide +kernel
theorem dX4_noteReady_25 : decode cX4_noteReady 25 = .ok (.iastore, 1) := by decide +kernel
theorem dX4_noteReady_26 : decode cX4_noteReady 26 = .ok (.iinc 2 1, 3) := by decide +kernel
theorem dX4_noteReady_29 : decode cX4_noteReady 29 = .ok (.goto (-27), 3) := by decide +kernel
theorem dX4_noteReady_32 : decode cX4_noteReady 32 = .ok (.return_, 1) := by decide +kernel
theorem dX4_allReadyBehind_0 : decode cX4_allReadyBehind 0 = .ok (.iconst 0, 1) := by decide +kernel
theorem dX4_allReadyBehind_1 : decode cX4_allReadyBehind 1 = .ok (.istore_n 2, 1) := by decide +kernel
theorem dX4_allReadyBehind_2 : decode cX4_allReadyBehind 2 = .ok (.iconst 0, 1) := by decide +kernel
theorem dX4_allReadyBehind_3 : decode cX4_allReadyBehind 3 = .ok (.istore_n 3, 1) := by decide +kernel
theorem dX4_allReadyBehind_4 : decode cX4_allReadyBehind 4 = .ok (.iload_n 3, 1) := by decide +kernel
theorem dX4_allReadyBehind_5 : decode cX4_allReadyBehind 5 = .ok (.bipush 6, 2) := by decide +kernel
theorem dX4_allReadyBehind_7 : decode cX4_allReadyBehind 7 = .ok (.if_icmp .ge 42, 3) := by decide +kernel
theorem dX4_allReadyBehind_10 : decode cX4_allReadyBehind 10 = .ok (.iload_n 1, 1) := by decide +kernel
theorem dX4_allReadyBehind_11 : decode cX4_allReadyBehind 11 = .ok (.iload_n 3, 1) := by decide +kernel
theorem dX4_allReadyBehind_12 : decode cX4_allReadyBehind 12 = .ok (.invokestatic 45, 3) := by decide +kernel
theorem dX4_allReadyBehind_15 : decode cX4_allReadyBehind 15 = .ok (.ifCond .eq 28, 3) := by decide +kernel
theorem dX4_allReadyBehind_18 : decode cX4_allReadyBehind 18 = .ok (.aload_n 0, 1) := by decide +kernel
theorem dX4_allReadyBehind_19 : decode cX4_allReadyBehind 19 = .ok (.getfield 9, 3) := by decide +kernel
theorem dX4_allReadyBehind_22 : decode cX4_allReadyBehind 22 = .ok (.iload_n 3, 1) := by decide +kernel
theorem dX4_allReadyBehind_23 : decode cX4_allReadyBehind 23 = .ok (.iaload, 1) := by decide +kernel
theorem dX4_allReadyBehind_24 : decode cX4_allReadyBehind 24 = .ok (.bipush (-9), 2) := by decide +kernel
theorem dX4_allReadyBehind_26 : decode cX4_allReadyBehind 26 = .ok (.if_icmp .ne 6, 3) := by decide +kernel
theorem dX4_allReadyBehind_29 : decode cX4_allReadyBehind 29 = .ok (.bipush (-9), 2) := by decide +kernel
theorem dX4_allReadyBehind_31 : decode cX4_allReadyBehind 31 = .ok (.ireturn, 1) := by decide +kernel
theorem dX4_allReadyBehind_32 : decode cX4_allReadyBehind 32 = .ok (.iload_n 2, 1) := by decide +kernel
theorem dX4_allReadyBehind_33 : decode cX4_allReadyBehind 33 = .ok (.aload_n 0, 1) := by decide +kernel
theorem dX4_allReadyBehind_34 : decode cX4_allReadyBehind 34 = .ok (.getfield 9, 3) := by decide +kernel
theorem dX4_allReadyBehind_37 : decode cX4_allReadyBehind 37 = .ok (.iload_n 3, 1) := by decide +kernel
theorem dX4_allReadyBehind_38 : decode cX4_allReadyBehind 38 = .ok (.iaload, 1) := by decide +kernel
theorem dX4_allReadyBehind_39 : decode cX4_allReadyBehind 39 = .ok (.invokestatic 49, 3) := by decide +kernel
theorem dX4_allReadyBehind_42 : decode cX4_allReadyBehind 42 = .ok (.istore_n 2, 1) := by decide +kernel
theorem dX4_allReadyBehind_43 : decode cX4_allReadyBehind 43 = .ok (.iinc 3 1, 3) := by decide +kernel
theorem dX4_allReadyBehind_46 : decode cX4_allReadyBehind 46 = .ok (.goto (-42), 3) := by decide +kernel
theorem dX4_allReadyBehind_49 : decode cX4_allReadyBehind 49 = .ok (.iload_n 2, 1) := by decide +kernel
theorem dX4_allReadyBehind_50 : decode cX4_allReadyBehind 50 = .ok (.ireturn, 1) := by decide +kernel
theorem dX5_init_0 : decode cX5_init 0 = .ok (.aload_n 0, 1) := by decide +kernel
theorem dX5_init_1 : decode cX5_init 1 = .ok (.invokespecial 3, 3) := by decide +kernel
theorem dX5_init_4 : decode cX5_init 4 = .ok (.aload_n 0, 1) := by decide +kernel
theorem dX5_init_5 : decode cX5_init 5 = .ok (.new 9, 3) := by decide +kernel
theorem dX5_init_8 : decode cX5_init 8 = .ok (.dup, 1) := by decide +kernel
theorem dX5_init_9 : decode cX5_init 9 = .ok (.invokespecial 11, 3) := by decide +kernel
theorem dX5_init_12 : decode cX5_init 12 = .ok (.putfield 12, 3) := by decide +kernel
theorem dX5_init_15 : decode cX5_init 15 = .ok (.aload_n 0, 1) := by decide +kernel
theorem dX5_init_16 : decode cX5_init 16 = .ok (.new 18, 3) := by decide +kernel
theorem dX5_init_19 : decode cX5_init 19 = .ok (.dup, 1) := by decide +kernel
theorem dX5_init_20 : decode cX5_init 20 = .ok (.invokespecial 20, 3) := by decide +kernel
theorem dX5_init_23 : decode cX5_init 23 = .ok (.putfield 21, 3) := by decide +kernel
theorem dX5_init_26 : decode cX5_init 26 = .ok (.aload_n 0, 1) := by decide +kernel
theorem dX5_init_27 : decode cX5_init 27 = .ok (.new 25, 3) := by decide +kernel
theorem dX5_init_30 : decode cX5_init 30 = .ok (.dup, 1) := by decide +kernel
theorem dX5_init_31 : decode cX5_init 31 = .ok (.invokespecial 27, 3) := by decide +kernel
theorem dX5_init_34 : decode cX5_init 34 = .ok (.putfield 28, 3) := by decide +kernel
theorem dX5_init_37 : decode cX5_init 37 = .ok (.aload_n 0, 1) := by decide +kernel
theorem dX5_init_38 : decode cX5_init 38 = .ok (.new 32, 3) := by decide +kernel
theorem dX5_init_41 : decode cX5_init 41 = .ok (.dup, 1) := by decide +kernel
theorem dX5_init_42 : decode cX5_init 42 = .ok (.invokespecial 34, 3) := by decide +kernel
theorem dX5_init_45 : decode cX5_init 45 = .ok (.putfield 35, 3) := by decide +kernel
theorem dX5_init_48 : decode cX5_init 48 = .ok (.aload_n 0, 1) := by decide +kernel
theorem dX5_init_49 : decode cX5_init 49 = .ok (.new 39, 3) := by decide +kernel
theorem dX5_init_52 : decode cX5_init 52 = .ok (.dup, 1) := by decide +kernel
theorem dX5_init_53 : decode cX5_init 53 = .ok (.invokespecial 41, 3) := by decide +kernel
theorem dX5_init_56 : decode cX5_init 56 = .ok (.putfield 42, 3) := by decide +kernel
theorem dX5_init_59 : decode cX5_init 59 = .ok (.aload_n 0, 1) := by decide +kernel
theorem dX5_init_60 : decode cX5_init 60 = .ok (.bipush 60, 2) := by decide +kernel
theorem dX5_init_62 : decode cX5_init 62 = .ok (.newarray .int, 2) := by decide +kernel
theorem dX5_init_64 : decode cX5_init 64 = .ok (.putfield 46, 3) := by decide +kernel
theorem dX5_init_67 : decode cX5_init 67 = .ok (.return_, 1) := by decide +kernel
theorem dX5_floor_0 : decode cX5_floor 0 = .ok (.aload_n 0, 1) := by decide +kernel
theorem dX5_floor_1 : decode cX5_floor 1 = .ok (.iconst 0, 1) := by decide +kernel
theorem dX5_floor_2 : decode cX5_floor 2 = .ok (.putfield 50, 3) := by decide +kernel
theorem dX5_floor_5 : decode cX5_floor 5 = .ok (.iload_n 1, 1) := by decide +kernel
theorem dX5_floor_6 : decode cX5_floor 6 = .ok (.invokestatic 54, 3) := by decide +kernel
theorem dX5_floor_9 : decode cX5_floor 9 = .ok (.ifCond .ne 5, 3) := by decide +kernel
theorem dX5_floor_12 : decode cX5_floor 12 = .ok (.iconst (-1), 1) := by decide +kernel
theorem dX5_floor_13 : decode cX5_floor 13 = .ok (.ireturn, 1) := by decide +kernel
theorem dX5_floor_14 : decode cX5_floor 14 = .ok (.iload_n 2, 1) := by decide +kernel
theorem dX5_floor_15 : decode cX5_floor 15 = .ok (.invokestatic 58, 3) := by decide +kernel
theorem dX5_floor_18 : decode cX5_floor 18 = .ok (.ifCond .ne 6, 3) := by decide +kernel
theorem dX5_floor_21 : decode cX5_floor 21 = .ok (.bipush (-2), 2) := by decide +kernel
theorem dX5_floor_23 : decode cX5_floor 23 = .ok (.ireturn, 1) := by decide +kernel
theorem dX5_floor_24 : decode cX5_floor 24 = .ok (.aload_n 0, 1) := by decide +kernel
theorem dX5_floor_25 : decode cX5_floor 25 = .ok (.getfield 12, 3) := by decide +kernel
theorem dX5_floor_28 : decode cX5_floor 28 = .ok (.iload_n 1, 1) := by decide +kernel
theorem dX5_floor_29 : decode cX5_floor 29 = .ok (.iload_n 2, 1) := by decide +kernel
theorem dX5_floor_30 : decode cX5_floor 30 = .ok (.invokevirtual 61, 3) := by decide +kernel
theorem dX5_floor_33 : decode cX5_floor 33 = .ok (.istore 5, 2) := by decide +kernel
theorem dX5_floor_35 : decode cX5_floor 35 = .ok (.iload 5, 2) := by decide +kernel
theorem dX5_floor_37 : decode cX5_floor 37 = .ok (.ifCond .ne 11, 3) := by decide +kernel
theorem dX5_floor_40 : decode cX5_floor 40 = .ok (.iload 4, 2) := by decide +kernel
theorem dX5_floor_42 : decode cX5_floor 42 = .ok (.ifCond .ge 6, 3) := by decide +kernel
theorem dX5_floor_45 : decode cX5_floor 45 = .ok (.iconst 4, 1) := by decide +kernel
theorem dX5_floor_46 : decode cX5_floor 46 = .ok (.istore 5, 2) := by decide +kernel
theorem dX5_floor_48 : decode cX5_floor 48 = .ok (.iload 5, 2) := by decide +kernel
theorem dX5_floor_50 : decode cX5_floor 50 = .ok (.ifCond .ne 16, 3) := by decide +kernel
theorem dX5_floor_53 : decode cX5_floor 53 = .ok (.aload_n 0, 1) := by decide +kernel
theorem dX5_floor_54 : decode cX5_floor 54 = .ok (.getfield 12, 3) := by decide +kernel
theorem dX5_floor_57 : decode cX5_floor 57 = .ok (.iload_n 1, 1) := by decide +kernel
theorem dX5_floor_58 : decode cX5_floor 58 = .ok (.iload_n 3, 1) := by decide +kernel
theorem dX5_floor_59 : decode cX5_floor 59 = .ok (.iload 4, 2) := by decide +kernel
theorem dX5_floor_61 : decode cX5_floor 61 = .ok (.invokevirtual 65, 3) := by decide +kernel
theorem dX5_floor_64 : decode cX5_floor 64 = .ok (.istore 5, 2) := by decide +kernel
theorem dX5_floor_66 : decode cX5_floor 66 = .ok (.iload 5, 2) := by decide +kernel
theorem dX5_floor_68 : decode cX5_floor 68 = .ok (.ifCond .eq 10, 3) := by decide +kernel
theorem dX5_floor_71 : decode cX5_floor 71 = .ok (.aload_n 0, 1) := by decide +kernel
theorem dX5_floor_72 : decode cX5_floor 72 = .ok (.iload 5, 2) := by decide +kernel
theorem dX5_floor_74 : decode cX5_floor 74 = .ok (.invokevirtual 69, 3) := by decide +kernel
theorem dX5_floor_77 : decode cX5_floor 77 = .ok (.ireturn, 1) := by decide +kernel
theorem dX5_floor_78 : decode cX5_floor 78 = .ok (.aload_n 0, 1) := by decide +kernel
theorem dX5_floor_79 : decode cX5_floor 79 = .ok (.getfield 12, 3) := by decide +kernel
theorem dX5_floor_82 : decode cX5_floor 82 = .ok (.iload_n 1, 1) := by decide +kernel
theorem dX5_floor_83 : decode cX5_floor 83 = .ok (.iload_n 3, 1) := by decide +kernel
theorem dX5_floor_84 : decode cX5_floor 84 = .ok (.iload 4, 2) := by decide +kernel
theorem dX5_floor_86 : decode cX5_floor 86 = .ok (.aload_n 0, 1) := by decide +kernel
theorem dX5_floor_87 : decode cX5_floor 87 = .ok (.getfield 28, 3) := by decide +kernel
theorem dX5_floor_90 : decode cX5_floor 90 = .ok (.getfield 73, 3) := by decide +kernel
theorem dX5_floor_93 : decode cX5_floor 93 = .ok (.invokevirtual 76, 3) := by decide +kernel
theorem dX5_floor_96 : decode cX5_floor 96 = .ok (.aload_n 0, 1) := by decide +kernel
theorem dX5_floor_97 : decode cX5_floor 97 = .ok (.getfield 28, 3) := by decide +kernel
theorem dX5_floor_100 : decode cX5_floor 100 = .ok (.iload 4, 2) := by decide +kernel
theorem dX5_floor_102 : decode cX5_floor 102 = .ok (.invokevirtual 80, 3) := by decide +kernel
theorem dX5_floor_105 : decode cX5_floor 105 = .ok (.istore 6, 2) := by decide +kernel
theorem dX5_floor_107 : decode cX5_floor 107 = .ok (.iload 6, 2) := by decide +kernel
theorem dX5_floor_109 : decode cX5_floor 109 = .ok (.bipush (-9), 2) := by decide +kernel
theorem dX5_floor_111 : decode cX5_floor 111 = .ok (.if_icmp .eq 9, 3) := by decide +kernel
theorem dX5_floor_114 : decode cX5_floor 114 = .ok (.bipush (-100), 2) := by decide +kernel
theorem dX5_floor_116 : decode cX5_floor 116 = .ok (.iload 6, 2) := by decide +kernel
theorem dX5_floor_118 : decode cX5_floor 118 = .ok (.isub, 1) := by decide +kernel
theorem dX5_floor_119 : decode cX5_floor 119 = .ok (.ireturn, 1) := by decide +kernel
theorem dX5_floor_120 : decode cX5_floor 120 = .ok (.aload_n 0, 1) := by decide +kernel
theorem dX5_floor_121 : decode cX5_floor 121 = .ok (.getfield 21, 3) := by decide +kernel
theorem dX5_floor_124 : decode cX5_floor 124 = .ok (.aload_n 0, 1) := by decide +kernel
theorem dX5_floor_125 : decode cX5_floor 125 = .ok (.getfield 28, 3) := by decide +kernel
theorem dX5_floor_128 : decode cX5_floor 128 = .ok (.invokevirtual 83, 3) := by decide +kernel
theorem dX5_floor_131 : decode cX5_floor 131 = .ok (.aload_n 0, 1) := by decide +kernel
theorem dX5_floor_132 : decode cX5_floor 132 = .ok (.getfield 21, 3) := by decide +kernel
theorem dX5_floor_135 : decode cX5_floor 135 = .ok (.getfield 87, 3) := by decide +kernel
theorem dX5_floor_138 : decode cX5_floor 138 = .ok (.ireturn, 1) := by decide +kernel
theorem dX5_ofSort_0 : decode cX5_ofSort 0 = .ok (.aload_n 0, 1) := by decide +kernel
theorem dX5_ofSort_1 : decode cX5_ofSort 1 = .ok (.getfield 21, 3) := by decide +kernel
theorem dX5_ofSort_4 : decode cX5_ofSort 4 = .ok (.iload_n 1, 1) := by decide +kernel
theorem dX5_ofSort_5 : decode cX5_ofSort 5 = .ok (.invokevirtual 90, 3) := by decide +kernel
theorem dX5_ofSort_8 : decode cX5_ofSort 8 = .ok (.ifCond .ne 5, 3) := by decide +kernel
theorem dX5_ofSort_11 : decode cX5_ofSort 11 = .ok (.iconst (-1), 1) := by decide +kernel
theorem dX5_ofSort_12 : decode cX5_ofSort 12 = .ok (.ireturn, 1) := by decide +kernel
theorem dX5_ofSort_13 : decode cX5_ofSort 13 = .ok (.iload_n 2, 1) := by decide +kernel
theorem dX5_ofSort_14 : decode cX5_ofSort 14 = .ok (.tableswitch 96 0 4 #[34, 44, 54, 64, 74], 34) := by decide +kernel
theorem dX5_ofSort_48 : decode cX5_ofSort 48 = .ok (.aload_n 0, 1) := by decide +kernel
theorem dX5_ofSort_49 : decode cX5_ofSort 49 = .ok (.getfield 21, 3) := by decide +kernel
theorem dX5_ofSort_52 : decode cX5_ofSort 52 = .ok (.getfield 93, 3) := by decide +kernel
theorem dX5_ofSort_55 : decode cX5_ofSort 55 = .ok (.iload_n 1, 1) := by decide +kernel
theorem dX5_ofSort_56 : decode cX5_ofSort 56 = .ok (.iaload, 1) := by decide +kernel
theorem dX5_ofSort_57 : decode cX5_ofSort 57 = .ok (.ireturn, 1) := by decide +kernel
theorem dX5_ofSort_58 : decode cX5_ofSort 58 = .ok (.aload_n 0, 1) := by decide +kernel
theorem dX5_ofSort_59 : decode cX5_ofSort 59 = .ok (.getfield 21, 3) := by decide +kernel
theorem dX5_ofSort_62 : decode cX5_ofSort 62 = .ok (.getfield 96, 3) := by decide +kernel
theorem dX5_ofSort_65 : decode cX5_ofSort 65 = .ok (.iload_n 1, 1) := by decide +kernel
theorem dX5_ofSort_66 : decode cX5_ofSort 66 = .ok (.iaload, 1) := by decide +kernel
theorem dX5_ofSort_67 : decode cX5_ofSort 67 = .ok (.ireturn, 1) := by decide +kernel
theorem dX5_ofSort_68 : decode cX5_ofSort 68 = .ok (.aload_n 0, 1) := by decide +kernel
theorem dX5_ofSort_69 : decode cX5_ofSort 69 = .ok (.getfield 21, 3) := by decide +kernel
theorem dX5_ofSort_72 : decode cX5_ofSort 72 = .ok (.getfield 99, 3) := by decide +kernel
theorem dX5_ofSort_75 : decode cX5_ofSort 75 = .ok (.iload_n 1, 1) := by decide +kernel
theorem dX5_ofSort_76 : decode cX5_ofSort 76 = .ok (.iaload, 1) := by decide +kernel
theorem dX5_ofSort_77 : decode cX5_ofSort 77 = .ok (.ireturn, 1) := by decide +kernel
theorem dX5_ofSort_78 : decode cX5_ofSort 78 = .ok (.aload_n 0, 1) := by decide +kernel
theorem dX5_ofSort_79 : decode cX5_ofSort 79 = .ok (.getfield 21, 3) := by decide +kernel
theorem dX5_ofSort_82 : decode cX5_ofSort 82 = .ok (.getfield 102, 3) := by decide +kernel
theorem dX5_ofSort_85 : decode cX5_ofSort 85 = .ok (.iload_n 1, 1) := by decide +kernel
theorem dX5_ofSort_86 : decode cX5_ofSort 86 = .ok (.iaload, 1) := by decide +kernel
theorem dX5_ofSort_87 : decode cX5_ofSort 87 = .ok (.ireturn, 1) := by decide +kernel
theorem dX5_ofSort_88 : decode cX5_ofSort 88 = .ok (.aload_n 0, 1) := by decide +kernel
theorem dX5_ofSort_89 : decode cX5_ofSort 89 = .ok (.getfield 21, 3) := by decide +kernel
theorem dX5_ofSort_92 : decode cX5_ofSort 92 = .ok (.getfield 93, 3) := by decide +kernel
theorem dX5_ofSort_95 : decode cX5_ofSort 95 = .ok (.iload_n 1, 1) := by decide +kernel
theorem dX5_ofSort_96 : decode cX5_ofSort 96 = .ok (.iaload, 1) := by decide +kernel
theorem dX5_ofSort_97 : decode cX5_ofSort 97 = .ok (.aload_n 0, 1) := by decide +kernel
theorem dX5_ofSort_98 : decode cX5_ofSort 98 = .ok (.getfield 21, 3) := by decide +kernel
theorem dX5_ofSort_101 : decode cX5_ofSort 101 = .ok (.getfield 99, 3) := by decide +kernel
theorem dX5_ofSort_104 : decode cX5_ofSort 104 = .ok (.iload_n 1, 1) := by decide +kernel
theorem dX5_ofSort_105 : decode cX5_ofSort 105 = .ok (.iaload, 1) := by decide +kernel
theorem dX5_ofSort_106 : decode cX5_ofSort 106 = .ok (.invokestatic 105, 3) := by decide +kernel
theorem dX5_ofSort_109 : decode cX5_ofSort 109 = .ok (.ireturn, 1) := by decide +kernel
theorem dX5_ofSort_110 : decode cX5_ofSort 110 = .ok (.bipush (-2), 2) := by decide +kernel
theorem dX5_ofSort_112 : decode cX5_ofSort 112 = .ok (.ireturn, 1) := by decide +kernel
theorem dX5_ofSign_0 : decode cX5_ofSign 0 = .ok (.aload_n 0, 1) := by decide +kernel
theorem dX5_ofSign_1 : decode cX5_ofSign 1 = .ok (.getfield 21, 3) := by decide +kernel
theorem dX5_ofSign_4 : decode cX5_ofSign 4 = .ok (.iload_n 1, 1) := by decide +kernel
theorem dX5_ofSign_5 : decode cX5_ofSign 5 = .ok (.invokevirtual 108, 3) := by decide +kernel
theorem dX5_ofSign_8 : decode cX5_ofSign 8 = .ok (.ifCond .eq 15, 3) := by decide +kernel
theorem dX5_ofSign_11 : decode cX5_ofSign 11 = .ok (.aload_n 0, 1) := by decide +kernel
theorem dX5_ofSign_12 : decode cX5_ofSign 12 = .ok (.getfield 21, 3) := by decide +kernel
theorem dX5_ofSign_15 : decode cX5_ofSign 15 = .ok (.getfield 111, 3) := by decide +kernel
theorem dX5_ofSign_18 : decode cX5_ofSign 18 = .ok (.iload_n 1, 1) := by decide +kernel
theorem dX5_ofSign_19 : decode cX5_ofSign 19 = .ok (.iaload, 1) := by decide +kernel
theorem dX5_ofSign_20 : decode cX5_ofSign 20 = .ok (.goto 4, 3) := by decide +kernel
theorem dX5_ofSign_23 : decode cX5_ofSign 23 = .ok (.iconst (-1), 1) := by decide +kernel
theorem dX5_ofSign_24 : decode cX5_ofSign 24 = .ok (.ireturn, 1) := by decide +kernel
theorem dX5_lay_0 : decode cX5_lay 0 = .ok (.aload_n 0, 1) := by decide +kernel
theorem dX5_lay_1 : decode cX5_lay 1 = .ok (.getfield 21, 3) := by decide +kernel
theorem dX5_lay_4 : decode cX5_lay 4 = .ok (.iload_n 1, 1) := by decide +kernel
theorem dX5_lay_5 : decode cX5_lay 5 = .ok (.invokevirtual 90, 3) := by decide +kernel
theorem dX5_lay_8 : decode cX5_lay 8 = .ok (.ifCond .ne 5, 3) := by decide +kernel
theorem dX5_lay_11 : decode cX5_lay 11 = .ok (.iconst (-1), 1) := by decide +kernel
theorem dX5_lay_12 : decode cX5_lay 12 = .ok (.ireturn, 1) := by decide +kernel
theorem dX5_lay_13 : decode cX5_lay 13 = .ok (.iload_n 2, 1) := by decide +kernel
theorem dX5_lay_14 : decode cX5_lay 14 = .ok (.ifCond .lt 9, 3) := by decide +kernel
theorem dX5_lay_17 : decode cX5_lay 17 = .ok (.iload_n 2, 1) := by decide +kernel
theorem dX5_lay_18 : decode cX5_lay 18 = .ok (.bipush 9, 2) := by decide +kernel
theorem dX5_lay_20 : decode cX5_lay 20 = .ok (.if_icmp .le 6, 3) := by decide +kernel
theorem dX5_lay_23 : decode cX5_lay 23 = .ok (.bipush (-2), 2) := by decide +kernel
theorem dX5_lay_25 : decode cX5_lay 25 = .ok (.ireturn, 1) := by decide +kernel
theorem dX5_lay_26 : decode cX5_lay 26 = .ok (.aload_n 0, 1) := by decide +kernel
theorem dX5_lay_27 : decode cX5_lay 27 = .ok (.getfield 21, 3) := by decide +kernel
theorem dX5_lay_30 : decode cX5_lay 30 = .ok (.getfield 96, 3) := by decide +kernel
theorem dX5_lay_33 : decode cX5_lay 33 = .ok (.iload_n 1, 1) := by decide +kernel
theorem dX5_lay_34 : decode cX5_lay 34 = .ok (.iaload, 1) := by decide +kernel
theorem dX5_lay_35 : decode cX5_lay 35 = .ok (.istore_n 3, 1) := by decide +kernel
theorem dX5_lay_36 : decode cX5_lay 36 = .ok (.aload_n 0, 1) := by decide +kernel
theorem dX5_lay_37 : decode cX5_lay 37 = .ok (.getfield 21, 3) := by decide +kernel
theorem dX5_lay_40 : decode cX5_lay 40 = .ok (.getfield 96, 3) := by decide +kernel
theorem dX5_lay_43 : decode cX5_lay 43 = .ok (.iload_n 1, 1) := by decide +kernel
theorem dX5_lay_44 : decode cX5_lay 44 = .ok (.iload_n 2, 1) := by decide +kernel
theorem dX5_lay_45 : decode cX5_lay 45 = .ok (.iastore, 1) := by decide +kernel
theorem dX5_lay_46 : decode cX5_lay 46 = .ok (.iload_n 3, 1) := by decide +kernel
theorem dX5_lay_47 : decode cX5_lay 47 = .ok (.ireturn, 1) := by decide +kernel
theorem dX5_sign_0 : decode cX5_sign 0 = .ok (.aload_n 0, 1) := by decide +kernel
theorem dX5_sign_1 : decode cX5_sign 1 = .ok (.getfield 21, 3) := by decide +kernel
theorem dX5_sign_4 : decode cX5_sign 4 = .ok (.iload_n 1, 1) := by decide +kernel
theorem dX5_sign_5 : decode cX5_sign 5 = .ok (.invokevirtual 108, 3) := by decide +kernel
theorem dX5_sign_8 : decode cX5_sign 8 = .ok (.ifCond .ne 5, 3) := by decide +kernel
theorem dX5_sign_11 : decode cX5_sign 11 = .ok (.iconst (-1), 1) := by decide +kernel
theorem dX5_sign_12 : decode cX5_sign 12 = .ok (.ireturn, 1) := by decide +kernel
theorem dX5_sign_13 : decode cX5_sign 13 = .ok (.iload_n 2, 1) := by decide +kernel
theorem dX5_sign_14 : decode cX5_sign 14 = .ok (.ifCond .lt 9, 3) := by decide +kernel
theorem dX5_sign_17 : decode cX5_sign 17 = .ok (.iload_n 2, 1) := by decide +kernel
theorem dX5_sign_18 : decode cX5_sign 18 = .ok (.bipush 63, 2) := by decide +kernel
theorem dX5_sign_20 : decode cX5_sign 20 = .ok (.if_icmp .le 6, 3) := by decide +kernel
theorem dX5_sign_23 : decode cX5_sign 23 = .ok (.bipush (-2), 2) := by decide +kernel
theorem dX5_sign_25 : decode cX5_sign 25 = .ok (.ireturn, 1) := by decide +kernel
theorem dX5_sign_26 : decode cX5_sign 26 = .ok (.aload_n 0, 1) := by decide +kernel
theorem dX5_sign_27 : decode cX5_sign 27 = .ok (.getfield 21, 3) := by decide +kernel
theorem dX5_sign_30 : decode cX5_sign 30 = .ok (.getfield 111, 3) := by decide +kernel
theorem dX5_sign_33 : decode cX5_sign 33 = .ok (.iload_n 1, 1) := by decide +kernel
theorem dX5_sign_34 : decode cX5_sign 34 = .ok (.iaload, 1) := by decide +kernel
theorem dX5_sign_35 : decode cX5_sign 35 = .ok (.istore_n 3, 1) := by decide +kernel
theorem dX5_sign_36 : decode cX5_sign 36 = .ok (.aload_n 0, 1) := by decide +kernel
theorem dX5_sign_37 : decode cX5_sign 37 = .ok (.getfield 21, 3) := by decide +kernel
theorem dX5_sign_40 : decode cX5_sign 40 = .ok (.getfield 111, 3) := by decide +kernel
theorem dX5_sign_43 : decode cX5_sign 43 = .ok (.iload_n 1, 1) := by decide +kernel
theorem dX5_sign_44 : decode cX5_sign 44 = .ok (.iload_n 2, 1) := by decide +kernel
theorem dX5_sign_45 : decode cX5_sign 45 = .ok (.aload_n 0, 1) := by decide +kernel
theorem dX5_sign_46 : decode cX5_sign 46 = .ok (.getfield 21, 3) := by decide +kernel
theorem dX5_sign_49 : decode cX5_sign 49 = .ok (.invokevirtual 114, 3) := by decide +kernel
theorem dX5_sign_52 : decode cX5_sign 52 = .ok (.iand, 1) := by decide +kernel
theorem dX5_sign_53 : decode cX5_sign 53 = .ok (.iastore, 1) := by decide +kernel
theorem dX5_sign_54 : decode cX5_sign 54 = .ok (.iload_n 3, 1) := by decide +kernel
theorem dX5_sign_55 : decode cX5_sign 55 = .ok (.ireturn, 1) := by decide +kernel
theorem dX5_plan_0 : decode cX5_plan 0 = .ok (.aload_n 0, 1) := by decide +kernel
theorem dX5_plan_1 : decode cX5_plan 1 = .ok (.iconst 0, 1) := by decide +kernel
theorem dX5_plan_2 : decode cX5_plan 2 = .ok (.putfield 50, 3) := by decide +kernel
theorem dX5_plan_5 : decode cX5_plan 5 = .ok (.iload_n 1, 1) := by decide +kernel
theorem dX5_plan_6 : decode cX5_plan 6 = .ok (.invokestatic 54, 3) := by decide +kernel
theorem dX5_plan_9 : decode cX5_plan 9 = .ok (.ifCond .eq 14, 3) := by decide +kernel
theorem dX5_plan_12 : decode cX5_plan 12 = .ok (.iload 5, 2) := by decide +kernel
theorem dX5_plan_14 : decode cX5_plan 14 = .ok (.invokestatic 118, 3) := by decide +kernel
theorem dX5_plan_17 : decode cX5_plan 17 = .ok (.ifCond .ne 6, 3) := by decide +kernel
theorem dX5_plan_20 : decode cX5_plan 20 = .ok (.bipush (-2), 2) := by decide +kernel
theorem dX5_plan_22 : decode cX5_plan 22 = .ok (.ireturn, 1) := by decide +kernel
theorem dX5_plan_23 : decode cX5_plan 23 = .ok (.aload_n 0, 1) := by decide +kernel
theorem dX5_plan_24 : decode cX5_plan 24 = .ok (.iload_n 1, 1) := by decide +kernel
theorem dX5_plan_25 : decode cX5_plan 25 = .ok (.iload_n 2, 1) := by decide +kernel
theorem dX5_plan_26 : decode cX5_plan 26 = .ok (.iload 4, 2) := by decide +kernel
theorem dX5_plan_28 : decode cX5_plan 28 = .ok (.bipush 20, 2) := by decide +kernel
theorem dX5_plan_30 : decode cX5_plan 30 = .ok (.invokevirtual 121, 3) := by decide +kernel
theorem dX5_plan_33 : decode cX5_plan 33 = .ok (.istore 6, 2) := by decide +kernel
theorem dX5_plan_35 : decode cX5_plan 35 = .ok (.iload 6, 2) := by decide +kernel
theorem dX5_plan_37 : decode cX5_plan 37 = .ok (.ifCond .ne 21, 3) := by decide +kernel
theorem dX5_plan_40 : decode cX5_plan 40 = .ok (.aload_n 0, 1) := by decide +kernel
theorem dX5_plan_41 : decode cX5_plan 41 = .ok (.iload_n 1, 1) := by decide +kernel
theorem dX5_plan_42 : decode cX5_plan 42 = .ok (.iload_n 2, 1) := by decide +kernel
theorem dX5_plan_43 : decode cX5_plan 43 = .ok (.iload_n 3, 1) := by decide +kernel
theorem dX5_plan_44 : decode cX5_plan 44 = .ok (.iload 4, 2) := by decide +kernel
theorem dX5_plan_46 : decode cX5_plan 46 = .ok (.aload_n 0, 1) := by decide +kernel
theorem dX5_plan_47 : decode cX5_plan 47 = .ok (.getfield 21, 3) := by decide +kernel
theorem dX5_plan_50 : decode cX5_plan 50 = .ok (.getfield 125, 3) := by decide +kernel
theorem dX5_plan_53 : decode cX5_plan 53 = .ok (.invokevirtual 128, 3) := by decide +kernel
theorem dX5_plan_56 : decode cX5_plan 56 = .ok (.istore 6, 2) := by decide +kernel
theorem dX5_plan_58 : decode cX5_plan 58 = .ok (.iload 6, 2) := by decide +kernel
theorem dX5_plan_60 : decode cX5_plan 60 = .ok (.ifCond .eq 6, 3) := by decide +kernel
theorem dX5_plan_63 : decode cX5_plan 63 = .ok (.iload 6, 2) := by decide +kernel
theorem dX5_plan_65 : decode cX5_plan 65 = .ok (.ireturn, 1) := by decide +kernel
theorem dX5_plan_66 : decode cX5_plan 66 = .ok (.aload_n 0, 1) := by decide +kernel
theorem dX5_plan_67 : decode cX5_plan 67 = .ok (.getfield 35, 3) := by decide +kernel
theorem dX5_plan_70 : decode cX5_plan 70 = .ok (.aload_n 0, 1) := by decide +kernel
theorem dX5_plan_71 : decode cX5_plan 71 = .ok (.getfield 21, 3) := by decide +kernel
theorem dX5_plan_74 : decode cX5_plan 74 = .ok (.aload_n 0, 1) := by decide +kernel
theorem dX5_plan_75 : decode cX5_plan 75 = .ok (.getfield 46, 3) := by decide +kernel
theorem dX5_plan_78 : decode cX5_plan 78 = .ok (.iload 4, 2) := by decide +kernel
theorem dX5_plan_80 : decode cX5_plan 80 = .ok (.invokevirtual 132, 3) := by decide +kernel
theorem dX5_plan_83 : decode cX5_plan 83 = .ok (.iload 5, 2) := by decide +kernel
theorem dX5_plan_85 : decode cX5_plan 85 = .ok (.tableswitch 87 0 3 #[31, 39, 47, 62], 31) := by decide +kernel
theorem dX5_plan_116 : decode cX5_plan 116 = .ok (.aload_n 0, 1) := by decide +kernel
theorem dX5_plan_117 : decode cX5_plan 117 = .ok (.getfield 35, 3) := by decide +kernel
theorem dX5_plan_120 : decode cX5_plan 120 = .ok (.getfield 136, 3) := by decide +kernel
theorem dX5_plan_123 : decode cX5_plan 123 = .ok (.ireturn, 1) := by decide +kernel
theorem dX5_plan_124 : decode cX5_plan 124 = .ok (.aload_n 0, 1) := by decide +kernel
theorem dX5_plan_125 : decode cX5_plan 125 = .ok (.getfield 35, 3) := by decide +kernel
theorem dX5_plan_128 : decode cX5_plan 128 = .ok (.getfield 138, 3) := by decide +kernel
theorem dX5_plan_131 : decode cX5_plan 131 = .ok (.ireturn, 1) := by decide +kernel
theorem dX5_plan_132 : decode cX5_plan 132 = .ok (.aload_n 0, 1) := by decide +kernel
theorem dX5_plan_133 : decode cX5_plan 133 = .ok (.getfield 21, 3) := by decide +kernel
theorem dX5_plan_136 : decode cX5_plan 136 = .ok (.aload_n 0, 1) := by decide +kernel
theorem dX5_plan_137 : decode cX5_plan 137 = .ok (.getfield 35, 3) := by decide +kernel
theorem dX5_plan_140 : decode cX5_plan 140 = .ok (.getfield 141, 3) := by decide +kernel
theorem dX5_plan_143 : decode cX5_plan 143 = .ok (.invokevirtual 144, 3) := by decide +kernel
theorem dX5_plan_146 : decode cX5_plan 146 = .ok (.ireturn, 1) := by decide +kernel
theorem dX5_plan_147 : decode cX5_plan 147 = .ok (.aload_n 0, 1) := by decide +kernel
theorem dX5_plan_148 : decode cX5_plan 148 = .ok (.getfield 21, 3) := by decide +kernel
theorem dX5_plan_151 : decode cX5_plan 151 = .ok (.invokevirtual 114, 3) := by decide +kernel
theorem dX5_plan_154 : decode cX5_plan 154 = .ok (.aload_n 0, 1) := by decide +kernel
theorem dX5_plan_155 : decode cX5_plan 155 = .ok (.getfield 21, 3) := by decide +kernel
theorem dX5_plan_158 : decode cX5_plan 158 = .ok (.aload_n 0, 1) := by decide +kernel
theorem dX5_plan_159 : decode cX5_plan 159 = .ok (.getfield 35, 3) := by decide +kernel
theorem dX5_plan_162 : decode cX5_plan 162 = .ok (.getfield 141, 3) := by decide +kernel
theorem dX5_plan_165 : decode cX5_plan 165 = .ok (.invokevirtual 147, 3) := by decide +kernel
theorem dX5_plan_168 : decode cX5_plan 168 = .ok (.iconst (-1), 1) := by decide +kernel
theorem dX5_plan_169 : decode cX5_plan 169 = .ok (.ixor, 1) := by decide +kernel
theorem dX5_plan_170 : decode cX5_plan 170 = .ok (.iand, 1) := by decide +kernel
theorem dX5_plan_171 : decode cX5_plan 171 = .ok (.ireturn, 1) := by decide +kernel
theorem dX5_plan_172 : decode cX5_plan 172 = .ok (.iload 5, 2) := by decide +kernel
theorem dX5_plan_174 : decode cX5_plan 174 = .ok (.bipush 20, 2) := by decide +kernel
theorem dX5_plan_176 : decode cX5_plan 176 = .ok (.if_icmp .ge 15, 3) := by decide +kernel
theorem dX5_plan_179 : decode cX5_plan 179 = .ok (.aload_n 0, 1) := by decide +kernel
theorem dX5_plan_180 : decode cX5_plan 180 = .ok (.iload 5, 2) := by decide +kernel
theorem dX5_plan_182 : decode cX5_plan 182 = .ok (.bipush 10, 2) := by decide +kernel
theorem dX5_plan_184 : decode cX5_plan 184 = .ok (.isub, 1) := by decide +kernel
theorem dX5_plan_185 : decode cX5_plan 185 = .ok (.invokevirtual 150, 3) := by decide +kernel
theorem dX5_plan_188 : decode cX5_plan 188 = .ok (.goto 12, 3) := by decide +kernel
theorem dX5_plan_191 : decode cX5_plan 191 = .ok (.aload_n 0, 1) := by decide +kernel
theorem dX5_plan_192 : decode cX5_plan 192 = .ok (.iload 5, 2) := by decide +kernel
theorem dX5_plan_194 : decode cX5_plan 194 = .ok (.bipush 20, 2) := by decide +kernel
theorem dX5_plan_196 : decode cX5_plan 196 = .ok (.isub, 1) := by decide +kernel
theorem dX5_plan_197 : decode cX5_plan 197 = .ok (.invokevirtual 153, 3) := by decide +kernel
theorem dX5_plan_200 : decode cX5_plan 200 = .ok (.ireturn, 1) := by decide +kernel
theorem dX5_line_0 : decode cX5_line 0 = .ok (.aload_n 0, 1) := by decide +kernel
theorem dX5_line_1 : decode cX5_line 1 = .ok (.iconst 0, 1) := by decide +kernel
theorem dX5_line_2 : decode cX5_line 2 = .ok (.putfield 50, 3) := by decide +kernel
theorem dX5_line_5 : decode cX5_line 5 = .ok (.aload_n 0, 1) := by decide +kernel
theorem dX5_line_6 : decode cX5_line 6 = .ok (.iload_n 1, 1) := by decide +kernel
theorem dX5_line_7 : decode cX5_line 7 = .ok (.iload_n 2, 1) := by decide +kernel
theorem dX5_line_8 : decode cX5_line 8 = .ok (.iload 4, 2) := by decide +kernel
theorem dX5_line_10 : decode cX5_line 10 = .ok (.bipush 60, 2) := by decide +kernel
theorem dX5_line_12 : decode cX5_line 12 = .ok (.invokevirtual 121, 3) := by decide +kernel
theorem dX5_line_15 : decode cX5_line 15 = .ok (.istore 5, 2) := by decide +kernel
theorem dX5_line_17 : decode cX5_line 17 = .ok (.iload 5, 2) := by decide +kernel
theorem dX5_line_19 : decode cX5_line 19 = .ok (.ifCond .ne 21, 3) := by decide +kernel
theorem dX5_line_22 : decode cX5_line 22 = .ok (.aload_n 0, 1) := by decide +kernel
theorem dX5_line_23 : decode cX5_line 23 = .ok (.iload_n 1, 1) := by decide +kernel
theorem dX5_line_24 : decode cX5_line 24 = .ok (.iload_n 2, 1) := by decide +kernel
theorem dX5_line_25 : decode cX5_line 25 = .ok (.iload_n 3, 1) := by decide +kernel
theorem dX5_line_26 : decode cX5_line 26 = .ok (.iload 4, 2) := by decide +kernel
theorem dX5_line_28 : decode cX5_line 28 = .ok (.aload_n 0, 1) := by decide +kernel
theorem dX5_line_29 : decode cX5_line 29 = .ok (.getfield 21, 3) := by decide +kernel
theorem dX5_line_32 : decode cX5_line 32 = .ok (.getfield 87, 3) := by decide +kernel
theorem dX5_line_35 : decode cX5_line 35 = .ok (.invokevirtual 128, 3) := by decide +kernel
theorem dX5_line_38 : decode cX5_line 38 = .ok (.istore 5, 2) := by decide +kernel
theorem dX5_line_40 : decode cX5_line 40 = .ok (.iload 5, 2) := by decide +kernel
theorem dX5_line_42 : decode cX5_line 42 = .ok (.ifCond .ne 19, 3) := by decide +kernel
theorem dX5_line_45 : decode cX5_line 45 = .ok (.aload_n 0, 1) := by decide +kernel
theorem dX5_line_46 : decode cX5_line 46 = .ok (.getfield 21, 3) := by decide +kernel
theorem dX5_line_49 : decode cX5_line 49 = .ok (.aload_n 0, 1) := by decide +kernel
theorem dX5_line_50 : decode cX5_line 50 = .ok (.getfield 46, 3) := by decide +kernel
theorem dX5_line_53 : decode cX5_line 53 = .ok (.iload 4, 2) := by decide +kernel
theorem dX5_line_55 : decode cX5_line 55 = .ok (.invokevirtual 156, 3) := by decide +kernel
theorem dX5_line_58 : decode cX5_line 58 = .ok (.goto 5, 3) := by decide +kernel
theorem dX5_line_61 : decode cX5_line 61 = .ok (.iload 5, 2) := by decide +kernel
theorem dX5_line_63 : decode cX5_line 63 = .ok (.ireturn, 1) := by decide +kernel
theorem dX5_soon_0 : decode cX5_soon 0 = .ok (.aload_n 0, 1) := by decide +kernel
theorem dX5_soon_1 : decode cX5_soon 1 = .ok (.iconst 0, 1) := by decide +kernel
theorem dX5_soon_2 : decode cX5_soon 2 = .ok (.putfield 50, 3) := by decide +kernel
theorem dX5_soon_5 : decode cX5_soon 5 = .ok (.aload_n 0, 1) := by decide +kernel
theorem dX5_soon_6 : decode cX5_soon 6 = .ok (.iload_n 2, 1) := by decide +kernel
theorem dX5_soon_7 : decode cX5_soon 7 = .ok (.iload_n 3, 1) := by decide +kernel
theorem dX5_soon_8 : decode cX5_soon 8 = .ok (.iload 5, 2) := by decide +kernel
theorem dX5_soon_10 : decode cX5_soon 10 = .ok (.bipush 20, 2) := by decide +kernel
theorem dX5_soon_12 : decode cX5_soon 12 = .ok (.invokevirtual 121, 3) := by decide +kernel
theorem dX5_soon_15 : decode cX5_soon 15 = .ok (.istore 6, 2) := by decide +kernel
theorem dX5_soon_17 : decode cX5_soon 17 = .ok (.iload 6, 2) := by decide +kernel
theorem dX5_soon_19 : decode cX5_soon 19 = .ok (.ifCond .ne 18, 3) := by decide +kernel
theorem dX5_soon_22 : decode cX5_soon 22 = .ok (.aload_n 0, 1) := by decide +kernel
theorem dX5_soon_23 : decode cX5_soon 23 = .ok (.getfield 21, 3) := by decide +kernel
theorem dX5_soon_26 : decode cX5_soon 26 = .ok (.iload_n 1, 1) := by decide +kernel
theorem dX5_soon_27 : decode cX5_soon 27 = .ok (.invokevirtual 160, 3) := by decide +kernel
theorem dX5_soon_30 : decode cX5_soon 30 = .ok (.ifCond .ne 7, 3) := by decide +kernel
theorem dX5_soon_33 : decode cX5_soon 33 = .ok (.bipush (-2), 2) := by decide +kernel
theorem dX5_soon_35 : decode cX5_soon 35 = .ok (.istore 6, 2) := by decide +kernel
theorem dX5_soon_37 : decode cX5_soon 37 = .ok (.iload 6, 2) := by decide +kernel
theorem dX5_soon_39 : decode cX5_soon 39 = .ok (.ifCond .ne 22, 3) := by decide +kernel
theorem dX5_soon_42 : decode cX5_soon 42 = .ok (.aload_n 0, 1) := by decide +kernel
theorem dX5_soon_43 : decode cX5_soon 43 = .ok (.iload_n 2, 1) := by decide +kernel
theorem dX5_soon_44 : decode cX5_soon 44 = .ok (.iload_n 3, 1) := by decide +kernel
theorem dX5_soon_45 : decode cX5_soon 45 = .ok (.iload 4, 2) := by decide +kernel
theorem dX5_soon_47 : decode cX5_soon 47 = .ok (.iload 5, 2) := by decide +kernel
theorem dX5_soon_49 : decode cX5_soon 49 = .ok (.aload_n 0, 1) := by decide +kernel
theorem dX5_soon_50 : decode cX5_soon 50 = .ok (.getfield 21, 3) := by decide +kernel
theorem dX5_soon_53 : decode cX5_soon 53 = .ok (.getfield 125, 3) := by decide +kernel
theorem dX5_soon_56 : decode cX5_soon 56 = .ok (.invokevirtual 128, 3) := by decide +kernel
theorem dX5_soon_59 : decode cX5_soon 59 = .ok (.istore 6, 2) := by decide +kernel
theorem dX5_soon_61 : decode cX5_soon 61 = .ok (.iload 6, 2) := by decide +kernel
theorem dX5_soon_63 : decode cX5_soon 63 = .ok (.ifCond .eq 6, 3) := by decide +kernel
theorem dX5_soon_66 : decode cX5_soon 66 = .ok (.iload 6, 2) := by decide +kernel
theorem dX5_soon_68 : decode cX5_soon 68 = .ok (.ireturn, 1) := by decide +kernel
theorem dX5_soon_69 : decode cX5_soon 69 = .ok (.aload_n 0, 1) := by decide +kernel
theorem dX5_soon_70 : decode cX5_soon 70 = .ok (.getfield 35, 3) := by decide +kernel
theorem dX5_soon_73 : decode cX5_soon 73 = .ok (.aload_n 0, 1) := by decide +kernel
theorem dX5_soon_74 : decode cX5_soon 74 = .ok (.getfield 21, 3) := by decide +kernel
theorem dX5_soon_77 : decode cX5_soon 77 = .ok (.aload_n 0, 1) := by decide +kernel
theorem dX5_soon_78 : decode cX5_soon 78 = .ok (.getfield 46, 3) := by decide +kernel
theorem dX5_soon_81 : decode cX5_soon 81 = .ok (.iload 5, 2) := by decide +kernel
theorem dX5_soon_83 : decode cX5_soon 83 = .ok (.invokevirtual 132, 3) := by decide +kernel
theorem dX5_soon_86 : decode cX5_soon 86 = .ok (.aload_n 0, 1) := by decide +kernel
theorem dX5_soon_87 : decode cX5_soon 87 = .ok (.getfield 35, 3) := by decide +kernel
theorem dX5_soon_90 : decode cX5_soon 90 = .ok (.iload_n 1, 1) := by decide +kernel
theorem dX5_soon_91 : decode cX5_soon 91 = .ok (.invokevirtual 163, 3) := by decide +kernel
theorem dX5_soon_94 : decode cX5_soon 94 = .ok (.ireturn, 1) := by decide +kernel
theorem dX5_order_0 : decode cX5_order 0 = .ok (.iload_n 1, 1) := by decide +kernel
theorem dX5_order_1 : decode cX5_order 1 = .ok (.iconst (-1), 1) := by decide +kernel
theorem dX5_order_2 : decode cX5_order 2 = .ok (.if_icmp .lt 8, 3) := by decide +kernel
theorem dX5_order_5 : decode cX5_order 5 = .ok (.iload_n 1, 1) := by decide +kernel
theorem dX5_order_6 : decode cX5_order 6 = .ok (.iconst 5, 1) := by decide +kernel
theorem dX5_order_7 : decode cX5_order 7 = .ok (.if_icmp .lt 6, 3) := by decide +kernel
theorem dX5_order_10 : decode cX5_order 10 = .ok (.bipush (-2), 2) := by decide +kernel
theorem dX5_order_12 : decode cX5_order 12 = .ok (.ireturn, 1) := by decide +kernel
theorem dX5_order_13 : decode cX5_order 13 = .ok (.aload_n 0, 1) := by decide +kernel
theorem dX5_order_14 : decode cX5_order 14 = .ok (.getfield 21, 3) := by decide +kernel
