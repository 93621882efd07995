theorem dX4_findFewest_59 : decode cX4_findFewest 59 = .ok (.iaload, 1) := by decide +kernel
theorem dX4_findFewest_60 : decode cX4_findFewest 60 = .ok (.istore_n 3, 1) := by decide +kernel
theorem dX4_findFewest_61 : decode cX4_findFewest 61 = .ok (.iload_n 3, 1) := by decide +kernel
theorem dX4_findFewest_62 : decode cX4_findFewest 62 = .ok (.bipush (-9), 2) := by decide +kernel
theorem dX4_findFewest_64 : decode cX4_findFewest 64 = .ok (.if_icmp .eq 35, 3) := by decide +kernel
theorem dX4_findFewest_67 : decode cX4_findFewest 67 = .ok (.aload_n 0, 1) := by decide +kernel
theorem dX4_findFewest_68 : decode cX4_findFewest 68 = .ok (.getfield 40, 3) := by decide +kernel
theorem dX4_findFewest_71 : decode cX4_findFewest 71 = .ok (.iload_n 1, 1) := by decide +kernel
theorem dX4_findFewest_72 : decode cX4_findFewest 72 = .ok (.iaload, 1) := by decide +kernel
theorem dX4_findFewest_73 : decode cX4_findFewest 73 = .ok (.bipush (-9), 2) := by decide +kernel
theorem dX4_findFewest_75 : decode cX4_findFewest 75 = .ok (.if_icmp .eq 15, 3) := by decide +kernel
theorem dX4_findFewest_78 : decode cX4_findFewest 78 = .ok (.iload_n 3, 1) := by decide +kernel
theorem dX4_findFewest_79 : decode cX4_findFewest 79 = .ok (.iconst 1, 1) := by decide +kernel
theorem dX4_findFewest_80 : decode cX4_findFewest 80 = .ok (.iadd, 1) := by decide +kernel
theorem dX4_findFewest_81 : decode cX4_findFewest 81 = .ok (.aload_n 0, 1) := by decide +kernel
theorem dX4_findFewest_82 : decode cX4_findFewest 82 = .ok (.getfield 40, 3) := by decide +kernel
theorem dX4_findFewest_85 : decode cX4_findFewest 85 = .ok (.iload_n 1, 1) := by decide +kernel
theorem dX4_findFewest_86 : decode cX4_findFewest 86 = .ok (.iaload, 1) := by decide +kernel
theorem dX4_findFewest_87 : decode cX4_findFewest 87 = .ok (.if_icmp .ge 12, 3) := by decide +kernel
theorem dX4_findFewest_90 : decode cX4_findFewest 90 = .ok (.aload_n 0, 1) := by decide +kernel
theorem dX4_findFewest_91 : decode cX4_findFewest 91 = .ok (.getfield 40, 3) := by decide +kernel
theorem dX4_findFewest_94 : decode cX4_findFewest 94 = .ok (.iload_n 1, 1) := by decide +kernel
theorem dX4_findFewest_95 : decode cX4_findFewest 95 = .ok (.iload_n 3, 1) := by decide +kernel
theorem dX4_findFewest_96 : decode cX4_findFewest 96 = .ok (.iconst 1, 1) := by decide +kernel
theorem dX4_findFewest_97 : decode cX4_findFewest 97 = .ok (.iadd, 1) := by decide +kernel
theorem dX4_findFewest_98 : decode cX4_findFewest 98 = .ok (.iastore, 1) := by decide +kernel
theorem dX4_findFewest_99 : decode cX4_findFewest 99 = .ok (.iinc 2 1, 3) := by decide +kernel
theorem dX4_findFewest_102 : decode cX4_findFewest 102 = .ok (.goto (-73), 3) := by decide +kernel
theorem dX4_findFewest_105 : decode cX4_findFewest 105 = .ok (.iinc 1 1, 3) := by decide +kernel
theorem dX4_findFewest_108 : decode cX4_findFewest 108 = .ok (.goto (-99), 3) := by decide +kernel
theorem dX4_findFewest_111 : decode cX4_findFewest 111 = .ok (.return_, 1) := by decide +kernel
theorem dX4_firstLoad_0 : decode cX4_firstLoad 0 = .ok (.iconst 1, 1) := by decide +kernel
theorem dX4_firstLoad_1 : decode cX4_firstLoad 1 = .ok (.istore_n 2, 1) := by decide +kernel
theorem dX4_firstLoad_2 : decode cX4_firstLoad 2 = .ok (.iload_n 2, 1) := by decide +kernel
theorem dX4_firstLoad_3 : decode cX4_firstLoad 3 = .ok (.iload_n 1, 1) := by decide +kernel
theorem dX4_firstLoad_4 : decode cX4_firstLoad 4 = .ok (.iconst (-1), 1) := by decide +kernel
theorem dX4_firstLoad_5 : decode cX4_firstLoad 5 = .ok (.ixor, 1) := by decide +kernel
theorem dX4_firstLoad_6 : decode cX4_firstLoad 6 = .ok (.iand, 1) := by decide +kernel
theorem dX4_firstLoad_7 : decode cX4_firstLoad 7 = .ok (.ifCond .ne 32, 3) := by decide +kernel
theorem dX4_firstLoad_10 : decode cX4_firstLoad 10 = .ok (.aload_n 0, 1) := by decide +kernel
theorem dX4_firstLoad_11 : decode cX4_firstLoad 11 = .ok (.iload_n 2, 1) := by decide +kernel
theorem dX4_firstLoad_12 : decode cX4_firstLoad 12 = .ok (.invokevirtual 146, 3) := by decide +kernel
theorem dX4_firstLoad_15 : decode cX4_firstLoad 15 = .ok (.ifCond .eq 24, 3) := by decide +kernel
theorem dX4_firstLoad_18 : decode cX4_firstLoad 18 = .ok (.aload_n 0, 1) := by decide +kernel
theorem dX4_firstLoad_19 : decode cX4_firstLoad 19 = .ok (.getfield 40, 3) := by decide +kernel
theorem dX4_firstLoad_22 : decode cX4_firstLoad 22 = .ok (.iload_n 1, 1) := by decide +kernel
theorem dX4_firstLoad_23 : decode cX4_firstLoad 23 = .ok (.iload_n 2, 1) := by decide +kernel
theorem dX4_firstLoad_24 : decode cX4_firstLoad 24 = .ok (.iconst (-1), 1) := by decide +kernel
theorem dX4_firstLoad_25 : decode cX4_firstLoad 25 = .ok (.ixor, 1) := by decide +kernel
theorem dX4_firstLoad_26 : decode cX4_firstLoad 26 = .ok (.iand, 1) := by decide +kernel
theorem dX4_firstLoad_27 : decode cX4_firstLoad 27 = .ok (.iaload, 1) := by decide +kernel
theorem dX4_firstLoad_28 : decode cX4_firstLoad 28 = .ok (.aload_n 0, 1) := by decide +kernel
theorem dX4_firstLoad_29 : decode cX4_firstLoad 29 = .ok (.getfield 40, 3) := by decide +kernel
theorem dX4_firstLoad_32 : decode cX4_firstLoad 32 = .ok (.iload_n 1, 1) := by decide +kernel
theorem dX4_firstLoad_33 : decode cX4_firstLoad 33 = .ok (.iaload, 1) := by decide +kernel
theorem dX4_firstLoad_34 : decode cX4_firstLoad 34 = .ok (.iconst 1, 1) := by decide +kernel
theorem dX4_firstLoad_35 : decode cX4_firstLoad 35 = .ok (.isub, 1) := by decide +kernel
theorem dX4_firstLoad_36 : decode cX4_firstLoad 36 = .ok (.if_icmp .eq 9, 3) := by decide +kernel
theorem dX4_firstLoad_39 : decode cX4_firstLoad 39 = .ok (.iinc 2 1, 3) := by decide +kernel
theorem dX4_firstLoad_42 : decode cX4_firstLoad 42 = .ok (.goto (-40), 3) := by decide +kernel
theorem dX4_firstLoad_45 : decode cX4_firstLoad 45 = .ok (.iload_n 2, 1) := by decide +kernel
theorem dX4_firstLoad_46 : decode cX4_firstLoad 46 = .ok (.ireturn, 1) := by decide +kernel
theorem dX4_cross_0 : decode cX4_cross 0 = .ok (.aload_n 0, 1) := by decide +kernel
theorem dX4_cross_1 : decode cX4_cross 1 = .ok (.getfield 59, 3) := by decide +kernel
theorem dX4_cross_4 : decode cX4_cross 4 = .ok (.ifCond .ne 6, 3) := by decide +kernel
theorem dX4_cross_7 : decode cX4_cross 7 = .ok (.bipush (-3), 2) := by decide +kernel
theorem dX4_cross_9 : decode cX4_cross 9 = .ok (.ireturn, 1) := by decide +kernel
theorem dX4_cross_10 : decode cX4_cross 10 = .ok (.iload_n 1, 1) := by decide +kernel
theorem dX4_cross_11 : decode cX4_cross 11 = .ok (.iconst (-1), 1) := by decide +kernel
theorem dX4_cross_12 : decode cX4_cross 12 = .ok (.iconst 4, 1) := by decide +kernel
theorem dX4_cross_13 : decode cX4_cross 13 = .ok (.invokestatic 55, 3) := by decide +kernel
theorem dX4_cross_16 : decode cX4_cross 16 = .ok (.ifCond .ne 6, 3) := by decide +kernel
theorem dX4_cross_19 : decode cX4_cross 19 = .ok (.bipush (-2), 2) := by decide +kernel
theorem dX4_cross_21 : decode cX4_cross 21 = .ok (.ireturn, 1) := by decide +kernel
theorem dX4_cross_22 : decode cX4_cross 22 = .ok (.aload_n 0, 1) := by decide +kernel
theorem dX4_cross_23 : decode cX4_cross 23 = .ok (.invokevirtual 167, 3) := by decide +kernel
theorem dX4_cross_26 : decode cX4_cross 26 = .ok (.iconst 1, 1) := by decide +kernel
theorem dX4_cross_27 : decode cX4_cross 27 = .ok (.aload_n 0, 1) := by decide +kernel
theorem dX4_cross_28 : decode cX4_cross 28 = .ok (.getfield 59, 3) := by decide +kernel
theorem dX4_cross_31 : decode cX4_cross 31 = .ok (.ishl, 1) := by decide +kernel
theorem dX4_cross_32 : decode cX4_cross 32 = .ok (.iconst 1, 1) := by decide +kernel
theorem dX4_cross_33 : decode cX4_cross 33 = .ok (.isub, 1) := by decide +kernel
theorem dX4_cross_34 : decode cX4_cross 34 = .ok (.istore_n 2, 1) := by decide +kernel
theorem dX4_cross_35 : decode cX4_cross 35 = .ok (.iload_n 1, 1) := by decide +kernel
theorem dX4_cross_36 : decode cX4_cross 36 = .ok (.iconst (-1), 1) := by decide +kernel
theorem dX4_cross_37 : decode cX4_cross 37 = .ok (.if_icmp .ne 10, 3) := by decide +kernel
theorem dX4_cross_40 : decode cX4_cross 40 = .ok (.aload_n 0, 1) := by decide +kernel
theorem dX4_cross_41 : decode cX4_cross 41 = .ok (.getfield 40, 3) := by decide +kernel
theorem dX4_cross_44 : decode cX4_cross 44 = .ok (.iload_n 2, 1) := by decide +kernel
theorem dX4_cross_45 : decode cX4_cross 45 = .ok (.iaload, 1) := by decide +kernel
theorem dX4_cross_46 : decode cX4_cross 46 = .ok (.ireturn, 1) := by decide +kernel
theorem dX4_cross_47 : decode cX4_cross 47 = .ok (.iload_n 1, 1) := by decide +kernel
theorem dX4_cross_48 : decode cX4_cross 48 = .ok (.aload_n 0, 1) := by decide +kernel
theorem dX4_cross_49 : decode cX4_cross 49 = .ok (.getfield 40, 3) := by decide +kernel
theorem dX4_cross_52 : decode cX4_cross 52 = .ok (.iload_n 2, 1) := by decide +kernel
theorem dX4_cross_53 : decode cX4_cross 53 = .ok (.iaload, 1) := by decide +kernel
theorem dX4_cross_54 : decode cX4_cross 54 = .ok (.if_icmp .lt 6, 3) := by decide +kernel
theorem dX4_cross_57 : decode cX4_cross 57 = .ok (.bipush (-9), 2) := by decide +kernel
theorem dX4_cross_59 : decode cX4_cross 59 = .ok (.ireturn, 1) := by decide +kernel
theorem dX4_cross_60 : decode cX4_cross 60 = .ok (.iconst 0, 1) := by decide +kernel
theorem dX4_cross_61 : decode cX4_cross 61 = .ok (.istore_n 3, 1) := by decide +kernel
theorem dX4_cross_62 : decode cX4_cross 62 = .ok (.iconst 0, 1) := by decide +kernel
theorem dX4_cross_63 : decode cX4_cross 63 = .ok (.istore 4, 2) := by decide +kernel
theorem dX4_cross_65 : decode cX4_cross 65 = .ok (.iload 4, 2) := by decide +kernel
theorem dX4_cross_67 : decode cX4_cross 67 = .ok (.iload_n 1, 1) := by decide +kernel
theorem dX4_cross_68 : decode cX4_cross 68 = .ok (.if_icmp .gt 21, 3) := by decide +kernel
theorem dX4_cross_71 : decode cX4_cross 71 = .ok (.aload_n 0, 1) := by decide +kernel
theorem dX4_cross_72 : decode cX4_cross 72 = .ok (.iload_n 2, 1) := by decide +kernel
theorem dX4_cross_73 : decode cX4_cross 73 = .ok (.invokevirtual 170, 3) := by decide +kernel
theorem dX4_cross_76 : decode cX4_cross 76 = .ok (.istore_n 3, 1) := by decide +kernel
theorem dX4_cross_77 : decode cX4_cross 77 = .ok (.iload_n 2, 1) := by decide +kernel
theorem dX4_cross_78 : decode cX4_cross 78 = .ok (.iload_n 3, 1) := by decide +kernel
theorem dX4_cross_79 : decode cX4_cross 79 = .ok (.iconst (-1), 1) := by decide +kernel
theorem dX4_cross_80 : decode cX4_cross 80 = .ok (.ixor, 1) := by decide +kernel
theorem dX4_cross_81 : decode cX4_cross 81 = .ok (.iand, 1) := by decide +kernel
theorem dX4_cross_82 : decode cX4_cross 82 = .ok (.istore_n 2, 1) := by decide +kernel
theorem dX4_cross_83 : decode cX4_cross 83 = .ok (.iinc 4 1, 3) := by decide +kernel
theorem dX4_cross_86 : decode cX4_cross 86 = .ok (.goto (-21), 3) := by decide +kernel
theorem dX4_cross_89 : decode cX4_cross 89 = .ok (.iload_n 3, 1) := by decide +kernel
theorem dX4_cross_90 : decode cX4_cross 90 = .ok (.ireturn, 1) := by decide +kernel
theorem dX4_loan_0 : decode cX4_loan 0 = .ok (.aload_n 0, 1) := by decide +kernel
theorem dX4_loan_1 : decode cX4_loan 1 = .ok (.iload_n 1, 1) := by decide +kernel
theorem dX4_loan_2 : decode cX4_loan 2 = .ok (.invokevirtual 115, 3) := by decide +kernel
theorem dX4_loan_5 : decode cX4_loan 5 = .ok (.ifCond .ne 5, 3) := by decide +kernel
theorem dX4_loan_8 : decode cX4_loan 8 = .ok (.iconst (-1), 1) := by decide +kernel
theorem dX4_loan_9 : decode cX4_loan 9 = .ok (.ireturn, 1) := by decide +kernel
theorem dX4_loan_10 : decode cX4_loan 10 = .ok (.aload_n 0, 1) := by decide +kernel
theorem dX4_loan_11 : decode cX4_loan 11 = .ok (.iload_n 2, 1) := by decide +kernel
theorem dX4_loan_12 : decode cX4_loan 12 = .ok (.invokevirtual 143, 3) := by decide +kernel
theorem dX4_loan_15 : decode cX4_loan 15 = .ok (.ifCond .eq 12, 3) := by decide +kernel
theorem dX4_loan_18 : decode cX4_loan 18 = .ok (.iload_n 3, 1) := by decide +kernel
theorem dX4_loan_19 : decode cX4_loan 19 = .ok (.iconst 0, 1) := by decide +kernel
theorem dX4_loan_20 : decode cX4_loan 20 = .ok (.iconst 1, 1) := by decide +kernel
theorem dX4_loan_21 : decode cX4_loan 21 = .ok (.invokestatic 55, 3) := by decide +kernel
theorem dX4_loan_24 : decode cX4_loan 24 = .ok (.ifCond .ne 6, 3) := by decide +kernel
theorem dX4_loan_27 : decode cX4_loan 27 = .ok (.bipush (-2), 2) := by decide +kernel
theorem dX4_loan_29 : decode cX4_loan 29 = .ok (.ireturn, 1) := by decide +kernel
theorem dX4_loan_30 : decode cX4_loan 30 = .ok (.iload_n 2, 1) := by decide +kernel
theorem dX4_loan_31 : decode cX4_loan 31 = .ok (.iload_n 1, 1) := by decide +kernel
theorem dX4_loan_32 : decode cX4_loan 32 = .ok (.invokestatic 127, 3) := by decide +kernel
theorem dX4_loan_35 : decode cX4_loan 35 = .ok (.ifCond .ne 6, 3) := by decide +kernel
theorem dX4_loan_38 : decode cX4_loan 38 = .ok (.bipush (-3), 2) := by decide +kernel
theorem dX4_loan_40 : decode cX4_loan 40 = .ok (.ireturn, 1) := by decide +kernel
theorem dX4_loan_41 : decode cX4_loan 41 = .ok (.aload_n 0, 1) := by decide +kernel
theorem dX4_loan_42 : decode cX4_loan 42 = .ok (.iload_n 2, 1) := by decide +kernel
theorem dX4_loan_43 : decode cX4_loan 43 = .ok (.invokevirtual 137, 3) := by decide +kernel
theorem dX4_loan_46 : decode cX4_loan 46 = .ok (.iconst 1, 1) := by decide +kernel
theorem dX4_loan_47 : decode cX4_loan 47 = .ok (.iload_n 1, 1) := by decide +kernel
theorem dX4_loan_48 : decode cX4_loan 48 = .ok (.ishl, 1) := by decide +kernel
theorem dX4_loan_49 : decode cX4_loan 49 = .ok (.if_icmp .ne 14, 3) := by decide +kernel
theorem dX4_loan_52 : decode cX4_loan 52 = .ok (.iload_n 3, 1) := by decide +kernel
theorem dX4_loan_53 : decode cX4_loan 53 = .ok (.ifCond .ne 7, 3) := by decide +kernel
theorem dX4_loan_56 : decode cX4_loan 56 = .ok (.iconst 0, 1) := by decide +kernel
theorem dX4_loan_57 : decode cX4_loan 57 = .ok (.goto 5, 3) := by decide +kernel
theorem dX4_loan_60 : decode cX4_loan 60 = .ok (.bipush (-9), 2) := by decide +kernel
theorem dX4_loan_62 : decode cX4_loan 62 = .ok (.ireturn, 1) := by decide +kernel
theorem dX4_loan_63 : decode cX4_loan 63 = .ok (.iconst 1, 1) := by decide +kernel
theorem dX4_loan_64 : decode cX4_loan 64 = .ok (.istore 4, 2) := by decide +kernel
theorem dX4_loan_66 : decode cX4_loan 66 = .ok (.iload 4, 2) := by decide +kernel
theorem dX4_loan_68 : decode cX4_loan 68 = .ok (.bipush 9, 2) := by decide +kernel
theorem dX4_loan_70 : decode cX4_loan 70 = .ok (.if_icmp .gt 58, 3) := by decide +kernel
theorem dX4_loan_73 : decode cX4_loan 73 = .ok (.iconst 0, 1) := by decide +kernel
theorem dX4_loan_74 : decode cX4_loan 74 = .ok (.istore 5, 2) := by decide +kernel
theorem dX4_loan_76 : decode cX4_loan 76 = .ok (.iload 5, 2) := by decide +kernel
theorem dX4_loan_78 : decode cX4_loan 78 = .ok (.aload_n 0, 1) := by decide +kernel
theorem dX4_loan_79 : decode cX4_loan 79 = .ok (.getfield 59, 3) := by decide +kernel
theorem dX4_loan_82 : decode cX4_loan 82 = .ok (.if_icmp .ge 40, 3) := by decide +kernel
theorem dX4_loan_85 : decode cX4_loan 85 = .ok (.iload 5, 2) := by decide +kernel
theorem dX4_loan_87 : decode cX4_loan 87 = .ok (.iload_n 1, 1) := by decide +kernel
theorem dX4_loan_88 : decode cX4_loan 88 = .ok (.if_icmp .eq 28, 3) := by decide +kernel
theorem dX4_loan_91 : decode cX4_loan 91 = .ok (.aload_n 0, 1) := by decide +kernel
theorem dX4_loan_92 : decode cX4_loan 92 = .ok (.iload_n 1, 1) := by decide +kernel
theorem dX4_loan_93 : decode cX4_loan 93 = .ok (.iload 5, 2) := by decide +kernel
theorem dX4_loan_95 : decode cX4_loan 95 = .ok (.iload 4, 2) := by decide +kernel
theorem dX4_loan_97 : decode cX4_loan 97 = .ok (.iload_n 2, 1) := by decide +kernel
theorem dX4_loan_98 : decode cX4_loan 98 = .ok (.invokevirtual 173, 3) := by decide +kernel
theorem dX4_loan_101 : decode cX4_loan 101 = .ok (.ifCond .eq 15, 3) := by decide +kernel
theorem dX4_loan_104 : decode cX4_loan 104 = .ok (.iload_n 3, 1) := by decide +kernel
theorem dX4_loan_105 : decode cX4_loan 105 = .ok (.ifCond .ne 8, 3) := by decide +kernel
theorem dX4_loan_108 : decode cX4_loan 108 = .ok (.iload 4, 2) := by decide +kernel
theorem dX4_loan_110 : decode cX4_loan 110 = .ok (.goto 5, 3) := by decide +kernel
theorem dX4_loan_113 : decode cX4_loan 113 = .ok (.iload 5, 2) := by decide +kernel
theorem dX4_loan_115 : decode cX4_loan 115 = .ok (.ireturn, 1) := by decide +kernel
theorem dX4_loan_116 : decode cX4_loan 116 = .ok (.iinc 5 1, 3) := by decide +kernel
theorem dX4_loan_119 : decode cX4_loan 119 = .ok (.goto (-43), 3) := by decide +kernel
theorem dX4_loan_122 : decode cX4_loan 122 = .ok (.iinc 4 1, 3) := by decide +kernel
theorem dX4_loan_125 : decode cX4_loan 125 = .ok (.goto (-59), 3) := by decide +kernel
theorem dX4_loan_128 : decode cX4_loan 128 = .ok (.bipush (-9), 2) := by decide +kernel
theorem dX4_loan_130 : decode cX4_loan 130 = .ok (.ireturn, 1) := by decide +kernel
theorem dX4_pullsBy_0 : decode cX4_pullsBy 0 = .ok (.aload_n 0, 1) := by decide +kernel
theorem dX4_pullsBy_1 : decode cX4_pullsBy 1 = .ok (.getfield 25, 3) := by decide +kernel
theorem dX4_pullsBy_4 : decode cX4_pullsBy 4 = .ok (.iconst 5, 1) := by decide +kernel
theorem dX4_pullsBy_5 : decode cX4_pullsBy 5 = .ok (.iload_n 1, 1) := by decide +kernel
theorem dX4_pullsBy_6 : decode cX4_pullsBy 6 = .ok (.imul, 1) := by decide +kernel
theorem dX4_pullsBy_7 : decode cX4_pullsBy 7 = .ok (.iload_n 2, 1) := by decide +kernel
theorem dX4_pullsBy_8 : decode cX4_pullsBy 8 = .ok (.iadd, 1) := by decide +kernel
theorem dX4_pullsBy_9 : decode cX4_pullsBy 9 = .ok (.iaload, 1) := by decide +kernel
theorem dX4_pullsBy_10 : decode cX4_pullsBy 10 = .ok (.istore 5, 2) := by decide +kernel
theorem dX4_pullsBy_12 : decode cX4_pullsBy 12 = .ok (.iload 5, 2) := by decide +kernel
theorem dX4_pullsBy_14 : decode cX4_pullsBy 14 = .ok (.iload_n 3, 1) := by decide +kernel
theorem dX4_pullsBy_15 : decode cX4_pullsBy 15 = .ok (.iadd, 1) := by decide +kernel
theorem dX4_pullsBy_16 : decode cX4_pullsBy 16 = .ok (.bipush 9, 2) := by decide +kernel
theorem dX4_pullsBy_18 : decode cX4_pullsBy 18 = .ok (.if_icmp .le 5, 3) := by decide +kernel
theorem dX4_pullsBy_21 : decode cX4_pullsBy 21 = .ok (.iconst 0, 1) := by decide +kernel
theorem dX4_pullsBy_22 : decode cX4_pullsBy 22 = .ok (.ireturn, 1) := by decide +kernel
theorem dX4_pullsBy_23 : decode cX4_pullsBy 23 = .ok (.aload_n 0, 1) := by decide +kernel
theorem dX4_pullsBy_24 : decode cX4_pullsBy 24 = .ok (.getfield 25, 3) := by decide +kernel
theorem dX4_pullsBy_27 : decode cX4_pullsBy 27 = .ok (.iconst 5, 1) := by decide +kernel
theorem dX4_pullsBy_28 : decode cX4_pullsBy 28 = .ok (.iload_n 1, 1) := by decide +kernel
theorem dX4_pullsBy_29 : decode cX4_pullsBy 29 = .ok (.imul, 1) := by decide +kernel
theorem dX4_pullsBy_30 : decode cX4_pullsBy 30 = .ok (.iload_n 2, 1) := by decide +kernel
theorem dX4_pullsBy_31 : decode cX4_pullsBy 31 = .ok (.iadd, 1) := by decide +kernel
theorem dX4_pullsBy_32 : decode cX4_pullsBy 32 = .ok (.iload 5, 2) := by decide +kernel
theorem dX4_pullsBy_34 : decode cX4_pullsBy 34 = .ok (.iload_n 3, 1) := by decide +kernel
theorem dX4_pullsBy_35 : decode cX4_pullsBy 35 = .ok (.iadd, 1) := by decide +kernel
theorem dX4_pullsBy_36 : decode cX4_pullsBy 36 = .ok (.iastore, 1) := by decide +kernel
theorem dX4_pullsBy_37 : decode cX4_pullsBy 37 = .ok (.aload_n 0, 1) := by decide +kernel
theorem dX4_pullsBy_38 : decode cX4_pullsBy 38 = .ok (.iload 4, 2) := by decide +kernel
theorem dX4_pullsBy_40 : decode cX4_pullsBy 40 = .ok (.invokevirtual 137, 3) := by decide +kernel
theorem dX4_pullsBy_43 : decode cX4_pullsBy 43 = .ok (.iconst 1, 1) := by decide +kernel
theorem dX4_pullsBy_44 : decode cX4_pullsBy 44 = .ok (.iload_n 1, 1) := by decide +kernel
theorem dX4_pullsBy_45 : decode cX4_pullsBy 45 = .ok (.ishl, 1) := by decide +kernel
theorem dX4_pullsBy_46 : decode cX4_pullsBy 46 = .ok (.if_icmp .ne 7, 3) := by decide +kernel
theorem dX4_pullsBy_49 : decode cX4_pullsBy 49 = .ok (.iconst 1, 1) := by decide +kernel
theorem dX4_pullsBy_50 : decode cX4_pullsBy 50 = .ok (.goto 4, 3) := by decide +kernel
theorem dX4_pullsBy_53 : decode cX4_pullsBy 53 = .ok (.iconst 0, 1) := by decide +kernel
theorem dX4_pullsBy_54 : decode cX4_pullsBy 54 = .ok (.istore 6, 2) := by decide +kernel
theorem dX4_pullsBy_56 : decode cX4_pullsBy 56 = .ok (.aload_n 0, 1) := by decide +kernel
theorem dX4_pullsBy_57 : decode cX4_pullsBy 57 = .ok (.getfield 25, 3) := by decide +kernel
theorem dX4_pullsBy_60 : decode cX4_pullsBy 60 = .ok (.iconst 5, 1) := by decide +kernel
theorem dX4_pullsBy_61 : decode cX4_pullsBy 61 = .ok (.iload_n 1, 1) := by decide +kernel
theorem dX4_pullsBy_62 : decode cX4_pullsBy 62 = .ok (.imul, 1) := by decide +kernel
theorem dX4_pullsBy_63 : decode cX4_pullsBy 63 = .ok (.iload_n 2, 1) := by decide +kernel
theorem dX4_pullsBy_64 : decode cX4_pullsBy 64 = .ok (.iadd, 1) := by decide +kernel
theorem dX4_pullsBy_65 : decode cX4_pullsBy 65 = .ok (.iload 5, 2) := by decide +kernel
theorem dX4_pullsBy_67 : decode cX4_pullsBy 67 = .ok (.iastore, 1) := by decide +kernel
theorem dX4_pullsBy_68 : decode cX4_pullsBy 68 = .ok (.iload 6, 2) := by decide +kernel
theorem dX4_pullsBy_70 : decode cX4_pullsBy 70 = .ok (.ireturn, 1) := by decide +kernel
theorem dX4_forgave_0 : decode cX4_forgave 0 = .ok (.aload_n 0, 1) := by decide +kernel
theorem dX4_forgave_1 : decode cX4_forgave 1 = .ok (.getfield 59, 3) := by decide +kernel
theorem dX4_forgave_4 : decode cX4_forgave 4 = .ok (.ifCond .ne 6, 3) := by decide +kernel
theorem dX4_forgave_7 : decode cX4_forgave 7 = .ok (.bipush (-3), 2) := by decide +kernel
theorem dX4_forgave_9 : decode cX4_forgave 9 = .ok (.ireturn, 1) := by decide +kernel
theorem dX4_forgave_10 : decode cX4_forgave 10 = .ok (.aload_n 0, 1) := by decide +kernel
theorem dX4_forgave_11 : decode cX4_forgave 11 = .ok (.iload_n 1, 1) := by decide +kernel
theorem dX4_forgave_12 : decode cX4_forgave 12 = .ok (.invokevirtual 143, 3) := by decide +kernel
theorem dX4_forgave_15 : decode cX4_forgave 15 = .ok (.ifCond .ne 6, 3) := by decide +kernel
theorem dX4_forgave_18 : decode cX4_forgave 18 = .ok (.bipush (-2), 2) := by decide +kernel
theorem dX4_forgave_20 : decode cX4_forgave 20 = .ok (.ireturn, 1) := by decide +kernel
theorem dX4_forgave_21 : decode cX4_forgave 21 = .ok (.bipush (-9), 2) := by decide +kernel
theorem dX4_forgave_23 : decode cX4_forgave 23 = .ok (.istore_n 2, 1) := by decide +kernel
theorem dX4_forgave_24 : decode cX4_forgave 24 = .ok (.iconst 0, 1) := by decide +kernel
theorem dX4_forgave_25 : decode cX4_forgave 25 = .ok (.istore_n 3, 1) := by decide +kernel
theorem dX4_forgave_26 : decode cX4_forgave 26 = .ok (.iload_n 3, 1) := by decide +kernel
theorem dX4_forgave_27 : decode cX4_forgave 27 = .ok (.iload_n 1, 1) := by decide +kernel
theorem dX4_forgave_28 : decode cX4_forgave 28 = .ok (.if_icmp .gt 53, 3) := by decide +kernel
theorem dX4_forgave_31 : decode cX4_forgave 31 = .ok (.iload_n 3, 1) := by decide +kernel
theorem dX4_forgave_32 : decode cX4_forgave 32 = .ok (.iload_n 1, 1) := by decide +kernel
theorem dX4_forgave_33 : decode cX4_forgave 33 = .ok (.iconst (-1), 1) := by decide +kernel
theorem dX4_forgave_34 : decode cX4_forgave 34 = .ok (.ixor, 1) := by decide +kernel
theorem dX4_forgave_35 : decode cX4_forgave 35 = .ok (.iand, 1) := by decide +kernel
theorem dX4_forgave_36 : decode cX4_forgave 36 = .ok (.ifCond .ne 39, 3) := by decide +kernel
theorem dX4_forgave_39 : decode cX4_forgave 39 = .ok (.iload_n 2, 1) := by decide +kernel
theorem dX4_forgave_40 : decode cX4_forgave 40 = .ok (.bipush (-9), 2) := by decide +kernel
theorem dX4_forgave_42 : decode cX4_forgave 42 = .ok (.if_icmp .eq 14, 3) := by decide +kernel
theorem dX4_forgave_45 : decode cX4_forgave 45 = .ok (.iload_n 3, 1) := by decide +kernel
theorem dX4_forgave_46 : decode cX4_forgave 46 = .ok (.invokestatic 140, 3) := by decide +kernel
theorem dX4_forgave_49 : decode cX4_forgave 49 = .ok (.iload_n 2, 1) := by decide +kernel
theorem dX4_forgave_50 : decode cX4_forgave 50 = .ok (.invokestatic 140, 3) := by decide +kernel
theorem dX4_forgave_53 : decode cX4_forgave 53 = .ok (.if_icmp .ge 22, 3) := by decide +kernel
theorem dX4_forgave_56 : decode cX4_forgave 56 = .ok (.aload_n 0, 1) := by decide +kernel
theorem dX4_forgave_57 : decode cX4_forgave 57 = .ok (.iload_n 3, 1) := by decide +kernel
theorem dX4_forgave_58 : decode cX4_forgave 58 = .ok (.putfield 130, 3) := by decide +kernel
theorem dX4_forgave_61 : decode cX4_forgave 61 = .ok (.aload_n 0, 1) := by decide +kernel
theorem dX4_forgave_62 : decode cX4_forgave 62 = .ok (.iload_n 1, 1) := by decide +kernel
theorem dX4_forgave_63 : decode cX4_forgave 63 = .ok (.invokevirtual 137, 3) := by decide +kernel
theorem dX4_forgave_66 : decode cX4_forgave 66 = .ok (.ifCond .ne 7, 3) := by decide +kernel
theorem dX4_forgave_69 : decode cX4_forgave 69 = .ok (.iload_n 3, 1) := by decide +kernel
theorem dX4_forgave_70 : decode cX4_forgave 70 = .ok (.goto 4, 3) := by decide +kernel
theorem dX4_forgave_73 : decode cX4_forgave 73 = .ok (.iload_n 2, 1) := by decide +kernel
theorem dX4_forgave_74 : decode cX4_forgave 74 = .ok (.istore_n 2, 1) := by decide +kernel
theorem dX4_forgave_75 : decode cX4_forgave 75 = .ok (.iinc 3 1, 3) := by decide +kernel
theorem dX4_forgave_78 : decode cX4_forgave 78 = .ok (.goto (-52), 3) := by decide +kernel
theorem dX4_forgave_81 : decode cX4_forgave 81 = .ok (.aload_n 0, 1) := by decide +kernel
theorem dX4_forgave_82 : decode cX4_forgave 82 = .ok (.iconst 0, 1) := by decide +kernel
theorem dX4_forgave_83 : decode cX4_forgave 83 = .ok (.putfield 130, 3) := by decide +kernel
theorem dX4_forgave_86 : decode cX4_forgave 86 = .ok (.iload_n 2, 1) := by decide +kernel
theorem dX4_forgave_87 : decode cX4_forgave 87 = .ok (.ireturn, 1) := by decide +kernel
theorem dX4_reading_0 : decode cX4_reading 0 = .ok (.aload_n 0, 1) := by decide +kernel
theorem dX4_reading_1 : decode cX4_reading 1 = .ok (.getfield 59, 3) := by decide +kernel
theorem dX4_reading_4 : decode cX4_reading 4 = .ok (.ifCond .ne 6, 3) := by decide +kernel
theorem dX4_reading_7 : decode cX4_reading 7 = .ok (.bipush (-3), 2) := by decide +kernel
theorem dX4_reading_9 : decode cX4_reading 9 = .ok (.ireturn, 1) := by decide +kernel
theorem dX4_reading_10 : decode cX4_reading 10 = .ok (.aload_n 0, 1) := by decide +kernel
theorem dX4_reading_11 : decode cX4_reading 11 = .ok (.iload_n 1, 1) := by decide +kernel
theorem dX4_reading_12 : decode cX4_reading 12 = .ok (.invokevirtual 143, 3) := by decide +kernel
theorem dX4_reading_15 : decode cX4_reading 15 = .ok (.ifCond .eq 15, 3) := by decide +kernel
theorem dX4_reading_18 : decode cX4_reading 18 = .ok (.iload_n 2, 1) := by decide +kernel
theorem dX4_reading_19 : decode cX4_reading 19 = .ok (.ifCond .lt 11, 3) := by decide +kernel
theorem dX4_reading_22 : decode cX4_reading 22 = .ok (.iload_n 2, 1) := by decide +kernel
theorem dX4_reading_23 : decode cX4_reading 23 = .ok (.iload_n 1, 1) := by decide +kernel
theorem dX4_reading_24 : decode cX4_reading 24 = .ok (.iconst (-1), 1) := by decide +kernel
theorem dX4_reading_25 : decode cX4_reading 25 = .ok (.ixor, 1) := by decide +kernel
theorem dX4_reading_26 : decode cX4_reading 26 = .ok (.iand, 1) := by decide +kernel
theorem dX4_reading_27 : decode cX4_reading 27 = .ok (.ifCond .eq 6, 3) := by decide +kernel
theorem dX4_reading_30 : decode cX4_reading 30 = .ok (.bipush (-2), 2) := by decide +kernel
theorem dX4_reading_32 : decode cX4_reading 32 = .ok (.ireturn, 1) := by decide +kernel
theorem dX4_reading_33 : decode cX4_reading 33 = .ok (.aload_n 0, 1) := by decide +kernel
theorem dX4_reading_34 : decode cX4_reading 34 = .ok (.getfield 101, 3) := by decide +kernel
theorem dX4_reading_37 : decode cX4_reading 37 = .ok (.bipush 8, 2) := by decide +kernel
theorem dX4_reading_39 : decode cX4_reading 39 = .ok (.if_icmp .ne 6, 3) := by decide +kernel
theorem dX4_reading_42 : decode cX4_reading 42 = .ok (.bipush (-4), 2) := by decide +kernel
theorem dX4_reading_44 : decode cX4_reading 44 = .ok (.ireturn, 1) := by decide +kernel
theorem dX4_reading_45 : decode cX4_reading 45 = .ok (.aload_n 0, 1) := by decide +kernel
theorem dX4_reading_46 : decode cX4_reading 46 = .ok (.getfield 43, 3) := by decide +kernel
theorem dX4_reading_49 : decode cX4_reading 49 = .ok (.aload_n 0, 1) := by decide +kernel
theorem dX4_reading_50 : decode cX4_reading 50 = .ok (.getfield 101, 3) := by decide +kernel
theorem dX4_reading_53 : decode cX4_reading 53 = .ok (.iload_n 1, 1) := by decide +kernel
theorem dX4_reading_54 : decode cX4_reading 54 = .ok (.iastore, 1) := by decide +kernel
theorem dX4_reading_55 : decode cX4_reading 55 = .ok (.aload_n 0, 1) := by decide +kernel
theorem dX4_reading_56 : decode cX4_reading 56 = .ok (.getfield 46, 3) := by decide +kernel
theorem dX4_reading_59 : decode cX4_reading 59 = .ok (.aload_n 0, 1) := by decide +kernel
theorem dX4_reading_60 : decode cX4_reading 60 = .ok (.getfield 101, 3) := by decide +kernel
theorem dX4_reading_63 : decode cX4_reading 63 = .ok (.iload_n 2, 1) := by decide +kernel
theorem dX4_reading_64 : decode cX4_reading 64 = .ok (.iastore, 1) := by decide +kernel
theorem dX4_reading_65 : decode cX4_reading 65 = .ok (.aload_n 0, 1) := by decide +kernel
theorem dX4_reading_66 : decode cX4_reading 66 = .ok (.dup, 1) := by decide +kernel
theorem dX4_reading_67 : decode cX4_reading 67 = .ok (.getfield 101, 3) := by decide +kernel
theorem dX4_reading_70 : decode cX4_reading 70 = .ok (.iconst 1, 1) := by decide +kernel
theorem dX4_reading_71 : decode cX4_reading 71 = .ok (.iadd, 1) := by decide +kernel
theorem dX4_reading_72 : decode cX4_reading 72 = .ok (.putfield 101, 3) := by decide +kernel
theorem dX4_reading_75 : decode cX4_reading 75 = .ok (.aload_n 0, 1) := by decide +kernel
theorem dX4_reading_76 : decode cX4_reading 76 = .ok (.getfield 101, 3) := by decide +kernel
theorem dX4_reading_79 : decode cX4_reading 79 = .ok (.iconst 1, 1) := by decide +kernel
theorem dX4_reading_80 : decode cX4_reading 80 = .ok (.isub, 1) := by decide +kernel
theorem dX4_reading_81 : decode cX4_reading 81 = .ok (.ireturn, 1) := by decide +kernel
theorem dX4_back_0 : decode cX4_back 0 = .ok (.iload_n 1, 1) := by decide +kernel
theorem dX4_back_1 : decode cX4_back 1 = .ok (.iconst 0, 1) := by decide +kernel
theorem dX4_back_2 : decode cX4_back 2 = .ok (.aload_n 0, 1) := by decide +kernel
theorem dX4_back_3 : decode cX4_back 3 = .ok (.getfield 101, 3) := by decide +kernel
theorem dX4_back_6 : decode cX4_back 6 = .ok (.invokestatic 55, 3) := by decide +kernel
theorem dX4_back_9 : decode cX4_back 9 = .ok (.ifCond .ne 6, 3) := by decide +kernel
theorem dX4_back_12 : decode cX4_back 12 = .ok (.bipush (-2), 2) := by decide +kernel
theorem dX4_back_14 : decode cX4_back 14 = .ok (.ireturn, 1) := by decide +kernel
theorem dX4_back_15 : decode cX4_back 15 = .ok (.aload_n 0, 1) := by decide +kernel
theorem dX4_back_16 : decode cX4_back 16 = .ok (.dup, 1) := by decide +kernel
theorem dX4_back_17 : decode cX4_back 17 = .ok (.getfield 101, 3) := by decide +kernel
theorem dX4_back_20 : decode cX4_back 20 = .ok (.iload_n 1, 1) := by decide +kernel
theorem dX4_back_21 : decode cX4_back 21 = .ok (.isub, 1) := by decide +kernel
theorem dX4_back_22 : decode cX4_back 22 = .ok (.putfield 101, 3) := by decide +kernel
theorem dX4_back_25 : decode cX4_back 25 = .ok (.aload_n 0, 1) := by decide +kernel
theorem dX4_back_26 : decode cX4_back 26 = .ok (.getfield 101, 3) := by decide +kernel
theorem dX4_back_29 : decode cX4_back 29 = .ok (.ireturn, 1) := by decide +kernel
theorem dX4_areSo_0 : decode cX4_areSo 0 = .ok (.iconst 0, 1) := by decide +kernel
theorem dX4_areSo_1 : decode cX4_areSo 1 = .ok (.istore_n 1, 1) := by decide +kernel
theorem dX4_areSo_2 : decode cX4_areSo 2 = .ok (.iload_n 1, 1) := by decide +kernel
theorem dX4_areSo_3 : decode cX4_areSo 3 = .ok (.aload_n 0, 1) := by decide +kernel
theorem dX4_areSo_4 : decode cX4_areSo 4 = .ok (.getfield 101, 3) := by decide +kernel
theorem dX4_areSo_7 : decode cX4_areSo 7 = .ok (.if_icmp .ge 30, 3) := by decide +kernel
theorem dX4_areSo_10 : decode cX4_areSo 10 = .ok (.aload_n 0, 1) := by decide +kernel
theorem dX4_areSo_11 : decode cX4_areSo 11 = .ok (.aload_n 0, 1) := by decide +kernel
theorem dX4_areSo_12 : decode cX4_areSo 12 = .ok (.getfield 43, 3) := by decide +kernel
theorem dX4_areSo_15 : decode cX4_areSo 15 = .ok (.iload_n 1, 1) := by decide +kernel
theorem dX4_areSo_16 : decode cX4_areSo 16 = .ok (.iaload, 1) := by decide +kernel
theorem dX4_areSo_17 : decode cX4_areSo 17 = .ok (.invokevirtual 137, 3) := by decide +kernel
theorem dX4_areSo_20 : decode cX4_areSo 20 = .ok (.aload_n 0, 1) := by decide +kernel
theorem dX4_areSo_21 : decode cX4_areSo 21 = .ok (.getfield 46, 3) := by decide +kernel
theorem dX4_areSo_24 : decode cX4_areSo 24 = .ok (.iload_n 1, 1) := by decide +kernel
theorem dX4_areSo_25 : decode cX4_areSo 25 = .ok (.iaload, 1) := by decide +kernel
theorem dX4_areSo_26 : decode cX4_areSo 26 = .ok (.if_icmp .eq 5, 3) := by decide +kernel
theorem dX4_areSo_29 : decode cX4_areSo 29 = .ok (.iconst 0, 1) := by decide +kernel
theorem dX4_areSo_30 : decode cX4_areSo 30 = .ok (.ireturn, 1) := by decide +kernel
theorem dX4_areSo_31 : decode cX4_areSo 31 = .ok (.iinc 1 1, 3) := by decide +kernel
theorem dX4_areSo_34 : decode cX4_areSo 34 = .ok (.goto (-32), 3) := by decide +kernel
theorem dX4_areSo_37 : decode cX4_areSo 37 = .ok (.iconst 1, 1) := by decide +kernel
theorem dX4_areSo_38 : decode cX4_areSo 38 = .ok (.ireturn, 1) := by decide +kernel
theorem dX4_notes_0 : decode cX4_notes 0 = .ok (.aload_n 0, 1) := by decide +kernel
theorem dX4_notes_1 : decode cX4_notes 1 = .ok (.iload_n 1, 1) := by decide +kernel
theorem dX4_notes_2 : decode cX4_notes 2 = .ok (.iload_n 2, 1) := by decide +kernel
theorem dX4_notes_3 : decode cX4_notes 3 = .ok (.invokevirtual 121, 3) := by decide +kernel
theorem dX4_notes_6 : decode cX4_notes 6 = .ok (.ifCond .ne 5, 3) := by decide +kernel
theorem dX4_notes_9 : decode cX4_notes 9 = .ok (.iconst (-1), 1) := by decide +kernel
theorem dX4_notes_10 : decode cX4_notes 10 = .ok (.ireturn, 1) := by decide +kernel
theorem dX4_notes_11 : decode cX4_notes 11 = .ok (.aload_n 0, 1) := by decide +kernel
theorem dX4_notes_12 : decode cX4_notes 12 = .ok (.getfield 25, 3) := by decide +kernel
theorem dX4_notes_15 : decode cX4_notes 15 = .ok (.iconst 5, 1) := by decide +kernel
theorem dX4_notes_16 : decode cX4_notes 16 = .ok (.iload_n 1, 1) := by decide +kernel
theorem dX4_notes_17 : decode cX4_notes 17 = .ok (.imul, 1) := by decide +kernel
theorem dX4_notes_18 : decode cX4_notes 18 = .ok (.iload_n 2, 1) := by decide +kernel
theorem dX4_notes_19 : decode cX4_notes 19 = .ok (.iadd, 1) := by decide +kernel
theorem dX4_notes_20 : decode cX4_notes 20 = .ok (.iaload, 1) := by decide +kernel
theorem dX4_notes_21 : decode cX4_notes 21 = .ok (.istore_n 3, 1) := by decide +kernel
theorem dX4_notes_22 : decode cX4_notes 22 = .ok (.iconst 0, 1) := by decide +kernel
theorem dX4_notes_23 : decode cX4_notes 23 = .ok (.istore 4, 2) := by decide +kernel
theorem dX4_notes_25 : decode cX4_notes 25 = .ok (.iconst 0, 1) := by decide +kernel
theorem dX4_notes_26 : decode cX4_notes 26 = .ok (.istore 5, 2) := by decide +kernel
theorem dX4_notes_28 : decode cX4_notes 28 = .ok (.iload 5, 2) := by decide +kernel
theorem dX4_notes_30 : decode cX4_notes 30 = .ok (.bipush 9, 2) := by decide +kernel
theorem dX4_notes_32 : decode cX4_notes 32 = .ok (.if_icmp .gt 41, 3) := by decide +kernel
theorem dX4_notes_35 : decode cX4_notes 35 = .ok (.aload_n 0, 1) := by decide +kernel
theorem dX4_notes_36 : decode cX4_notes 36 = .ok (.getfield 25, 3) := by decide +kernel
theorem dX4_notes_39 : decode cX4_notes 39 = .ok (.iconst 5, 1) := by decide +kernel
theorem dX4_notes_40 : decode cX4_notes 40 = .ok (.iload_n 1, 1) := by decide +kernel
theorem dX4_notes_41 : decode cX4_notes 41 = .ok (.imul, 1) := by decide +kernel
theorem dX4_notes_42 : decode cX4_notes 42 = .ok (.iload_n 2, 1) := by decide +kernel
theorem dX4_notes_43 : decode cX4_notes 43 = .ok (.iadd, 1) := by decide +kernel
theorem dX4_notes_44 : decode cX4_notes 44 = .ok (.iload 5, 2) := by decide +kernel
theorem dX4_notes_46 : decode cX4_notes 46 = .ok (.iastore, 1) := by decide +kernel
theorem dX4_notes_47 : decode cX4_notes 47 = .ok (.iload 4, 2) := by decide +kernel
theorem dX4_notes_49 : decode cX4_notes 49 = .ok (.aload_n 0, 1) := by decide +kernel
theorem dX4_notes_50 : decode cX4_notes 50 = .ok (.invokevirtual 177, 3) := by decide +kernel
theorem dX4_notes_53 : decode cX4_notes 53 = .ok (.ifCond .eq 10, 3) := by decide +kernel
theorem dX4_notes_56 : decode cX4_notes 56 = .ok (.iconst 1, 1) := by decide +kernel
theorem dX4_notes_57 : decode cX4_notes 57 = .ok (.iload 5, 2) := by decide +kernel
theorem dX4_notes_59 : decode cX4_notes 59 = .ok (.ishl, 1) := by decide +kernel
theorem dX4_notes_60 : decode cX4_notes 60 = .ok (.goto 4, 3) := by decide +kernel
theorem dX4_notes_63 : decode cX4_notes 63 = .ok (.iconst 0, 1) := by decide +kernel
theorem dX4_notes_64 : decode cX4_notes 64 = .ok (.ior, 1) := by decide +kernel
theorem dX4_notes_65 : decode cX4_notes 65 = .ok (.istore 4, 2) := by decide +kernel
theorem dX4_notes_67 : decode cX4_notes 67 = .ok (.iinc 5 1, 3) := by decide +kernel
theorem dX4_notes_70 : decode cX4_notes 70 = .ok (.goto (-42), 3) := by decide +kernel
theorem dX4_notes_73 : decode cX4_notes 73 = .ok (.aload_n 0, 1) := by decide +kernel
theorem dX4_notes_74 : decode cX4_notes 74 = .ok (.getfield 25, 3) := by decide +kernel
theorem dX4_notes_77 : decode cX4_notes 77 = .ok (.iconst 5, 1) := by decide +kernel
theorem dX4_notes_78 : decode cX4_notes 78 = .ok (.iload_n 1, 1) := by decide +kernel
theorem dX4_notes_79 : decode cX4_notes 79 = .ok (.imul, 1) := by decide +kernel
theorem dX4_notes_80 : decode cX4_notes 80 = .ok (.iload_n 2, 1) := by decide +kernel
theorem dX4_notes_81 : decode cX4_notes 81 = .ok (.iadd, 1) := by decide +kernel
theorem dX4_notes_82 : decode cX4_notes 82 = .ok (.iload_n 3, 1) := by decide +kernel
theorem dX4_notes_83 : decode cX4_notes 83 = .ok (.iastore, 1) := by decide +kernel
theorem dX4_notes_84 : decode cX4_notes 84 = .ok (.iload 4, 2) := by decide +kernel
theorem dX4_notes_86 : decode cX4_notes 86 = .ok (.ireturn, 1) := by decide +kernel
theorem dX4_kinds_0 : decode cX4_kinds 0 = .ok (.aload_n 0, 1) := by decide +kernel
theorem dX4_kinds_1 : decode cX4_kinds 1 = .ok (.iload_n 1, 1) := by decide +kernel
theorem dX4_kinds_2 : decode cX4_kinds 2 = .ok (.invokevirtual 115, 3) := by decide +kernel
theorem dX4_kinds_5 : decode cX4_kinds 5 = .ok (.ifCond .ne 5, 3) := by decide +kernel
theorem dX4_kinds_8 : decode cX4_kinds 8 = .ok (.iconst (-1), 1) := by decide +kernel
theorem dX4_kinds_9 : decode cX4_kinds 9 = .ok (.ireturn, 1) := by decide +kernel
theorem dX4_kinds_10 : decode cX4_kinds 10 = .ok (.aload_n 0, 1) := by decide +kernel
theorem dX4_kinds_11 : decode cX4_kinds 11 = .ok (.getfield 19, 3) := by decide +kernel
theorem dX4_kinds_14 : decode cX4_kinds 14 = .ok (.iload_n 1, 1) := by decide +kernel
theorem dX4_kinds_15 : decode cX4_kinds 15 = .ok (.iaload, 1) := by decide +kernel
theorem dX4_kinds_16 : decode cX4_kinds 16 = .ok (.istore_n 2, 1) := by decide +kernel
theorem dX4_kinds_17 : decode cX4_kinds 17 = .ok (.iconst 0, 1) := by decide +kernel
theorem dX4_kinds_18 : decode cX4_kinds 18 = .ok (.istore_n 3, 1) := by decide +kernel
theorem dX4_kinds_19 : decode cX4_kinds 19 = .ok (.iconst 0, 1) := by decide +kernel
theorem dX4_kinds_20 : decode cX4_kinds 20 = .ok (.istore 4, 2) := by decide +kernel
theorem dX4_kinds_22 : decode cX4_kinds 22 = .ok (.iload 4, 2) := by decide +kernel
theorem dX4_kinds_24 : decode cX4_kinds 24 = .ok (.iconst 3, 1) := by decide +kernel
theorem dX4_kinds_25 : decode cX4_kinds 25 = .ok (.if_icmp .ge 35, 3) := by decide +kernel
theorem dX4_kinds_28 : decode cX4_kinds 28 = .ok (.aload_n 0, 1) := by decide +kernel
theorem dX4_kinds_29 : decode cX4_kinds 29 = .ok (.getfield 19, 3) := by decide +kernel
theorem dX4_kinds_32 : decode cX4_kinds 32 = .ok (.iload_n 1, 1) := by decide +kernel
theorem dX4_kinds_33 : decode cX4_kinds 33 = .ok (.iload 4, 2) := by decide +kernel
theorem dX4_kinds_35 : decode cX4_kinds 35 = .ok (.iastore, 1) := by decide +kernel
theorem dX4_kinds_36 : decode cX4_kinds 36 = .ok (.iload_n 3, 1) := by decide +kernel
theorem dX4_kinds_37 : decode cX4_kinds 37 = .ok (.aload_n 0, 1) := by decide +kernel
theorem dX4_kinds_38 : decode cX4_kinds 38 = .ok (.invokevirtual 177, 3) := by decide +kernel
theorem dX4_kinds_41 : decode cX4_kinds 41 = .ok (.ifCond .eq 10, 3) := by decide +kernel
theorem dX4_kinds_44 : decode cX4_kinds 44 = .ok (.iconst 1, 1) := by decide +kernel
theorem dX4_kinds_45 : decode cX4_kinds 45 = .ok (.iload 4, 2) := by decide +kernel
theorem dX4_kinds_47 : decode cX4_kinds 47 = .ok (.ishl, 1) := by decide +kernel
theorem dX4_kinds_48 : decode cX4_kinds 48 = .ok (.goto 4, 3) := by decide +kernel
theorem dX4_kinds_51 : decode cX4_kinds 51 = .ok (.iconst 0, 1) := by decide +kernel
theorem dX4_kinds_52 : decode cX4_kinds 52 = .ok (.ior, 1) := by decide +kernel
theorem dX4_kinds_53 : decode cX4_kinds 53 = .ok (.istore_n 3, 1) := by decide +kernel
theorem dX4_kinds_54 : decode cX4_kinds 54 = .ok (.iinc 4 1, 3) := by decide +kernel
theorem dX4_kinds_57 : decode cX4_kinds 57 = .ok (.goto (-35), 3) := by decide +kernel
theorem dX4_kinds_60 : decode cX4_kinds 60 = .ok (.aload_n 0, 1) := by decide +kernel
theorem dX4_kinds_61 : decode cX4_kinds 61 = .ok (.getfield 19, 3) := by decide +kernel
theorem dX4_kinds_64 : decode cX4_kinds 64 = .ok (.iload_n 1, 1) := by decide +kernel
theorem dX4_kinds_65 : decode cX4_kinds 65 = .ok (.iload_n 2, 1) := by decide +kernel
theorem dX4_kinds_66 : decode cX4_kinds 66 = .ok (.iastore, 1) := by decide +kernel
theorem dX4_kinds_67 : decode cX4_kinds 67 = .ok (.iload_n 3, 1) := by decide +kernel
theorem dX4_kinds_68 : decode cX4_kinds 68 = .ok (.ireturn, 1) := by decide +kernel
theorem dX4_often_0 : decode cX4_often 0 = .ok (.aload_n 0, 1) := by decide +kernel
theorem dX4_often_1 : decode cX4_often 1 = .ok (.getfield 59, 3) := by decide +kernel
theorem dX4_often_4 : decode cX4_often 4 = .ok (.ifCond .ne 6, 3) := by decide +kernel
theorem dX4_often_7 : decode cX4_often 7 = .ok (.bipush (-3), 2) := by decide +kernel
theorem dX4_often_9 : decode cX4_often 9 = .ok (.ireturn, 1) := by decide +kernel
theorem dX4_often_10 : decode cX4_often 10 = .ok (.aload_n 0, 1) := by decide +kernel
theorem dX4_often_11 : decode cX4_often 11 = .ok (.getfield 98, 3) := by decide +kernel
theorem dX4_often_14 : decode cX4_often 14 = .ok (.istore_n 1, 1) := by decide +kernel
theorem dX4_often_15 : decode cX4_often 15 = .ok (.iconst 0, 1) := by decide +kernel
theorem dX4_often_16 : decode cX4_often 16 = .ok (.istore_n 2, 1) := by decide +kernel
theorem dX4_often_17 : decode cX4_often 17 = .ok (.iconst 1, 1) := by decide +kernel
theorem dX4_often_18 : decode cX4_often 18 = .ok (.istore_n 3, 1) := by decide +kernel
theorem dX4_often_19 : decode cX4_often 19 = .ok (.iload_n 3, 1) := by decide +kernel
theorem dX4_often_20 : decode cX4_often 20 = .ok (.iconst 3, 1) := by decide +kernel
theorem dX4_often_21 : decode cX4_often 21 = .ok (.if_icmp .gt 31, 3) := by decide +kernel
theorem dX4_often_24 : decode cX4_often 24 = .ok (.aload_n 0, 1) := by decide +kernel
theorem dX4_often_25 : decode cX4_often 25 = .ok (.iload_n 3, 1) := by decide +kernel
theorem dX4_often_26 : decode cX4_often 26 = .ok (.putfield 98, 3) := by decide +kernel
theorem dX4_often_29 : decode cX4_often 29 = .ok (.iload_n 2, 1) := by decide +kernel
theorem dX4_often_30 : decode cX4_often 30 = .ok (.aload_n 0, 1) := by decide +kernel
theorem dX4_often_31 : decode cX4_often 31 = .ok (.invokevirtual 177, 3) := by decide +kernel
theorem dX4_often_34 : decode cX4_often 34 = .ok (.ifCond .eq 9, 3) := by decide +kernel
theorem dX4_often_37 : decode cX4_often 37 = .ok (.iconst 1, 1) := by decide +kernel
theorem dX4_often_38 : decode cX4_often 38 = .ok (.iload_n 3, 1) := by decide +kernel
theorem dX4_often_39 : decode cX4_often 39 = .ok (.ishl, 1) := by decide +kernel
theorem dX4_often_40 : decode cX4_often 40 = .ok (.goto 4, 3) := by decide +kernel
theorem dX4_often_43 : decode cX4_often 43 = .ok (.iconst 0, 1) := by decide +kernel
theorem dX4_often_44 : decode cX4_often 44 = .ok (.ior, 1) := by decide +kernel
theorem dX4_often_45 : decode cX4_often 45 = .ok (.istore_n 2, 1) := by decide +kernel
theorem dX4_often_46 : decode cX4_often 46 = .ok (.iinc 3 1, 3) := by decide +kernel
theorem dX4_often_49 : decode cX4_often 49 = .ok (.goto (-30), 3) := by decide +kernel
theorem dX4_often_52 : decode cX4_often 52 = .ok (.aload_n 0, 1) := by decide +kernel
theorem dX4_often_53 : decode cX4_often 53 = .ok (.iload_n 1, 1) := by decide +kernel
theorem dX4_often_54 : decode cX4_often 54 = .ok (.putfield 98, 3) := by decide +kernel
theorem dX4_often_57 : decode cX4_often 57 = .ok (.iload_n 2, 1) := by decide +kernel
theorem dX4_often_58 : decode cX4_often 58 = .ok (.ireturn, 1) := by decide +kernel
theorem dX4_inLeastTerms_0 : decode cX4_inLeastTerms 0 = .ok (.lload_n 0, 1) := by decide +kernel
theorem dX4_inLeastTerms_1 : decode cX4_inLeastTerms 1 = .ok (.lstore 5, 2) := by decide +kernel
theorem dX4_inLeastTerms_3 : decode cX4_inLeastTerms 3 = .ok (.lload_n 2, 1) := by decide +kernel
theorem dX4_inLeastTerms_4 : decode cX4_inLeastTerms 4 = .ok (.lstore 7, 2) := by decide +kernel
theorem dX4_inLeastTerms_6 : decode cX4_inLeastTerms 6 = .ok (.lload 7, 2) := by decide +kernel
theorem dX4_inLeastTerms_8 : decode cX4_inLeastTerms 8 = .ok (.lconst 0, 1) := by decide +kernel
theorem dX4_inLeastTerms_9 : decode cX4_inLeastTerms 9 = .ok (.lcmp, 1) := by decide +kernel
theorem dX4_inLeastTerms_10 : decode cX4_inLeastTerms 10 = .ok (.ifCond .eq 21, 3) := by decide +kernel
theorem dX4_inLeastTerms_13 : decode cX4_inLeastTerms 13 = .ok (.lload 5, 2) := by decide +kernel
theorem dX4_inLeastTerms_15 : decode cX4_inLeastTerms 15 = .ok (.lload 7, 2) := by decide +kernel
theorem dX4_inLeastTerms_17 : decode cX4_inLeastTerms 17 = .ok (.lrem, 1) := by decide +kernel
theorem dX4_inLeastTerms_18 : decode cX4_inLeastTerms 18 = .ok (.lstore 9, 2) := by decide +kernel
theorem dX4_inLeastTerms_20 : decode cX4_inLeastTerms 20 = .ok (.lload 7, 2) := by decide +kernel
theorem dX4_inLeastTerms_22 : decode cX4_inLeastTerms 22 = .ok (.lstore 5, 2) := by decide +kernel
theorem dX4_inLeastTerms_24 : decode cX4_inLeastTerms 24 = .ok (.lload 9, 2) := by decide +kernel
theorem dX4_inLeastTerms_26 : decode cX4_inLeastTerms 26 = .ok (.lstore 7, 2) := by decide +kernel
theorem dX4_inLeastTerms_28 : decode cX4_inLeastTerms 28 = .ok (.goto (-22), 3) := by decide +kernel
theorem dX4_inLeastTerms_31 : decode cX4_inLeastTerms 31 = .ok (.iload 4, 2) := by decide +kernel
theorem dX4_inLeastTerms_33 : decode cX4_inLeastTerms 33 = .ok (.ifCond .ne 10, 3) := by decide +kernel
theorem dX4_inLeastTerms_36 : decode cX4_inLeastTerms 36 = .ok (.lload_n 0, 1) := by decide +kernel
theorem dX4_inLeastTerms_37 : decode cX4_inLeastTerms 37 = .ok (.lload 5, 2) := by decide +kernel
theorem dX4_inLeastTerms_39 : decode cX4_inLeastTerms 39 = .ok (.ldiv, 1) := by decide +kernel
theorem dX4_inLeastTerms_40 : decode cX4_inLeastTerms 40 = .ok (.goto 7, 3) := by decide +kernel
theorem dX4_inLeastTerms_43 : decode cX4_inLeastTerms 43 = .ok (.lload_n 2, 1) := by decide +kernel
theorem dX4_inLeastTerms_44 : decode cX4_inLeastTerms 44 = .ok (.lload 5, 2) := by decide +kernel
theorem dX4_inLeastTerms_46 : decode cX4_inLeastTerms 46 = .ok (.ldiv, 1) := by decide +kernel
theorem dX4_inLeastTerms_47 : decode cX4_inLeastTerms 47 = .ok (.lreturn, 1) := by decide +kernel
theorem dX4_odds_0 : decode cX4_odds 0 = .ok (.aload_n 0, 1) := by decide +kernel
theorem dX4_odds_1 : decode cX4_odds 1 = .ok (.iload_n 1, 1) := by decide +kernel
theorem dX4_odds_2 : decode cX4_odds 2 = .ok (.invokevirtual 115, 3) := by decide +kernel
theorem dX4_odds_5 : decode cX4_odds 5 = .ok (.ifCond .eq 28, 3) := by decide +kernel
theorem dX4_odds_8 : decode cX4_odds 8 = .ok (.aload_n 0, 1) := by decide +kernel
theorem dX4_odds_9 : decode cX4_odds 9 = .ok (.iload_n 2, 1) := by decide +kernel
theorem dX4_odds_10 : decode cX4_odds 10 = .ok (.invokevirtual 143, 3) := by decide +kernel
theorem dX4_odds_13 : decode cX4_odds 13 = .ok (.ifCond .eq 20, 3) := by decide +kernel
theorem dX4_odds_16 : decode cX4_odds 16 = .ok (.iload_n 3, 1) := by decide +kernel
theorem dX4_odds_17 : decode cX4_odds 17 = .ok (.iconst 0, 1) := by decide +kernel
theorem dX4_odds_18 : decode cX4_odds 18 = .ok (.iconst 1, 1) := by decide +kernel
theorem dX4_odds_19 : decode cX4_odds 19 = .ok (.invokestatic 55, 3) := by decide +kernel
theorem dX4_odds_22 : decode cX4_odds 22 = .ok (.ifCond .eq 11, 3) := by decide +kernel
theorem dX4_odds_25 : decode cX4_odds 25 = .ok (.iload_n 2, 1) := by decide +kernel
theorem dX4_odds_26 : decode cX4_odds 26 = .ok (.iload_n 1, 1) := by decide +kernel
theorem dX4_odds_27 : decode cX4_odds 27 = .ok (.invokestatic 127, 3) := by decide +kernel
theorem dX4_odds_30 : decode cX4_odds 30 = .ok (.ifCond .ne 7, 3) := by decide +kernel
theorem dX4_odds_33 : decode cX4_odds 33 = .ok (.ldc2_w 53, 3) := by decide +kernel
theorem dX4_odds_36 : decode cX4_odds 36 = .ok (.lreturn, 1) := by decide +kernel
theorem dX4_odds_37 : decode cX4_odds 37 = .ok (.iconst 0, 1) := by decide +kernel
theorem dX4_odds_38 : decode cX4_odds 38 = .ok (.istore 4, 2) := by decide +kernel
theorem dX4_odds_40 : decode cX4_odds 40 = .ok (.iconst 1, 1) := by decide +kernel
theorem dX4_odds_41 : decode cX4_odds 41 = .ok (.aload_n 0, 1) := by decide +kernel
theorem dX4_odds_42 : decode cX4_odds 42 = .ok (.getfield 59, 3) := by decide +kernel
theorem dX4_odds_45 : decode cX4_odds 45 = .ok (.ishl, 1) := by decide +kernel
theorem dX4_odds_46 : decode cX4_odds 46 = .ok (.istore 5, 2) := by decide +kernel
theorem dX4_odds_48 : decode cX4_odds 48 = .ok (.aload_n 0, 1) := by decide +kernel
theorem dX4_odds_49 : decode cX4_odds 49 = .ok (.iconst 0, 1) := by decide +kernel
theorem dX4_odds_50 : decode cX4_odds 50 = .ok (.putfield 124, 3) := by decide +kernel
theorem dX4_odds_53 : decode cX4_odds 53 = .ok (.aload_n 0, 1) := by decide +kernel
theorem dX4_odds_54 : decode cX4_odds 54 = .ok (.getfield 124, 3) := by decide +kernel
theorem dX4_odds_57 : decode cX4_odds 57 = .ok (.iload 5, 2) := by decide +kernel
theorem dX4_odds_59 : decode cX4_odds 59 = .ok (.if_icmp .ge 38, 3) := by decide +kernel
theorem dX4_odds_62 : decode cX4_odds 62 = .ok (.iload 4, 2) := by decide +kernel
theorem dX4_odds_64 : decode cX4_odds 64 = .ok (.aload_n 0, 1) := by decide +kernel
theorem dX4_odds_65 : decode cX4_odds 65 = .ok (.iload_n 2, 1) := by decide +kernel
theorem dX4_odds_66 : decode cX4_odds 66 = .ok (.invokevirtual 137, 3) := by decide +kernel
theorem dX4_odds_69 : decode cX4_odds 69 = .ok (.iload_n 1, 1) := by decide +kernel
theorem dX4_odds_70 : decode cX4_odds 70 = .ok (.invokestatic 127, 3) := by decide +kernel
theorem dX4_odds_73 : decode cX4_odds 73 = .ok (.ifCond .eq 7, 3) := by decide +kernel
theorem dX4_odds_76 : decode cX4_odds 76 = .ok (.iconst 1, 1) := by decide +kernel
theorem dX4_odds_77 : decode cX4_odds 77 = .ok (.goto 4, 3) := by decide +kernel
theorem dX4_odds_80 : decode cX4_odds 80 = .ok (.iconst 0, 1) := by decide +kernel
theorem dX4_odds_81 : decode cX4_odds 81 = .ok (.iadd, 1) := by decide +kernel
theorem dX4_odds_82 : decode cX4_odds 82 = .ok (.istore 4, 2) := by decide +kernel
theorem dX4_odds_84 : decode cX4_odds 84 = .ok (.aload_n 0, 1) := by decide +kernel
theorem dX4_odds_85 : decode cX4_odds 85 = .ok (.dup, 1) := by decide +kernel
theorem dX4_odds_86 : decode cX4_odds 86 = .ok (.getfield 124, 3) := by decide +kernel
theorem dX4_odds_89 : decode cX4_odds 89 = .ok (.iconst 1, 1) := by decide +kernel
theorem dX4_odds_90 : decode cX4_odds 90 = .ok (.iadd, 1) := by decide +kernel
theorem dX4_odds_91 : decode cX4_odds 91 = .ok (.putfield 124, 3) := by decide +kernel
theorem dX4_odds_94 : decode cX4_odds 94 = .ok (.goto (-41), 3) := by decide +kernel
theorem dX4_odds_97 : decode cX4_odds 97 = .ok (.aload_n 0, 1) := by decide +kernel
theorem dX4_odds_98 : decode cX4_odds 98 = .ok (.iconst 0, 1) := by decide +kernel
theorem dX4_odds_99 : decode cX4_odds 99 = .ok (.putfield 124, 3) := by decide +kernel
theorem dX4_odds_102 : decode cX4_odds 102 = .ok (.iload 4, 2) := by decide +kernel
theorem dX4_odds_104 : decode cX4_odds 104 = .ok (.i2l, 1) := by decide +kernel
theorem dX4_odds_105 : decode cX4_odds 105 = .ok (.iload 5, 2) := by decide +kernel
theorem dX4_odds_107 : decode cX4_odds 107 = .ok (.i2l, 1) := by decide +kernel
theorem dX4_odds_108 : decode cX4_odds 108 = .ok (.iload_n 3, 1) := by decide +kernel
theorem dX4_odds_109 : decode cX4_odds 109 = .ok (.invokestatic 181, 3) := by decide +kernel
theorem dX4_odds_112 : decode cX4_odds 112 = .ok (.lreturn, 1) := by decide +kernel
theorem dX4_sheet_0 : decode cX4_sheet 0 = .ok (.aload_n 0, 1) := by decide +kernel
theorem dX4_sheet_1 : decode cX4_sheet 1 = .ok (.iconst 0, 1) := by decide +kernel
theorem dX4_sheet_2 : decode cX4_sheet 2 = .ok (.putfield 49, 3) := by decide +kernel
theorem dX4_sheet_5 : decode cX4_sheet 5 = .ok (.iload_n 1, 1) := by decide +kernel
theorem dX4_sheet_6 : decode cX4_sheet 6 = .ok (.invokestatic 65, 3) := by decide +kernel
theorem dX4_sheet_9 : decode cX4_sheet 9 = .ok (.ifCond .ne 5, 3) := by decide +kernel
theorem dX4_sheet_12 : decode cX4_sheet 12 = .ok (.iconst (-1), 1) := by decide +kernel
theorem dX4_sheet_13 : decode cX4_sheet 13 = .ok (.ireturn, 1) := by decide +kernel
theorem dX4_sheet_14 : decode cX4_sheet 14 = .ok (.iload_n 2, 1) := by decide +kernel
theorem dX4_sheet_15 : decode cX4_sheet 15 = .ok (.invokestatic 69, 3) := by decide +kernel
theorem dX4_sheet_18 : decode cX4_sheet 18 = .ok (.ifCond .eq 9, 3) := by decide +kernel
theorem dX4_sheet_21 : decode cX4_sheet 21 = .ok (.iload_n 3, 1) := by decide +kernel
theorem dX4_sheet_22 : decode cX4_sheet 22 = .ok (.bipush 60, 2) := by decide +kernel
theorem dX4_sheet_24 : decode cX4_sheet 24 = .ok (.if_icmp .le 6, 3) := by decide +kernel
theorem dX4_sheet_27 : decode cX4_sheet 27 = .ok (.bipush (-2), 2) := by decide +kernel
theorem dX4_sheet_29 : decode cX4_sheet 29 = .ok (.ireturn, 1) := by decide +kernel
theorem dX4_sheet_30 : decode cX4_sheet 30 = .ok (.iload_n 3, 1) := by decide +kernel
theorem dX4_sheet_31 : decode cX4_sheet 31 = .ok (.ifCond .ge 9, 3) := by decide +kernel
theorem dX4_sheet_34 : decode cX4_sheet 34 = .ok (.aload_n 0, 1) := by decide +kernel
theorem dX4_sheet_35 : decode cX4_sheet 35 = .ok (.iconst 4, 1) := by decide +kernel
theorem dX4_sheet_36 : decode cX4_sheet 36 = .ok (.invokevirtual 76, 3) := by decide +kernel
theorem dX4_sheet_39 : decode cX4_sheet 39 = .ok (.ireturn, 1) := by decide +kernel
theorem dX4_sheet_40 : decode cX4_sheet 40 = .ok (.aload_n 0, 1) := by decide +kernel
theorem dX4_sheet_41 : decode cX4_sheet 41 = .ok (.getfield 9, 3) := by decide +kernel
theorem dX4_sheet_44 : decode cX4_sheet 44 = .ok (.iload_n 1, 1) := by decide +kernel
theorem dX4_sheet_45 : decode cX4_sheet 45 = .ok (.iload_n 2, 1) := by decide +kernel
theorem dX4_sheet_46 : decode cX4_sheet 46 = .ok (.iastore, 1) := by decide +kernel
theorem dX4_sheet_47 : decode cX4_sheet 47 = .ok (.aload_n 0, 1) := by decide +kernel
theorem dX4_sheet_48 : decode cX4_sheet 48 = .ok (.getfield 13, 3) := by decide +kernel
theorem dX4_sheet_51 : decode cX4_sheet 51 = .ok (.iload_n 1, 1) := by decide +kernel
theorem dX4_sheet_52 : decode cX4_sheet 52 = .ok (.iload_n 3, 1) := by decide +kernel
theorem dX4_sheet_53 : decode cX4_sheet 53 = .ok (.iastore, 1) := by decide +kernel
theorem dX4_sheet_54 : decode cX4_sheet 54 = .ok (.iconst 0, 1) := by decide +kernel
theorem dX4_sheet_55 : decode cX4_sheet 55 = .ok (.istore 4, 2) := by decide +kernel
theorem dX4_sheet_57 : decode cX4_sheet 57 = .ok (.iload 4, 2) := by decide +kernel
theorem dX4_sheet_59 : decode cX4_sheet 59 = .ok (.bipush 60, 2) := by decide +kernel
theorem dX4_sheet_61 : decode cX4_sheet 61 = .ok (.if_icmp .ge 22, 3) := by decide +kernel
theorem dX4_sheet_64 : decode cX4_sheet 64 = .ok (.aload_n 0, 1) := by decide +kernel
theorem dX4_sheet_65 : decode cX4_sheet 65 = .ok (.getfield 16, 3) := by decide +kernel
theorem dX4_sheet_68 : decode cX4_sheet 68 = .ok (.bipush 60, 2) := by decide +kernel
theorem dX4_sheet_70 : decode cX4_sheet 70 = .ok (.iload_n 1, 1) := by decide +kernel
theorem dX4_sheet_71 : decode cX4_sheet 71 = .ok (.imul, 1) := by decide +kernel
theorem dX4_sheet_72 : decode cX4_sheet 72 = .ok (.iload 4, 2) := by decide +kernel
theorem dX4_sheet_74 : decode cX4_sheet 74 = .ok (.iadd, 1) := by decide +kernel
theorem dX4_sheet_75 : decode cX4_sheet 75 = .ok (.iconst 0, 1) := by decide +kernel
theorem dX4_sheet_76 : decode cX4_sheet 76 = .ok (.iastore, 1) := by decide +kernel
theorem dX4_sheet_77 : decode cX4_sheet 77 = .ok (.iinc 4 1, 3) := by decide +kernel
theorem dX4_sheet_80 : decode cX4_sheet 80 = .ok (.goto (-23), 3) := by decide +kernel
theorem dX4_sheet_83 : decode cX4_sheet 83 = .ok (.iconst 1, 1) := by decide +kernel
theorem dX4_sheet_84 : decode cX4_sheet 84 = .ok (.ireturn, 1) := by decide +kernel
theorem dX4_lose_0 : decode cX4_lose 0 = .ok (.iload_n 1, 1) := by decide +kernel
theorem dX4_lose_1 : decode cX4_lose 1 = .ok (.invokestatic 65, 3) := by decide +kernel
theorem dX4_lose_4 : decode cX4_lose 4 = .ok (.ifCond .ne 5, 3) := by decide +kernel
theorem dX4_lose_7 : decode cX4_lose 7 = .ok (.iconst (-1), 1) := by decide +kernel
theorem dX4_lose_8 : decode cX4_lose 8 = .ok (.ireturn, 1) := by decide +kernel
theorem dX4_lose_9 : decode cX4_lose 9 = .ok (.aload_n 0, 1) := by decide +kernel
theorem dX4_lose_10 : decode cX4_lose 10 = .ok (.getfield 9, 3) := by decide +kernel
theorem dX4_lose_13 : decode cX4_lose 13 = .ok (.iload_n 1, 1) := by decide +kernel
theorem dX4_lose_14 : decode cX4_lose 14 = .ok (.iaload, 1) := by decide +kernel
theorem dX4_lose_15 : decode cX4_lose 15 = .ok (.bipush (-9), 2) := by decide +kernel
theorem dX4_lose_17 : decode cX4_lose 17 = .ok (.if_icmp .ne 7, 3) := by decide +kernel
theorem dX4_lose_20 : decode cX4_lose 20 = .ok (.iconst 0, 1) := by decide +kernel
theorem dX4_lose_21 : decode cX4_lose 21 = .ok (.goto 4, 3) := by decide +kernel
theorem dX4_lose_24 : decode cX4_lose 24 = .ok (.iconst 1, 1) := by decide +kernel
theorem dX4_lose_25 : decode cX4_lose 25 = .ok (.istore_n 2, 1) := by decide +kernel
theorem dX4_lose_26 : decode cX4_lose 26 = .ok (.aload_n 0, 1) := by decide +kernel
theorem dX4_lose_27 : decode cX4_lose 27 = .ok (.getfield 9, 3) := by decide +kernel
theorem dX4_lose_30 : decode cX4_lose 30 = .ok (.iload_n 1, 1) := by decide +kernel
theorem dX4_lose_31 : decode cX4_lose 31 = .ok (.bipush (-9), 2) := by decide +kernel
theorem dX4_lose_33 : decode cX4_lose 33 = .ok (.iastore, 1) := by decide +kernel
theorem dX4_lose_34 : decode cX4_lose 34 = .ok (.iload_n 2, 1) := by decide +kernel
theorem dX4_lose_35 : decode cX4_lose 35 = .ok (.ireturn, 1) := by decide +kernel
theorem dX4_put_0 : decode cX4_put 0 = .ok (.aload_n 0, 1) := by decide +kernel
theorem dX4_put_1 : decode cX4_put 1 = .ok (.iconst 0, 1) := by decide +kernel
theorem dX4_put_2 : decode cX4_put 2 = .ok (.putfield 49, 3) := by decide +kernel
theorem dX4_put_5 : decode cX4_put 5 = .ok (.iload_n 1, 1) := by decide +kernel
theorem dX4_put_6 : decode cX4_put 6 = .ok (.invokestatic 65, 3) := by decide +kernel
theorem dX4_put_9 : decode cX4_put 9 = .ok (.ifCond .ne 5, 3) := by decide +kernel
theorem dX4_put_12 : decode cX4_put 12 = .ok (.iconst (-1), 1) := by decide +kernel
theorem dX4_put_13 : decode cX4_put 13 = .ok (.ireturn, 1) := by decide +kernel
theorem dX4_put_14 : decode cX4_put 14 = .ok (.aload_n 0, 1) := by decide +kernel
theorem dX4_put_15 : decode cX4_put 15 = .ok (.getfield 9, 3) := by decide +kernel
theorem dX4_put_18 : decode cX4_put 18 = .ok (.iload_n 1, 1) := by decide +kernel
theorem dX4_put_19 : decode cX4_put 19 = .ok (.iaload, 1) := by decide +kernel
theorem dX4_put_20 : decode cX4_put 20 = .ok (.bipush (-9), 2) := by decide +kernel
theorem dX4_put_22 : decode cX4_put 22 = .ok (.if_icmp .ne 9, 3) := by decide +kernel
theorem dX4_put_25 : decode cX4_put 25 = .ok (.aload_n 0, 1) := by decide +kernel
theorem dX4_put_26 : decode cX4_put 26 = .ok (.iconst 1, 1) := by decide +kernel
theorem dX4_put_27 : decode cX4_put 27 = .ok (.invokevirtual 76, 3) := by decide +kernel
theorem dX4_put_30 : decode cX4_put 30 = .ok (.ireturn, 1) := by decide +kernel
theorem dX4_put_31 : decode cX4_put 31 = .ok (.iload_n 2, 1) := by decide +kernel
theorem dX4_put_32 : decode cX4_put 32 = .ok (.iconst 0, 1) := by decide +kernel
theorem dX4_put_33 : decode cX4_put 33 = .ok (.aload_n 0, 1) := by decide +kernel
theorem dX4_put_34 : decode cX4_put 34 = .ok (.getfield 13, 3) := by decide +kernel
theorem dX4_put_37 : decode cX4_put 37 = .ok (.iload_n 1, 1) := by decide +kernel
theorem dX4_put_38 : decode cX4_put 38 = .ok (.iaload, 1) := by decide +kernel
theorem dX4_put_39 : decode cX4_put 39 = .ok (.iconst 1, 1) := by decide +kernel
theorem dX4_put_40 : decode cX4_put 40 = .ok (.isub, 1) := by decide +kernel
theorem dX4_put_41 : decode cX4_put 41 = .ok (.invokestatic 55, 3) := by decide +kernel
theorem dX4_put_44 : decode cX4_put 44 = .ok (.ifCond .ne 9, 3) := by decide +kernel
theorem dX4_put_47 : decode cX4_put 47 = .ok (.aload_n 0, 1) := by decide +kernel
theorem dX4_put_48 : decode cX4_put 48 = .ok (.iconst 3, 1) := by decide +kernel
theorem dX4_put_49 : decode cX4_put 49 = .ok (.invokevirtual 76, 3) := by decide +kernel
theorem dX4_put_52 : decode cX4_put 52 = .ok (.ireturn, 1) := by decide +kernel
theorem dX4_put_53 : decode cX4_put 53 = .ok (.aload_n 0, 1) := by decide +kernel
theorem dX4_put_54 : decode cX4_put 54 = .ok (.getfield 16, 3) := by decide +kernel
theorem dX4_put_57 : decode cX4_put 57 = .ok (.bipush 60, 2) := by decide +kernel
theorem dX4_put_59 : decode cX4_put 59 = .ok (.iload_n 1, 1) := by decide +kernel
theorem dX4_put_60 : decode cX4_put 60 = .ok (.imul, 1) := by decide +kernel
theorem dX4_put_61 : decode cX4_put 61 = .ok (.iload_n 2, 1) := by decide +kernel
theorem dX4_put_62 : decode cX4_put 62 = .ok (.iadd, 1) := by decide +kernel
theorem dX4_put_63 : decode cX4_put 63 = .ok (.aload_n 0, 1) := by decide +kernel
theorem dX4_put_64 : decode cX4_put 64 = .ok (.getfield 9, 3) := by decide +kernel
theorem dX4_put_67 : decode cX4_put 67 = .ok (.iload_n 1, 1) := by decide +kernel
theorem dX4_put_68 : decode cX4_put 68 = .ok (.iaload, 1) := by decide +kernel
theorem dX4_put_69 : decode cX4_put 69 = .ok (.ifCond .ne 8, 3) := by decide +kernel
theorem dX4_put_72 : decode cX4_put 72 = .ok (.iload_n 3, 1) := by decide +kernel
theorem dX4_put_73 : decode cX4_put 73 = .ok (.i2b, 1) := by decide +kernel
theorem dX4_put_74 : decode cX4_put 74 = .ok (.goto 19, 3) := by decide +kernel
theorem dX4_put_77 : decode cX4_put 77 = .ok (.aload_n 0, 1) := by decide +kernel
theorem dX4_put_78 : decode cX4_put 78 = .ok (.getfield 9, 3) := by decide +kernel
theorem dX4_put_81 : decode cX4_put 81 = .ok (.iload_n 1, 1) := by decide +kernel
theorem dX4_put_82 : decode cX4_put 82 = .ok (.iaload, 1) := by decide +kernel
theorem dX4_put_83 : decode cX4_put 83 = .ok (.iconst 1, 1) := by decide +kernel
theorem dX4_put_84 : decode cX4_put 84 = .ok (.if_icmp .ne 8, 3) := by decide +kernel
theorem dX4_put_87 : decode cX4_put 87 = .ok (.iload_n 3, 1) := by decide +kernel
theorem dX4_put_88 : decode cX4_put 88 = .ok (.i2s, 1) := by decide +kernel
theorem dX4_put_89 : decode cX4_put 89 = .ok (.goto 4, 3) := by decide +kernel
theorem dX4_put_92 : decode cX4_put 92 = .ok (.iload_n 3, 1) := by decide +kernel
theorem dX4_put_93 : decode cX4_put 93 = .ok (.iastore, 1) := by decide +kernel
theorem dX4_put_94 : decode cX4_put 94 = .ok (.iconst 1, 1) := by decide +kernel
theorem dX4_put_95 : decode cX4_put 95 = .ok (.ireturn, 1) := by decide +kernel
theorem dX4_cell_0 : decode cX4_cell 0 = .ok (.aload_n 0, 1) := by decide +kernel
theorem dX4_cell_1 : decode cX4_cell 1 = .ok (.iconst 0, 1) := by decide +kernel
theorem dX4_cell_2 : decode cX4_cell 2 = .ok (.putfield 49, 3) := by decide +kernel
theorem dX4_cell_5 : decode cX4_cell 5 = .ok (.iload_n 1, 1) := by decide +kernel
theorem dX4_cell_6 : decode cX4_cell 6 = .ok (.invokestatic 65, 3) := by decide +kernel
theorem dX4_cell_9 : decode cX4_cell 9 = .ok (.ifCond .eq 10, 3) := by decide +kernel
theorem dX4_cell_12 : decode cX4_cell 12 = .ok (.iload_n 3, 1) := by decide +kernel
theorem dX4_cell_13 : decode cX4_cell 13 = .ok (.invokestatic 69, 3) := by decide +kernel
theorem dX4_cell_16 : decode cX4_cell 16 = .ok (.ifCond .ne 7, 3) := by decide +kernel
theorem dX4_cell_19 : decode cX4_cell 19 = .ok (.ldc2_w 53, 3) := by decide +kernel
theorem dX4_cell_22 : decode cX4_cell 22 = .ok (.lreturn, 1) := by decide +kernel
theorem dX4_cell_23 : decode cX4_cell 23 = .ok (.aload_n 0, 1) := by decide +kernel
theorem dX4_cell_24 : decode cX4_cell 24 = .ok (.getfield 9, 3) := by decide +kernel
theorem dX4_cell_27 : decode cX4_cell 27 = .ok (.iload_n 1, 1) := by decide +kernel
theorem dX4_cell_28 : decode cX4_cell 28 = .ok (.iaload, 1) := by decide +kernel
theorem dX4_cell_29 : decode cX4_cell 29 = .ok (.bipush (-9), 2) := by decide +kernel
theorem dX4_cell_31 : decode cX4_cell 31 = .ok (.if_icmp .eq 19, 3) := by decide +kernel
theorem dX4_cell_34 : decode cX4_cell 34 = .ok (.aload_n 0, 1) := by decide +kernel
theorem dX4_cell_35 : decode cX4_cell 35 = .ok (.getfield 9, 3) := by decide +kernel
theorem dX4_cell_38 : decode cX4_cell 38 = .ok (.iload_n 1, 1) := by decide +kernel
theorem dX4_cell_39 : decode cX4_cell 39 = .ok (.iaload, 1) := by decide +kernel
theorem dX4_cell_40 : decode cX4_cell 40 = .ok (.iload_n 3, 1) := by decide +kernel
theorem dX4_cell_41 : decode cX4_cell 41 = .ok (.if_icmp .eq 9, 3) := by decide +kernel
theorem dX4_cell_44 : decode cX4_cell 44 = .ok (.aload_n 0, 1) := by decide +kernel
theorem dX4_cell_45 : decode cX4_cell 45 = .ok (.iconst 2, 1) := by decide +kernel
theorem dX4_cell_46 : decode cX4_cell 46 = .ok (.invokevirtual 185, 3) := by decide +kernel
theorem dX4_cell_49 : decode cX4_cell 49 = .ok (.lreturn, 1) := by decide +kernel
theorem dX4_cell_50 : decode cX4_cell 50 = .ok (.aload_n 0, 1) := by decide +kernel
theorem dX4_cell_51 : decode cX4_cell 51 = .ok (.getfield 9, 3) := by decide +kernel
theorem dX4_cell_54 : decode cX4_cell 54 = .ok (.iload_n 1, 1) := by decide +kernel
theorem dX4_cell_55 : decode cX4_cell 55 = .ok (.iaload, 1) := by decide +kernel
theorem dX4_cell_56 : decode cX4_cell 56 = .ok (.bipush (-9), 2) := by decide +kernel
theorem dX4_cell_58 : decode cX4_cell 58 = .ok (.if_icmp .ne 9, 3) := by decide +kernel
theorem dX4_cell_61 : decode cX4_cell 61 = .ok (.aload_n 0, 1) := by decide +kernel
theorem dX4_cell_62 : decode cX4_cell 62 = .ok (.iconst 1, 1) := by decide +kernel
theorem dX4_cell_63 : decode cX4_cell 63 = .ok (.invokevirtual 185, 3) := by decide +kernel
theorem dX4_cell_66 : decode cX4_cell 66 = .ok (.lreturn, 1) := by decide +kernel
theorem dX4_cell_67 : decode cX4_cell 67 = .ok (.iload_n 2, 1) := by decide +kernel
theorem dX4_cell_68 : decode cX4_cell 68 = .ok (.iconst 0, 1) := by decide +kernel
theorem dX4_cell_69 : decode cX4_cell 69 = .ok (.aload_n 0, 1) := by decide +kernel
theorem dX4_cell_70 : decode cX4_cell 70 = .ok (.getfield 13, 3) := by decide +kernel
theorem dX4_cell_73 : decode cX4_cell 73 = .ok (.iload_n 1, 1) := by decide +kernel
theorem dX4_cell_74 : decode cX4_cell 74 = .ok (.iaload, 1) := by decide +kernel
theorem dX4_cell_75 : decode cX4_cell 75 = .ok (.iconst 1, 1) := by decide +kernel
theorem dX4_cell_76 : decode cX4_cell 76 = .ok (.isub, 1) := by decide +kernel
theorem dX4_cell_77 : decode cX4_cell 77 = .ok (.invokestatic 55, 3) := by decide +kernel
theorem dX4_cell_80 : decode cX4_cell 80 = .ok (.ifCond .ne 9, 3) := by decide +kernel
theorem dX4_cell_83 : decode cX4_cell 83 = .ok (.aload_n 0, 1) := by decide +kernel
theorem dX4_cell_84 : decode cX4_cell 84 = .ok (.iconst 3, 1) := by decide +kernel
theorem dX4_cell_85 : decode cX4_cell 85 = .ok (.invokevirtual 185, 3) := by decide +kernel
theorem dX4_cell_88 : decode cX4_cell 88 = .ok (.lreturn, 1) := by decide +kernel
theorem dX4_cell_89 : decode cX4_cell 89 = .ok (.aload_n 0, 1) := by decide +kernel
theorem dX4_cell_90 : decode cX4_cell 90 = .ok (.getfield 16, 3) := by decide +kernel
theorem dX4_cell_93 : decode cX4_cell 93 = .ok (.bipush 60, 2) := by decide +kernel
theorem dX4_cell_95 : decode cX4_cell 95 = .ok (.iload_n 1, 1) := by decide +kernel
theorem dX4_cell_96 : decode cX4_cell 96 = .ok (.imul, 1) := by decide +kernel
theorem dX4_cell_97 : decode cX4_cell 97 = .ok (.iload_n 2, 1) := by decide +kernel
theorem dX4_cell_98 : decode cX4_cell 98 = .ok (.iadd, 1) := by decide +kernel
theorem dX4_cell_99 : decode cX4_cell 99 = .ok (.iaload, 1) := by decide +kernel
theorem dX4_cell_100 : decode cX4_cell 100 = .ok (.i2l, 1) := by decide +kernel
theorem dX4_cell_101 : decode cX4_cell 101 = .ok (.lreturn, 1) := by decide +kernel
theorem dX4_copy_0 : decode cX4_copy 0 = .ok (.aload_n 0, 1) := by decide +kernel
theorem dX4_copy_1 : decode cX4_copy 1 = .ok (.iconst 0, 1) := by decide +kernel
theorem dX4_copy_2 : decode cX4_copy 2 = .ok (.putfield 49, 3) := by decide +kernel
theorem dX4_copy_5 : decode cX4_copy 5 = .ok (.iload_n 1, 1) := by decide +kernel
theorem dX4_copy_6 : decode cX4_copy 6 = .ok (.invokestatic 65, 3) := by decide +kernel
theorem dX4_copy_9 : decode cX4_copy 9 = .ok (.ifCond .eq 10, 3) := by decide +kernel
theorem dX4_copy_12 : decode cX4_copy 12 = .ok (.iload_n 3, 1) := by decide +kernel
theorem dX4_copy_13 : decode cX4_copy 13 = .ok (.invokestatic 65, 3) := by decide +kernel
theorem dX4_copy_16 : decode cX4_copy 16 = .ok (.ifCond .ne 5, 3) := by decide +kernel
theorem dX4_copy_19 : decode cX4_copy 19 = .ok (.iconst (-1), 1) := by decide +kernel
theorem dX4_copy_20 : decode cX4_copy 20 = .ok (.ireturn, 1) := by decide +kernel
theorem dX4_copy_21 : decode cX4_copy 21 = .ok (.aload_n 0, 1) := by decide +kernel
theorem dX4_copy_22 : decode cX4_copy 22 = .ok (.getfield 9, 3) := by decide +kernel
theorem dX4_copy_25 : decode cX4_copy 25 = .ok (.iload_n 1, 1) := by decide +kernel
theorem dX4_copy_26 : decode cX4_copy 26 = .ok (.iaload, 1) := by decide +kernel
theorem dX4_copy_27 : decode cX4_copy 27 = .ok (.bipush (-9), 2) := by decide +kernel
theorem dX4_copy_29 : decode cX4_copy 29 = .ok (.if_icmp .eq 14, 3) := by decide +kernel
theorem dX4_copy_32 : decode cX4_copy 32 = .ok (.aload_n 0, 1) := by decide +kernel
theorem dX4_copy_33 : decode cX4_copy 33 = .ok (.getfield 9, 3) := by decide +kernel
theorem dX4_copy_36 : decode cX4_copy 36 = .ok (.iload_n 3, 1) := by decide +kernel
theorem dX4_copy_37 : decode cX4_copy 37 = .ok (.iaload, 1) := by decide +kernel
theorem dX4_copy_38 : decode cX4_copy 38 = .ok (.bipush (-9), 2) := by decide +kernel
theorem dX4_copy_40 : decode cX4_copy 40 = .ok (.if_icmp .ne 9, 3) := by decide +kernel
theorem dX4_copy_43 : decode cX4_copy 43 = .ok (.aload_n 0, 1) := by decide +kernel
theorem dX4_copy_44 : decode cX4_copy 44 = .ok (.iconst 1, 1) := by decide +kernel
theorem dX4_copy_45 : decode cX4_copy 45 = .ok (.invokevirtual 76, 3) := by decide +kernel
theorem dX4_copy_48 : decode cX4_copy 48 = .ok (.ireturn, 1) := by decide +kernel
theorem dX4_copy_49 : decode cX4_copy 49 = .ok (.aload_n 0, 1) := by decide +kernel
theorem dX4_copy_50 : decode cX4_copy 50 = .ok (.getfield 9, 3) := by decide +kernel
theorem dX4_copy_53 : decode cX4_copy 53 = .ok (.iload_n 1, 1) := by decide +kernel
theorem dX4_copy_54 : decode cX4_copy 54 = .ok (.iaload, 1) := by decide +kernel
theorem dX4_copy_55 : decode cX4_copy 55 = .ok (.aload_n 0, 1) := by decide +kernel
theorem dX4_copy_56 : decode cX4_copy 56 = .ok (.getfield 9, 3) := by decide +kernel
theorem dX4_copy_59 : decode cX4_copy 59 = .ok (.iload_n 3, 1) := by decide +kernel
theorem dX4_copy_60 : decode cX4_copy 60 = .ok (.iaload, 1) := by decide +kernel
theorem dX4_copy_61 : decode cX4_copy 61 = .ok (.if_icmp .eq 9, 3) := by decide +kernel
theorem dX4_copy_64 : decode cX4_copy 64 = .ok (.aload_n 0, 1) := by decide +kernel
theorem dX4_copy_65 : decode cX4_copy 65 = .ok (.iconst 2, 1) := by decide +kernel
theorem dX4_copy_66 : decode cX4_copy 66 = .ok (.invokevirtual 76, 3) := by decide +kernel
theorem dX4_copy_69 : decode cX4_copy 69 = .ok (.ireturn, 1) := by decide +kernel
theorem dX4_copy_70 : decode cX4_copy 70 = .ok (.iload_n 2, 1) := by decide +kernel
theorem dX4_copy_71 : decode cX4_copy 71 = .ok (.ifCond .lt 38, 3) := by decide +kernel
theorem dX4_copy_74 : decode cX4_copy 74 = .ok (.iload 4, 2) := by decide +kernel
theorem dX4_copy_76 : decode cX4_copy 76 = .ok (.ifCond .lt 33, 3) := by decide +kernel
theorem dX4_copy_79 : decode cX4_copy 79 = .ok (.iload 5, 2) := by decide +kernel
theorem dX4_copy_81 : decode cX4_copy 81 = .ok (.ifCond .lt 28, 3) := by decide +kernel
theorem dX4_copy_84 : decode cX4_copy 84 = .ok (.iload_n 2, 1) := by decide +kernel
theorem dX4_copy_85 : decode cX4_copy 85 = .ok (.aload_n 0, 1) := by decide +kernel
theorem dX4_copy_86 : decode cX4_copy 86 = .ok (.getfield 13, 3) := by decide +kernel
theorem dX4_copy_89 : decode cX4_copy 89 = .ok (.iload_n 1, 1) := by decide +kernel
theorem dX4_copy_90 : decode cX4_copy 90 = .ok (.iaload, 1) := by decide +kernel
theorem dX4_copy_91 : decode cX4_copy 91 = .ok (.if_icmp .gt 18, 3) := by decide +kernel
theorem dX4_copy_94 : decode cX4_copy 94 = .ok (.iload 4, 2) := by decide +kernel
theorem dX4_copy_96 : decode cX4_copy 96 = .ok (.aload_n 0, 1) := by decide +kernel
theorem dX4_copy_97 : decode cX4_copy 97 = .ok (.getfield 13, 3) := by decide +kernel
theorem dX4_copy_100 : decode cX4_copy 100 = .ok (.iload_n 3, 1) := by decide +kernel
theorem dX4_copy_101 : decode cX4_copy 101 = .ok (.iaload, 1) := by decide +kernel
theorem dX4_copy_102 : decode cX4_copy 102 = .ok (.if_icmp .gt 7, 3) := by decide +kernel
theorem dX4_copy_105 : decode cX4_copy 105 = .ok (.iconst 1, 1) := by decide +kernel
theorem dX4_copy_106 : decode cX4_copy 106 = .ok (.goto 4, 3) := by decide +kernel
theorem dX4_copy_109 : decode cX4_copy 109 = .ok (.iconst 0, 1) := by decide +kernel
theorem dX4_copy_110 : decode cX4_copy 110 = .ok (.istore 6, 2) := by decide +kernel
theorem dX4_copy_112 : decode cX4_copy 112 = .ok (.iload 6, 2) := by decide +kernel
theorem dX4_copy_114 : decode cX4_copy 114 = .ok (.ifCond .eq 30, 3) := by decide +kernel
theorem dX4_copy_117 : decode cX4_copy 117 = .ok (.iload 5, 2) := by decide +kernel
theorem dX4_copy_119 : decode cX4_copy 119 = .ok (.aload_n 0, 1) := by decide +kernel
theorem dX4_copy_120 : decode cX4_copy 120 = .ok (.getfield 13, 3) := by decide +kernel
theorem dX4_copy_123 : decode cX4_copy 123 = .ok (.iload_n 1, 1) := by decide +kernel
theorem dX4_copy_124 : decode cX4_copy 124 = .ok (.iaload, 1) := by decide +kernel
theorem dX4_copy_125 : decode cX4_copy 125 = .ok (.iload_n 2, 1) := by decide +kernel
theorem dX4_copy_126 : decode cX4_copy 126 = .ok (.isub, 1) := by decide +kernel
theorem dX4_copy_127 : decode cX4_copy 127 = .ok (.if_icmp .gt 17, 3) := by decide +kernel
theorem dX4_copy_130 : decode cX4_copy 130 = .ok (.iload 5, 2) := by decide +kernel
theorem dX4_copy_132 : decode cX4_copy 132 = .ok (.aload_n 0, 1) := by decide +kernel
theorem dX4_copy_133 : decode cX4_copy 133 = .ok (.getfield 13, 3) := by decide +kernel
theorem dX4_copy_136 : decode cX4_copy 136 = .ok (.iload_n 3, 1) := by decide +kernel
theorem dX4_copy_137 : decode cX4_copy 137 = .ok (.iaload, 1) := by decide +kernel
theorem dX4_copy_138 : decode cX4_copy 138 = .ok (.iload 4, 2) := by decide +kernel
theorem dX4_copy_140 : decode cX4_copy 140 = .ok (.isub, 1) := by decide +kernel
theorem dX4_copy_141 : decode cX4_copy 141 = .ok (.if_icmp .le 9, 3) := by decide +kernel
theorem dX4_copy_144 : decode cX4_copy 144 = .ok (.aload_n 0, 1) := by decide +kernel
theorem dX4_copy_145 : decode cX4_copy 145 = .ok (.iconst 3, 1) := by decide +kernel
theorem dX4_copy_146 : decode cX4_copy 146 = .ok (.invokevirtual 76, 3) := by decide +kernel
theorem dX4_copy_149 : decode cX4_copy 149 = .ok (.ireturn, 1) := by decide +kernel
theorem dX4_copy_150 : decode cX4_copy 150 = .ok (.iload_n 2, 1) := by decide +kernel
theorem dX4_copy_151 : decode cX4_copy 151 = .ok (.iload 4, 2) := by decide +kernel
theorem dX4_copy_153 : decode cX4_copy 153 = .ok (.if_icmp .ge 7, 3) := by decide +kernel
theorem dX4_copy_156 : decode cX4_copy 156 = .ok (.iconst 1, 1) := by decide +kernel
theorem dX4_copy_157 : decode cX4_copy 157 = .ok (.goto 4, 3) := by decide +kernel
theorem dX4_copy_160 : decode cX4_copy 160 = .ok (.iconst 0, 1) := by decide +kernel
theorem dX4_copy_161 : decode cX4_copy 161 = .ok (.istore 7, 2) := by decide +kernel
theorem dX4_copy_163 : decode cX4_copy 163 = .ok (.iconst 0, 1) := by decide +kernel
theorem dX4_copy_164 : decode cX4_copy 164 = .ok (.istore 8, 2) := by decide +kernel
theorem dX4_copy_166 : decode cX4_copy 166 = .ok (.iload 8, 2) := by decide +kernel
theorem dX4_copy_168 : decode cX4_copy 168 = .ok (.iload 5, 2) := by decide +kernel
theorem dX4_copy_170 : decode cX4_copy 170 = .ok (.if_icmp .ge 57, 3) := by decide +kernel
theorem dX4_copy_173 : decode cX4_copy 173 = .ok (.iload 7, 2) := by decide +kernel
theorem dX4_copy_175 : decode cX4_copy 175 = .ok (.ifCond .eq 13, 3) := by decide +kernel
theorem dX4_copy_178 : decode cX4_copy 178 = .ok (.iload 5, 2) := by decide +kernel
theorem dX4_copy_180 : decode cX4_copy 180 = .ok (.iconst 1, 1) := by decide +kernel
theorem dX4_copy_181 : decode cX4_copy 181 = .ok (.isub, 1) := by decide +kernel
theorem dX4_copy_182 : decode cX4_copy 182 = .ok (.iload 8, 2) := by decide +kernel
theorem dX4_copy_184 : decode cX4_copy 184 = .ok (.isub, 1) := by decide +kernel
theorem dX4_copy_185 : decode cX4_copy 185 = .ok (.goto 5, 3) := by decide +kernel
theorem dX4_copy_188 : decode cX4_copy 188 = .ok (.iload 8, 2) := by decide +kernel
theorem dX4_copy_190 : decode cX4_copy 190 = .ok (.istore 9, 2) := by decide +kernel
theorem dX4_copy_192 : decode cX4_copy 192 = .ok (.aload_n 0, 1) := by decide +kernel
theorem dX4_copy_193 : decode cX4_copy 193 = .ok (.getfield 16, 3) := by decide +kernel
theorem dX4_copy_196 : decode cX4_copy 196 = .ok (.bipush 60, 2) := by decide +kernel
theorem dX4_copy_198 : decode cX4_copy 198 = .ok (.iload_n 3, 1) := by decide +kernel
theorem dX4_copy_199 : decode cX4_copy 199 = .ok (.imul, 1) := by decide +kernel
theorem dX4_copy_200 : decode cX4_copy 200 = .ok (.iload 4, 2) := by decide +kernel
theorem dX4_copy_202 : decode cX4_copy 202 = .ok (.iadd, 1) := by decide +kernel
theorem dX4_copy_203 : decode cX4_copy 203 = .ok (.iload 9, 2) := by decide +kernel
theorem dX4_copy_205 : decode cX4_copy 205 = .ok (.iadd, 1) := by decide +kernel
theorem dX4_copy_206 : decode cX4_copy 206 = .ok (.aload_n 0, 1) := by decide +kernel
theorem dX4_copy_207 : decode cX4_copy 207 = .ok (.getfield 16, 3) := by decide +kernel
theorem dX4_copy_210 : decode cX4_copy 210 = .ok (.bipush 60, 2) := by decide +kernel
theorem dX4_copy_212 : decode cX4_copy 212 = .ok (.iload_n 1, 1) := by decide +kernel
theorem dX4_copy_213 : decode cX4_copy 213 = .ok (.imul, 1) := by decide +kernel
theorem dX4_copy_214 : decode cX4_copy 214 = .ok (.iload_n 2, 1) := by decide +kernel
theorem dX4_copy_215 : decode cX4_copy 215 = .ok (.iadd, 1) := by decide +kernel
theorem dX4_copy_216 : decode cX4_copy 216 = .ok (.iload 9, 2) := by decide +kernel
theorem dX4_copy_218 : decode cX4_copy 218 = .ok (.iadd, 1) := by decide +kernel
theorem dX4_copy_219 : decode cX4_copy 219 = .ok (.iaload, 1) := by decide +kernel
theorem dX4_copy_220 : decode cX4_copy 220 = .ok (.iastore, 1) := by decide +kernel
theorem dX4_copy_221 : decode cX4_copy 221 = .ok (.iinc 8 1, 3) := by decide +kernel
theorem dX4_copy_224 : decode cX4_copy 224 = .ok (.goto (-58), 3) := by decide +kernel
theorem dX4_copy_227 : decode cX4_copy 227 = .ok (.iload 5, 2) := by decide +kernel
theorem dX4_copy_229 : decode cX4_copy 229 = .ok (.ireturn, 1) := by decide +kernel
theorem dX4_begins_0 : decode cX4_begins 0 = .ok (.aload_n 0, 1) := by decide +kernel
theorem dX4_begins_1 : decode cX4_begins 1 = .ok (.bipush 31, 2) := by decide +kernel
theorem dX4_begins_3 : decode cX4_begins 3 = .ok (.aload_n 0, 1) := by decide +kernel
theorem dX4_begins_4 : decode cX4_begins 4 = .ok (.getfield 189, 3) := by decide +kernel
theorem dX4_begins_7 : decode cX4_begins 7 = .ok (.imul, 1) := by decide +kernel
theorem dX4_begins_8 : decode cX4_begins 8 = .ok (.iload_n 1, 1) := by decide +kernel
theorem dX4_begins_9 : decode cX4_begins 9 = .ok (.iadd, 1) := by decide +kernel
theorem dX4_begins_10 : decode cX4_begins 10 = .ok (.putfield 189, 3) := by decide +kernel
theorem dX4_begins_13 : decode cX4_begins 13 = .ok (.return_, 1) := by decide +kernel
theorem dX4_tell_0 : decode cX4_tell 0 = .ok (.aload_n 0, 1) := by decide +kernel
theorem dX4_tell_1 : decode cX4_tell 1 = .ok (.iload_n 1, 1) := by decide +kernel
theorem dX4_tell_2 : decode cX4_tell 2 = .ok (.invokevirtual 115, 3) := by decide +kernel
theorem dX4_tell_5 : decode cX4_tell 5 = .ok (.ifCond .ne 5, 3) := by decide +kernel
theorem dX4_tell_8 : decode cX4_tell 8 = .ok (.iconst (-1), 1) := by decide +kernel
theorem dX4_tell_9 : decode cX4_tell 9 = .ok (.ireturn, 1) := by decide +kernel
theorem dX4_tell_10 : decode cX4_tell 10 = .ok (.aload_n 0, 1) := by decide +kernel
theorem dX4_tell_11 : decode cX4_tell 11 = .ok (.iload_n 1, 1) := by decide +kernel
theorem dX4_tell_12 : decode cX4_tell 12 = .ok (.invokevirtual 118, 3) := by decide +kernel
theorem dX4_tell_15 : decode cX4_tell 15 = .ok (.istore_n 2, 1) := by decide +kernel
theorem dX4_tell_16 : decode cX4_tell 16 = .ok (.aload_n 0, 1) := by decide +kernel
theorem dX4_tell_17 : decode cX4_tell 17 = .ok (.getfield 19, 3) := by decide +kernel
theorem dX4_tell_20 : decode cX4_tell 20 = .ok (.iload_n 1, 1) := by decide +kernel
theorem dX4_tell_21 : decode cX4_tell 21 = .ok (.iaload, 1) := by decide +kernel
theorem dX4_tell_22 : decode cX4_tell 22 = .ok (.lookupswitch 68 #[(1, 26), (2, 41)], 26) := by decide +kernel
theorem dX4_tell_48 : decode cX4_tell 48 = .ok (.aload_n 0, 1) := by decide +kernel
theorem dX4_tell_49 : decode cX4_tell 49 = .ok (.iconst 2, 1) := by decide +kernel
theorem dX4_tell_50 : decode cX4_tell 50 = .ok (.invokevirtual 192, 3) := by decide +kernel
theorem dX4_tell_53 : decode cX4_tell 53 = .ok (.aload_n 0, 1) := by decide +kernel
theorem dX4_tell_54 : decode cX4_tell 54 = .ok (.iconst 1, 1) := by decide +kernel
theorem dX4_tell_55 : decode cX4_tell 55 = .ok (.invokevirtual 192, 3) := by decide +kernel
theorem dX4_tell_58 : decode cX4_tell 58 = .ok (.iload_n 2, 1) := by decide +kernel
theorem dX4_tell_59 : decode cX4_tell 59 = .ok (.bipush 100, 2) := by decide +kernel
theorem dX4_tell_61 : decode cX4_tell 61 = .ok (.iadd, 1) := by decide +kernel
theorem dX4_tell_62 : decode cX4_tell 62 = .ok (.ireturn, 1) := by decide +kernel
theorem dX4_tell_63 : decode cX4_tell 63 = .ok (.aload_n 0, 1) := by decide +kernel
theorem dX4_tell_64 : decode cX4_tell 64 = .ok (.iconst 3, 1) := by decide +kernel
theorem dX4_tell_65 : decode cX4_tell 65 = .ok (.invokevirtual 192, 3) := by decide +kernel
theorem dX4_tell_68 : decode cX4_tell 68 = .ok (.aload_n 0, 1) := by decide +kernel
theorem dX4_tell_69 : decode cX4_tell 69 = .ok (.iconst 2, 1) := by decide +kernel
theorem dX4_tell_70 : decode cX4_tell 70 = .ok (.invokevirtual 192, 3) := by decide +kernel
theorem dX4_tell_73 : decode cX4_tell 73 = .ok (.aload_n 0, 1) := by decide +kernel
theorem dX4_tell_74 : decode cX4_tell 74 = .ok (.iconst 1, 1) := by decide +kernel
theorem dX4_tell_75 : decode cX4_tell 75 = .ok (.invokevirtual 192, 3) := by decide +kernel
theorem dX4_tell_78 : decode cX4_tell 78 = .ok (.aload_n 0, 1) := by decide +kernel
theorem dX4_tell_79 : decode cX4_tell 79 = .ok (.iconst 1, 1) := by decide +kernel
theorem dX4_tell_80 : decode cX4_tell 80 = .ok (.invokevirtual 192, 3) := by decide +kernel
theorem dX4_tell_83 : decode cX4_tell 83 = .ok (.iconst 2, 1) := by decide +kernel
theorem dX4_tell_84 : decode cX4_tell 84 = .ok (.iload_n 2, 1) := by decide +kernel
theorem dX4_tell_85 : decode cX4_tell 85 = .ok (.imul, 1) := by decide +kernel
theorem dX4_tell_86 : decode cX4_tell 86 = .ok (.bipush 100, 2) := by decide +kernel
theorem dX4_tell_88 : decode cX4_tell 88 = .ok (.iadd, 1) := by decide +kernel
theorem dX4_tell_89 : decode cX4_tell 89 = .ok (.ireturn, 1) := by decide +kernel
theorem dX4_tell_90 : decode cX4_tell 90 = .ok (.aload_n 0, 1) := by decide +kernel
theorem dX4_tell_91 : decode cX4_tell 91 = .ok (.iconst 1, 1) := by decide +kernel
theorem dX4_tell_92 : decode cX4_tell 92 = .ok (.invokevirtual 192, 3) := by decide +kernel
theorem dX4_tell_95 : decode cX4_tell 95 = .ok (.iload_n 2, 1) := by decide +kernel
theorem dX4_tell_96 : decode cX4_tell 96 = .ok (.ireturn, 1) := by decide +kernel
theorem dX4_hail_0 : decode cX4_hail 0 = .ok (.aload_n 0, 1) := by decide +kernel
theorem dX4_hail_1 : decode cX4_hail 1 = .ok (.iload_n 1, 1) := by decide +kernel
theorem dX4_hail_2 : decode cX4_hail 2 = .ok (.invokevirtual 115, 3) := by decide +kernel
theorem dX4_hail_5 : decode cX4_hail 5 = .ok (.ifCond .ne 5, 3) := by decide +kernel
theorem dX4_hail_8 : decode cX4_hail 8 = .ok (.iconst (-1), 1) := by decide +kernel
theorem dX4_hail_9 : decode cX4_hail 9 = .ok (.ireturn, 1) := by decide +kernel
theorem dX4_hail_10 : decode cX4_hail 10 = .ok (.aload_n 0, 1) := by decide +kernel
theorem dX4_hail_11 : decode cX4_hail 11 = .ok (.aload_n 0, 1) := by decide +kernel
theorem dX4_hail_12 : decode cX4_hail 12 = .ok (.getfield 19, 3) := by decide +kernel
theorem dX4_hail_15 : decode cX4_hail 15 = .ok (.iload_n 1, 1) := by decide +kernel
theorem dX4_hail_16 : decode cX4_hail 16 = .ok (.iaload, 1) := by decide +kernel
theorem dX4_hail_17 : decode cX4_hail 17 = .ok (.iconst 2, 1) := by decide +kernel
theorem dX4_hail_18 : decode cX4_hail 18 = .ok (.if_icmp .ne 7, 3) := by decide +kernel
theorem dX4_hail_21 : decode cX4_hail 21 = .ok (.iconst 5, 1) := by decide +kernel
theorem dX4_hail_22 : decode cX4_hail 22 = .ok (.goto 4, 3) := by decide +kernel
theorem dX4_hail_25 : decode cX4_hail 25 = .ok (.iconst 4, 1) := by decide +kernel
theorem dX4_hail_26 : decode cX4_hail 26 = .ok (.invokevirtual 192, 3) := by decide +kernel
theorem dX4_hail_29 : decode cX4_hail 29 = .ok (.aload_n 0, 1) := by decide +kernel
theorem dX4_hail_30 : decode cX4_hail 30 = .ok (.getfield 19, 3) := by decide +kernel
theorem dX4_hail_33 : decode cX4_hail 33 = .ok (.iload_n 1, 1) := by decide +kernel
theorem dX4_hail_34 : decode cX4_hail 34 = .ok (.iaload, 1) := by decide +kernel
theorem dX4_hail_35 : decode cX4_hail 35 = .ok (.iconst 2, 1) := by decide +kernel
theorem dX4_hail_36 : decode cX4_hail 36 = .ok (.if_icmp .ne 8, 3) := by decide +kernel
theorem dX4_hail_39 : decode cX4_hail 39 = .ok (.bipush 40, 2) := by decide +kernel
theorem dX4_hail_41 : decode cX4_hail 41 = .ok (.goto 4, 3) := by decide +kernel
theorem dX4_hail_44 : decode cX4_hail 44 = .ok (.iload_n 1, 1) := by decide +kernel
theorem dX4_hail_45 : decode cX4_hail 45 = .ok (.ireturn, 1) := by decide +kernel
theorem dX4_as_0 : decode cX4_as 0 = .ok (.aload_n 0, 1) := by decide +kernel
theorem dX4_as_1 : decode cX4_as 1 = .ok (.iconst 0, 1) := by decide +kernel
theorem dX4_as_2 : decode cX4_as 2 = .ok (.putfield 49, 3) := by decide +kernel
theorem dX4_as_5 : decode cX4_as 5 = .ok (.aload_n 0, 1) := by decide +kernel
theorem dX4_as_6 : decode cX4_as 6 = .ok (.iload_n 1, 1) := by decide +kernel
theorem dX4_as_7 : decode cX4_as 7 = .ok (.invokevirtual 115, 3) := by decide +kernel
theorem dX4_as_10 : decode cX4_as 10 = .ok (.ifCond .ne 5, 3) := by decide +kernel
theorem dX4_as_13 : decode cX4_as 13 = .ok (.iconst (-1), 1) := by decide +kernel
theorem dX4_as_14 : decode cX4_as 14 = .ok (.ireturn, 1) := by decide +kernel
theorem dX4_as_15 : decode cX4_as 15 = .ok (.iload_n 2, 1) := by decide +kernel
theorem dX4_as_16 : decode cX4_as 16 = .ok (.iconst 0, 1) := by decide +kernel
theorem dX4_as_17 : decode cX4_as 17 = .ok (.iconst 2, 1) := by decide +kernel
theorem dX4_as_18 : decode cX4_as 18 = .ok (.invokestatic 55, 3) := by decide +kernel
theorem dX4_as_21 : decode cX4_as 21 = .ok (.ifCond .ne 6, 3) := by decide +kernel
theorem dX4_as_24 : decode cX4_as 24 = .ok (.bipush (-2), 2) := by decide +kernel
theorem dX4_as_26 : decode cX4_as 26 = .ok (.ireturn, 1) := by decide +kernel
theorem dX4_as_27 : decode cX4_as 27 = .ok (.aload_n 0, 1) := by decide +kernel
theorem dX4_as_28 : decode cX4_as 28 = .ok (.getfield 19, 3) := by decide +kernel
theorem dX4_as_31 : decode cX4_as 31 = .ok (.iload_n 1, 1) := by decide +kernel
theorem dX4_as_32 : decode cX4_as 32 = .ok (.iaload, 1) := by decide +kernel
theorem dX4_as_33 : decode cX4_as 33 = .ok (.iload_n 2, 1) := by decide +kernel
theorem dX4_as_34 : decode cX4_as 34 = .ok (.if_icmp .lt 7, 3) := by decide +kernel
theorem dX4_as_37 : decode cX4_as 37 = .ok (.iconst 1, 1) := by decide +kernel
theorem dX4_as_38 : decode cX4_as 38 = .ok (.goto 8, 3) := by decide +kernel
theorem dX4_as_41 : decode cX4_as 41 = .ok (.aload_n 0, 1) := by decide +kernel
theorem dX4_as_42 : decode cX4_as 42 = .ok (.iconst 2, 1) := by decide +kernel
theorem dX4_as_43 : decode cX4_as 43 = .ok (.invokevirtual 76, 3) := by decide +kernel
theorem dX4_as_46 : decode cX4_as 46 = .ok (.ireturn, 1) := by decide +kernel
theorem dX4_trace_0 : decode cX4_trace 0 = .ok (.aload_n 0, 1) := by decide +kernel
theorem dX4_trace_1 : decode cX4_trace 1 = .ok (.getfield 189, 3) := by decide +kernel
theorem dX4_trace_4 : decode cX4_trace 4 = .ok (.ireturn, 1) := by decide +kernel
theorem dX4_fault_0 : decode cX4_fault 0 = .ok (.aload_n 0, 1) := by decide +kernel
theorem dX4_fault_1 : decode cX4_fault 1 = .ok (.getfield 49, 3) := by decide +kernel
theorem dX4_fault_4 : decode cX4_fault 4 = .ok (.ireturn, 1) := by decide +kernel
theorem dX4_many_0 : decode cX4_many 0 = .ok (.iload_n 1, 1) := by decide +kernel
theorem dX4_many_1 : decode cX4_many 1 = .ok (.ifCond .ne 10, 3) := by decide +kernel
theorem dX4_many_4 : decode cX4_many 4 = .ok (.aload_n 0, 1) := by decide +kernel
theorem dX4_many_5 : decode cX4_many 5 = .ok (.getfield 59, 3) := by decide +kernel
theorem dX4_many_8 : decode cX4_many 8 = .ok (.goto 41, 3) := by decide +kernel
theorem dX4_many_11 : decode cX4_many 11 = .ok (.iload_n 1, 1) := by decide +kernel
theorem dX4_many_12 : decode cX4_many 12 = .ok (.iconst 1, 1) := by decide +kernel
theorem dX4_many_13 : decode cX4_many 13 = .ok (.if_icmp .ne 10, 3) := by decide +kernel
theorem dX4_many_16 : decode cX4_many 16 = .ok (.aload_n 0, 1) := by decide +kernel
theorem dX4_many_17 : decode cX4_many 17 = .ok (.getfield 92, 3) := by decide +kernel
theorem dX4_many_20 : decode cX4_many 20 = .ok (.goto 29, 3) := by decide +kernel
theorem dX4_many_23 : decode cX4_many 23 = .ok (.iload_n 1, 1) := by decide +kernel
theorem dX4_many_24 : decode cX4_many 24 = .ok (.iconst 2, 1) := by decide +kernel
theorem dX4_many_25 : decode cX4_many 25 = .ok (.if_icmp .ne 10, 3) := by decide +kernel
theorem dX4_many_28 : decode cX4_many 28 = .ok (.aload_n 0, 1) := by decide +kernel
theorem dX4_many_29 : decode cX4_many 29 = .ok (.getfield 98, 3) := by decide +kernel
theorem dX4_many_32 : decode cX4_many 32 = .ok (.goto 17, 3) := by decide +kernel
theorem dX4_many_35 : decode cX4_many 35 = .ok (.iload_n 1, 1) := by decide +kernel
theorem dX4_many_36 : decode cX4_many 36 = .ok (.iconst 3, 1) := by decide +kernel
theorem dX4_many_37 : decode cX4_many 37 = .ok (.if_icmp .ne 10, 3) := by decide +kernel
theorem dX4_many_40 : decode cX4_many 40 = .ok (.aload_n 0, 1) := by decide +kernel
theorem dX4_many_41 : decode cX4_many 41 = .ok (.getfield 101, 3) := by decide +kernel
theorem dX4_many_44 : decode cX4_many 44 = .ok (.goto 5, 3) := by decide +kernel
theorem dX4_many_47 : decode cX4_many 47 = .ok (.bipush (-2), 2) := by decide +kernel
theorem dX4_many_49 : decode cX4_many 49 = .ok (.ireturn, 1) := by decide +kernel
