theorem dX0_init_0 : decode cX0_init 0 = .ok (.aload_n 0, 1) := by decide +kernel
theorem dX0_init_1 : decode cX0_init 1 = .ok (.invokespecial 3, 3) := by decide +kernel
theorem dX0_init_4 : decode cX0_init 4 = .ok (.aload_n 0, 1) := by decide +kernel
theorem dX0_init_5 : decode cX0_init 5 = .ok (.iconst 5, 1) := by decide +kernel
theorem dX0_init_6 : decode cX0_init 6 = .ok (.newarray .int, 2) := by decide +kernel
theorem dX0_init_8 : decode cX0_init 8 = .ok (.putfield 9, 3) := by decide +kernel
theorem dX0_init_11 : decode cX0_init 11 = .ok (.aload_n 0, 1) := by decide +kernel
theorem dX0_init_12 : decode cX0_init 12 = .ok (.iconst 5, 1) := by decide +kernel
theorem dX0_init_13 : decode cX0_init 13 = .ok (.iconst 5, 1) := by decide +kernel
theorem dX0_init_14 : decode cX0_init 14 = .ok (.multianewarray 15 2, 4) := by decide +kernel
theorem dX0_init_18 : decode cX0_init 18 = .ok (.putfield 17, 3) := by decide +kernel
theorem dX0_init_21 : decode cX0_init 21 = .ok (.aload_n 0, 1) := by decide +kernel
theorem dX0_init_22 : decode cX0_init 22 = .ok (.bipush 8, 2) := by decide +kernel
theorem dX0_init_24 : decode cX0_init 24 = .ok (.newarray .int, 2) := by decide +kernel
theorem dX0_init_26 : decode cX0_init 26 = .ok (.putfield 20, 3) := by decide +kernel
theorem dX0_init_29 : decode cX0_init 29 = .ok (.aload_n 0, 1) := by decide +kernel
theorem dX0_init_30 : decode cX0_init 30 = .ok (.bipush 8, 2) := by decide +kernel
theorem dX0_init_32 : decode cX0_init 32 = .ok (.newarray .int, 2) := by decide +kernel
theorem dX0_init_34 : decode cX0_init 34 = .ok (.putfield 23, 3) := by decide +kernel
theorem dX0_init_37 : decode cX0_init 37 = .ok (.aload_n 0, 1) := by decide +kernel
theorem dX0_init_38 : decode cX0_init 38 = .ok (.bipush 32, 2) := by decide +kernel
theorem dX0_init_40 : decode cX0_init 40 = .ok (.newarray .int, 2) := by decide +kernel
theorem dX0_init_42 : decode cX0_init 42 = .ok (.putfield 26, 3) := by decide +kernel
theorem dX0_init_45 : decode cX0_init 45 = .ok (.aload_n 0, 1) := by decide +kernel
theorem dX0_init_46 : decode cX0_init 46 = .ok (.bipush 32, 2) := by decide +kernel
theorem dX0_init_48 : decode cX0_init 48 = .ok (.newarray .boolean, 2) := by decide +kernel
theorem dX0_init_50 : decode cX0_init 50 = .ok (.putfield 29, 3) := by decide +kernel
theorem dX0_init_53 : decode cX0_init 53 = .ok (.return_, 1) := by decide +kernel
theorem dX0_isThere_0 : decode cX0_isThere 0 = .ok (.aload_n 0, 1) := by decide +kernel
theorem dX0_isThere_1 : decode cX0_isThere 1 = .ok (.getfield 33, 3) := by decide +kernel
theorem dX0_isThere_4 : decode cX0_isThere 4 = .ok (.ifCond .le 7, 3) := by decide +kernel
theorem dX0_isThere_7 : decode cX0_isThere 7 = .ok (.iconst 1, 1) := by decide +kernel
theorem dX0_isThere_8 : decode cX0_isThere 8 = .ok (.goto 4, 3) := by decide +kernel
theorem dX0_isThere_11 : decode cX0_isThere 11 = .ok (.iconst 0, 1) := by decide +kernel
theorem dX0_isThere_12 : decode cX0_isThere 12 = .ok (.ireturn, 1) := by decide +kernel
theorem dX0_isPerson_0 : decode cX0_isPerson 0 = .ok (.iload_n 1, 1) := by decide +kernel
theorem dX0_isPerson_1 : decode cX0_isPerson 1 = .ok (.ifCond .lt 15, 3) := by decide +kernel
theorem dX0_isPerson_4 : decode cX0_isPerson 4 = .ok (.iload_n 1, 1) := by decide +kernel
theorem dX0_isPerson_5 : decode cX0_isPerson 5 = .ok (.aload_n 0, 1) := by decide +kernel
theorem dX0_isPerson_6 : decode cX0_isPerson 6 = .ok (.getfield 33, 3) := by decide +kernel
theorem dX0_isPerson_9 : decode cX0_isPerson 9 = .ok (.if_icmp .ge 7, 3) := by decide +kernel
theorem dX0_isPerson_12 : decode cX0_isPerson 12 = .ok (.iconst 1, 1) := by decide +kernel
theorem dX0_isPerson_13 : decode cX0_isPerson 13 = .ok (.goto 4, 3) := by decide +kernel
theorem dX0_isPerson_16 : decode cX0_isPerson 16 = .ok (.iconst 0, 1) := by decide +kernel
theorem dX0_isPerson_17 : decode cX0_isPerson 17 = .ok (.ireturn, 1) := by decide +kernel
theorem dX0_isPair_0 : decode cX0_isPair 0 = .ok (.aload_n 0, 1) := by decide +kernel
theorem dX0_isPair_1 : decode cX0_isPair 1 = .ok (.iload_n 1, 1) := by decide +kernel
theorem dX0_isPair_2 : decode cX0_isPair 2 = .ok (.invokevirtual 37, 3) := by decide +kernel
theorem dX0_isPair_5 : decode cX0_isPair 5 = .ok (.ifCond .eq 20, 3) := by decide +kernel
theorem dX0_isPair_8 : decode cX0_isPair 8 = .ok (.aload_n 0, 1) := by decide +kernel
theorem dX0_isPair_9 : decode cX0_isPair 9 = .ok (.iload_n 2, 1) := by decide +kernel
theorem dX0_isPair_10 : decode cX0_isPair 10 = .ok (.invokevirtual 37, 3) := by decide +kernel
theorem dX0_isPair_13 : decode cX0_isPair 13 = .ok (.ifCond .eq 12, 3) := by decide +kernel
theorem dX0_isPair_16 : decode cX0_isPair 16 = .ok (.iload_n 1, 1) := by decide +kernel
theorem dX0_isPair_17 : decode cX0_isPair 17 = .ok (.iload_n 2, 1) := by decide +kernel
theorem dX0_isPair_18 : decode cX0_isPair 18 = .ok (.if_icmp .eq 7, 3) := by decide +kernel
theorem dX0_isPair_21 : decode cX0_isPair 21 = .ok (.iconst 1, 1) := by decide +kernel
theorem dX0_isPair_22 : decode cX0_isPair 22 = .ok (.goto 4, 3) := by decide +kernel
theorem dX0_isPair_25 : decode cX0_isPair 25 = .ok (.iconst 0, 1) := by decide +kernel
theorem dX0_isPair_26 : decode cX0_isPair 26 = .ok (.ireturn, 1) := by decide +kernel
theorem dX0_everybody_0 : decode cX0_everybody 0 = .ok (.iconst 1, 1) := by decide +kernel
theorem dX0_everybody_1 : decode cX0_everybody 1 = .ok (.aload_n 0, 1) := by decide +kernel
theorem dX0_everybody_2 : decode cX0_everybody 2 = .ok (.getfield 33, 3) := by decide +kernel
theorem dX0_everybody_5 : decode cX0_everybody 5 = .ok (.ishl, 1) := by decide +kernel
theorem dX0_everybody_6 : decode cX0_everybody 6 = .ok (.iconst 1, 1) := by decide +kernel
theorem dX0_everybody_7 : decode cX0_everybody 7 = .ok (.isub, 1) := by decide +kernel
theorem dX0_everybody_8 : decode cX0_everybody 8 = .ok (.ireturn, 1) := by decide +kernel
theorem dX0_isLoad_0 : decode cX0_isLoad 0 = .ok (.iload_n 1, 1) := by decide +kernel
theorem dX0_isLoad_1 : decode cX0_isLoad 1 = .ok (.ifCond .lt 15, 3) := by decide +kernel
theorem dX0_isLoad_4 : decode cX0_isLoad 4 = .ok (.iload_n 1, 1) := by decide +kernel
theorem dX0_isLoad_5 : decode cX0_isLoad 5 = .ok (.aload_n 0, 1) := by decide +kernel
theorem dX0_isLoad_6 : decode cX0_isLoad 6 = .ok (.invokevirtual 41, 3) := by decide +kernel
theorem dX0_isLoad_9 : decode cX0_isLoad 9 = .ok (.if_icmp .gt 7, 3) := by decide +kernel
theorem dX0_isLoad_12 : decode cX0_isLoad 12 = .ok (.iconst 1, 1) := by decide +kernel
theorem dX0_isLoad_13 : decode cX0_isLoad 13 = .ok (.goto 4, 3) := by decide +kernel
theorem dX0_isLoad_16 : decode cX0_isLoad 16 = .ok (.iconst 0, 1) := by decide +kernel
theorem dX0_isLoad_17 : decode cX0_isLoad 17 = .ok (.ireturn, 1) := by decide +kernel
theorem dX0_takeText_0 : decode cX0_takeText 0 = .ok (.aload_n 0, 1) := by decide +kernel
theorem dX0_takeText_1 : decode cX0_takeText 1 = .ok (.aload_n 1, 1) := by decide +kernel
theorem dX0_takeText_2 : decode cX0_takeText 2 = .ok (.getfield 45, 3) := by decide +kernel
theorem dX0_takeText_5 : decode cX0_takeText 5 = .ok (.iload_n 2, 1) := by decide +kernel
theorem dX0_takeText_6 : decode cX0_takeText 6 = .ok (.iconst 1, 1) := by decide +kernel
theorem dX0_takeText_7 : decode cX0_takeText 7 = .ok (.iadd, 1) := by decide +kernel
theorem dX0_takeText_8 : decode cX0_takeText 8 = .ok (.iaload, 1) := by decide +kernel
theorem dX0_takeText_9 : decode cX0_takeText 9 = .ok (.bipush 48, 2) := by decide +kernel
theorem dX0_takeText_11 : decode cX0_takeText 11 = .ok (.isub, 1) := by decide +kernel
theorem dX0_takeText_12 : decode cX0_takeText 12 = .ok (.putfield 50, 3) := by decide +kernel
theorem dX0_takeText_15 : decode cX0_takeText 15 = .ok (.aload_n 0, 1) := by decide +kernel
theorem dX0_takeText_16 : decode cX0_takeText 16 = .ok (.aload_n 1, 1) := by decide +kernel
theorem dX0_takeText_17 : decode cX0_takeText 17 = .ok (.getfield 45, 3) := by decide +kernel
theorem dX0_takeText_20 : decode cX0_takeText 20 = .ok (.iload_n 2, 1) := by decide +kernel
theorem dX0_takeText_21 : decode cX0_takeText 21 = .ok (.iconst 2, 1) := by decide +kernel
theorem dX0_takeText_22 : decode cX0_takeText 22 = .ok (.iadd, 1) := by decide +kernel
theorem dX0_takeText_23 : decode cX0_takeText 23 = .ok (.iaload, 1) := by decide +kernel
theorem dX0_takeText_24 : decode cX0_takeText 24 = .ok (.bipush 48, 2) := by decide +kernel
theorem dX0_takeText_26 : decode cX0_takeText 26 = .ok (.isub, 1) := by decide +kernel
theorem dX0_takeText_27 : decode cX0_takeText 27 = .ok (.putfield 53, 3) := by decide +kernel
theorem dX0_takeText_30 : decode cX0_takeText 30 = .ok (.aload_n 0, 1) := by decide +kernel
theorem dX0_takeText_31 : decode cX0_takeText 31 = .ok (.aload_n 1, 1) := by decide +kernel
theorem dX0_takeText_32 : decode cX0_takeText 32 = .ok (.getfield 45, 3) := by decide +kernel
theorem dX0_takeText_35 : decode cX0_takeText 35 = .ok (.iload_n 2, 1) := by decide +kernel
theorem dX0_takeText_36 : decode cX0_takeText 36 = .ok (.iconst 3, 1) := by decide +kernel
theorem dX0_takeText_37 : decode cX0_takeText 37 = .ok (.iadd, 1) := by decide +kernel
theorem dX0_takeText_38 : decode cX0_takeText 38 = .ok (.iaload, 1) := by decide +kernel
theorem dX0_takeText_39 : decode cX0_takeText 39 = .ok (.bipush 48, 2) := by decide +kernel
theorem dX0_takeText_41 : decode cX0_takeText 41 = .ok (.isub, 1) := by decide +kernel
theorem dX0_takeText_42 : decode cX0_takeText 42 = .ok (.putfield 33, 3) := by decide +kernel
theorem dX0_takeText_45 : decode cX0_takeText 45 = .ok (.aload_n 0, 1) := by decide +kernel
theorem dX0_takeText_46 : decode cX0_takeText 46 = .ok (.iconst 0, 1) := by decide +kernel
theorem dX0_takeText_47 : decode cX0_takeText 47 = .ok (.putfield 56, 3) := by decide +kernel
theorem dX0_takeText_50 : decode cX0_takeText 50 = .ok (.aload_n 0, 1) := by decide +kernel
theorem dX0_takeText_51 : decode cX0_takeText 51 = .ok (.iconst 0, 1) := by decide +kernel
theorem dX0_takeText_52 : decode cX0_takeText 52 = .ok (.putfield 59, 3) := by decide +kernel
theorem dX0_takeText_55 : decode cX0_takeText 55 = .ok (.iload_n 2, 1) := by decide +kernel
theorem dX0_takeText_56 : decode cX0_takeText 56 = .ok (.iconst 4, 1) := by decide +kernel
theorem dX0_takeText_57 : decode cX0_takeText 57 = .ok (.iadd, 1) := by decide +kernel
theorem dX0_takeText_58 : decode cX0_takeText 58 = .ok (.istore_n 3, 1) := by decide +kernel
theorem dX0_takeText_59 : decode cX0_takeText 59 = .ok (.iconst 0, 1) := by decide +kernel
theorem dX0_takeText_60 : decode cX0_takeText 60 = .ok (.istore 4, 2) := by decide +kernel
theorem dX0_takeText_62 : decode cX0_takeText 62 = .ok (.iload 4, 2) := by decide +kernel
theorem dX0_takeText_64 : decode cX0_takeText 64 = .ok (.aload_n 0, 1) := by decide +kernel
theorem dX0_takeText_65 : decode cX0_takeText 65 = .ok (.getfield 33, 3) := by decide +kernel
theorem dX0_takeText_68 : decode cX0_takeText 68 = .ok (.if_icmp .ge 100, 3) := by decide +kernel
theorem dX0_takeText_71 : decode cX0_takeText 71 = .ok (.aload_n 0, 1) := by decide +kernel
theorem dX0_takeText_72 : decode cX0_takeText 72 = .ok (.getfield 9, 3) := by decide +kernel
theorem dX0_takeText_75 : decode cX0_takeText 75 = .ok (.iload 4, 2) := by decide +kernel
theorem dX0_takeText_77 : decode cX0_takeText 77 = .ok (.aload_n 1, 1) := by decide +kernel
theorem dX0_takeText_78 : decode cX0_takeText 78 = .ok (.getfield 45, 3) := by decide +kernel
theorem dX0_takeText_81 : decode cX0_takeText 81 = .ok (.iload_n 3, 1) := by decide +kernel
theorem dX0_takeText_82 : decode cX0_takeText 82 = .ok (.iconst 1, 1) := by decide +kernel
theorem dX0_takeText_83 : decode cX0_takeText 83 = .ok (.iadd, 1) := by decide +kernel
theorem dX0_takeText_84 : decode cX0_takeText 84 = .ok (.iaload, 1) := by decide +kernel
theorem dX0_takeText_85 : decode cX0_takeText 85 = .ok (.invokestatic 62, 3) := by decide +kernel
theorem dX0_takeText_88 : decode cX0_takeText 88 = .ok (.iastore, 1) := by decide +kernel
theorem dX0_takeText_89 : decode cX0_takeText 89 = .ok (.aload_n 0, 1) := by decide +kernel
theorem dX0_takeText_90 : decode cX0_takeText 90 = .ok (.dup, 1) := by decide +kernel
theorem dX0_takeText_91 : decode cX0_takeText 91 = .ok (.getfield 56, 3) := by decide +kernel
theorem dX0_takeText_94 : decode cX0_takeText 94 = .ok (.aload_n 1, 1) := by decide +kernel
theorem dX0_takeText_95 : decode cX0_takeText 95 = .ok (.getfield 45, 3) := by decide +kernel
theorem dX0_takeText_98 : decode cX0_takeText 98 = .ok (.iload_n 3, 1) := by decide +kernel
theorem dX0_takeText_99 : decode cX0_takeText 99 = .ok (.iconst 2, 1) := by decide +kernel
theorem dX0_takeText_100 : decode cX0_takeText 100 = .ok (.iadd, 1) := by decide +kernel
theorem dX0_takeText_101 : decode cX0_takeText 101 = .ok (.iaload, 1) := by decide +kernel
theorem dX0_takeText_102 : decode cX0_takeText 102 = .ok (.bipush 48, 2) := by decide +kernel
theorem dX0_takeText_104 : decode cX0_takeText 104 = .ok (.isub, 1) := by decide +kernel
theorem dX0_takeText_105 : decode cX0_takeText 105 = .ok (.iload 4, 2) := by decide +kernel
theorem dX0_takeText_107 : decode cX0_takeText 107 = .ok (.ishl, 1) := by decide +kernel
theorem dX0_takeText_108 : decode cX0_takeText 108 = .ok (.ior, 1) := by decide +kernel
theorem dX0_takeText_109 : decode cX0_takeText 109 = .ok (.putfield 56, 3) := by decide +kernel
theorem dX0_takeText_112 : decode cX0_takeText 112 = .ok (.iinc 3 3, 3) := by decide +kernel
theorem dX0_takeText_115 : decode cX0_takeText 115 = .ok (.iconst 0, 1) := by decide +kernel
theorem dX0_takeText_116 : decode cX0_takeText 116 = .ok (.istore 5, 2) := by decide +kernel
theorem dX0_takeText_118 : decode cX0_takeText 118 = .ok (.iload 5, 2) := by decide +kernel
theorem dX0_takeText_120 : decode cX0_takeText 120 = .ok (.aload_n 0, 1) := by decide +kernel
theorem dX0_takeText_121 : decode cX0_takeText 121 = .ok (.getfield 33, 3) := by decide +kernel
theorem dX0_takeText_124 : decode cX0_takeText 124 = .ok (.if_icmp .ge 31, 3) := by decide +kernel
theorem dX0_takeText_127 : decode cX0_takeText 127 = .ok (.aload_n 0, 1) := by decide +kernel
theorem dX0_takeText_128 : decode cX0_takeText 128 = .ok (.getfield 17, 3) := by decide +kernel
theorem dX0_takeText_131 : decode cX0_takeText 131 = .ok (.iload 4, 2) := by decide +kernel
theorem dX0_takeText_133 : decode cX0_takeText 133 = .ok (.aaload, 1) := by decide +kernel
theorem dX0_takeText_134 : decode cX0_takeText 134 = .ok (.iload 5, 2) := by decide +kernel
theorem dX0_takeText_136 : decode cX0_takeText 136 = .ok (.aload_n 1, 1) := by decide +kernel
theorem dX0_takeText_137 : decode cX0_takeText 137 = .ok (.getfield 45, 3) := by decide +kernel
theorem dX0_takeText_140 : decode cX0_takeText 140 = .ok (.iload_n 3, 1) := by decide +kernel
theorem dX0_takeText_141 : decode cX0_takeText 141 = .ok (.iload 5, 2) := by decide +kernel
theorem dX0_takeText_143 : decode cX0_takeText 143 = .ok (.iadd, 1) := by decide +kernel
theorem dX0_takeText_144 : decode cX0_takeText 144 = .ok (.iaload, 1) := by decide +kernel
theorem dX0_takeText_145 : decode cX0_takeText 145 = .ok (.bipush 48, 2) := by decide +kernel
theorem dX0_takeText_147 : decode cX0_takeText 147 = .ok (.isub, 1) := by decide +kernel
theorem dX0_takeText_148 : decode cX0_takeText 148 = .ok (.iastore, 1) := by decide +kernel
theorem dX0_takeText_149 : decode cX0_takeText 149 = .ok (.iinc 5 1, 3) := by decide +kernel
theorem dX0_takeText_152 : decode cX0_takeText 152 = .ok (.goto (-34), 3) := by decide +kernel
theorem dX0_takeText_155 : decode cX0_takeText 155 = .ok (.iload_n 3, 1) := by decide +kernel
theorem dX0_takeText_156 : decode cX0_takeText 156 = .ok (.aload_n 0, 1) := by decide +kernel
theorem dX0_takeText_157 : decode cX0_takeText 157 = .ok (.getfield 33, 3) := by decide +kernel
theorem dX0_takeText_160 : decode cX0_takeText 160 = .ok (.iadd, 1) := by decide +kernel
theorem dX0_takeText_161 : decode cX0_takeText 161 = .ok (.istore_n 3, 1) := by decide +kernel
theorem dX0_takeText_162 : decode cX0_takeText 162 = .ok (.iinc 4 1, 3) := by decide +kernel
theorem dX0_takeText_165 : decode cX0_takeText 165 = .ok (.goto (-103), 3) := by decide +kernel
theorem dX0_takeText_168 : decode cX0_takeText 168 = .ok (.return_, 1) := by decide +kernel
theorem dX0_allNotes_0 : decode cX0_allNotes 0 = .ok (.iconst 0, 1) := by decide +kernel
theorem dX0_allNotes_1 : decode cX0_allNotes 1 = .ok (.istore_n 2, 1) := by decide +kernel
theorem dX0_allNotes_2 : decode cX0_allNotes 2 = .ok (.iconst 0, 1) := by decide +kernel
theorem dX0_allNotes_3 : decode cX0_allNotes 3 = .ok (.istore_n 3, 1) := by decide +kernel
theorem dX0_allNotes_4 : decode cX0_allNotes 4 = .ok (.iload_n 3, 1) := by decide +kernel
theorem dX0_allNotes_5 : decode cX0_allNotes 5 = .ok (.aload_n 0, 1) := by decide +kernel
theorem dX0_allNotes_6 : decode cX0_allNotes 6 = .ok (.getfield 33, 3) := by decide +kernel
theorem dX0_allNotes_9 : decode cX0_allNotes 9 = .ok (.if_icmp .ge 20, 3) := by decide +kernel
theorem dX0_allNotes_12 : decode cX0_allNotes 12 = .ok (.iload_n 2, 1) := by decide +kernel
theorem dX0_allNotes_13 : decode cX0_allNotes 13 = .ok (.aload_n 0, 1) := by decide +kernel
theorem dX0_allNotes_14 : decode cX0_allNotes 14 = .ok (.getfield 17, 3) := by decide +kernel
theorem dX0_allNotes_17 : decode cX0_allNotes 17 = .ok (.iload_n 1, 1) := by decide +kernel
theorem dX0_allNotes_18 : decode cX0_allNotes 18 = .ok (.aaload, 1) := by decide +kernel
theorem dX0_allNotes_19 : decode cX0_allNotes 19 = .ok (.iload_n 3, 1) := by decide +kernel
theorem dX0_allNotes_20 : decode cX0_allNotes 20 = .ok (.iaload, 1) := by decide +kernel
theorem dX0_allNotes_21 : decode cX0_allNotes 21 = .ok (.iadd, 1) := by decide +kernel
theorem dX0_allNotes_22 : decode cX0_allNotes 22 = .ok (.istore_n 2, 1) := by decide +kernel
theorem dX0_allNotes_23 : decode cX0_allNotes 23 = .ok (.iinc 3 1, 3) := by decide +kernel
theorem dX0_allNotes_26 : decode cX0_allNotes 26 = .ok (.goto (-22), 3) := by decide +kernel
theorem dX0_allNotes_29 : decode cX0_allNotes 29 = .ok (.iload_n 2, 1) := by decide +kernel
theorem dX0_allNotes_30 : decode cX0_allNotes 30 = .ok (.ireturn, 1) := by decide +kernel
theorem dX0_debtIf_0 : decode cX0_debtIf 0 = .ok (.iconst 0, 1) := by decide +kernel
theorem dX0_debtIf_1 : decode cX0_debtIf 1 = .ok (.istore 4, 2) := by decide +kernel
theorem dX0_debtIf_3 : decode cX0_debtIf 3 = .ok (.iconst 0, 1) := by decide +kernel
theorem dX0_debtIf_4 : decode cX0_debtIf 4 = .ok (.istore 5, 2) := by decide +kernel
theorem dX0_debtIf_6 : decode cX0_debtIf 6 = .ok (.iload 5, 2) := by decide +kernel
theorem dX0_debtIf_8 : decode cX0_debtIf 8 = .ok (.aload_n 0, 1) := by decide +kernel
theorem dX0_debtIf_9 : decode cX0_debtIf 9 = .ok (.getfield 33, 3) := by decide +kernel
theorem dX0_debtIf_12 : decode cX0_debtIf 12 = .ok (.if_icmp .ge 59, 3) := by decide +kernel
theorem dX0_debtIf_15 : decode cX0_debtIf 15 = .ok (.iload_n 3, 1) := by decide +kernel
theorem dX0_debtIf_16 : decode cX0_debtIf 16 = .ok (.iload 5, 2) := by decide +kernel
theorem dX0_debtIf_18 : decode cX0_debtIf 18 = .ok (.ishr, 1) := by decide +kernel
theorem dX0_debtIf_19 : decode cX0_debtIf 19 = .ok (.iconst 1, 1) := by decide +kernel
theorem dX0_debtIf_20 : decode cX0_debtIf 20 = .ok (.iand, 1) := by decide +kernel
theorem dX0_debtIf_21 : decode cX0_debtIf 21 = .ok (.ifCond .ne 44, 3) := by decide +kernel
theorem dX0_debtIf_24 : decode cX0_debtIf 24 = .ok (.iload 4, 2) := by decide +kernel
theorem dX0_debtIf_26 : decode cX0_debtIf 26 = .ok (.iload_n 2, 1) := by decide +kernel
theorem dX0_debtIf_27 : decode cX0_debtIf 27 = .ok (.iload 5, 2) := by decide +kernel
theorem dX0_debtIf_29 : decode cX0_debtIf 29 = .ok (.ishr, 1) := by decide +kernel
theorem dX0_debtIf_30 : decode cX0_debtIf 30 = .ok (.iconst 1, 1) := by decide +kernel
theorem dX0_debtIf_31 : decode cX0_debtIf 31 = .ok (.iand, 1) := by decide +kernel
theorem dX0_debtIf_32 : decode cX0_debtIf 32 = .ok (.iconst 1, 1) := by decide +kernel
theorem dX0_debtIf_33 : decode cX0_debtIf 33 = .ok (.if_icmp .ne 20, 3) := by decide +kernel
theorem dX0_debtIf_36 : decode cX0_debtIf 36 = .ok (.aload_n 0, 1) := by decide +kernel
theorem dX0_debtIf_37 : decode cX0_debtIf 37 = .ok (.getfield 53, 3) := by decide +kernel
theorem dX0_debtIf_40 : decode cX0_debtIf 40 = .ok (.aload_n 0, 1) := by decide +kernel
theorem dX0_debtIf_41 : decode cX0_debtIf 41 = .ok (.getfield 17, 3) := by decide +kernel
theorem dX0_debtIf_44 : decode cX0_debtIf 44 = .ok (.iload_n 1, 1) := by decide +kernel
theorem dX0_debtIf_45 : decode cX0_debtIf 45 = .ok (.aaload, 1) := by decide +kernel
theorem dX0_debtIf_46 : decode cX0_debtIf 46 = .ok (.iload 5, 2) := by decide +kernel
theorem dX0_debtIf_48 : decode cX0_debtIf 48 = .ok (.iaload, 1) := by decide +kernel
theorem dX0_debtIf_49 : decode cX0_debtIf 49 = .ok (.imul, 1) := by decide +kernel
theorem dX0_debtIf_50 : decode cX0_debtIf 50 = .ok (.goto 12, 3) := by decide +kernel
theorem dX0_debtIf_53 : decode cX0_debtIf 53 = .ok (.aload_n 0, 1) := by decide +kernel
theorem dX0_debtIf_54 : decode cX0_debtIf 54 = .ok (.getfield 17, 3) := by decide +kernel
theorem dX0_debtIf_57 : decode cX0_debtIf 57 = .ok (.iload_n 1, 1) := by decide +kernel
theorem dX0_debtIf_58 : decode cX0_debtIf 58 = .ok (.aaload, 1) := by decide +kernel
theorem dX0_debtIf_59 : decode cX0_debtIf 59 = .ok (.iload 5, 2) := by decide +kernel
theorem dX0_debtIf_61 : decode cX0_debtIf 61 = .ok (.iaload, 1) := by decide +kernel
theorem dX0_debtIf_62 : decode cX0_debtIf 62 = .ok (.iadd, 1) := by decide +kernel
theorem dX0_debtIf_63 : decode cX0_debtIf 63 = .ok (.istore 4, 2) := by decide +kernel
theorem dX0_debtIf_65 : decode cX0_debtIf 65 = .ok (.iinc 5 1, 3) := by decide +kernel
theorem dX0_debtIf_68 : decode cX0_debtIf 68 = .ok (.goto (-62), 3) := by decide +kernel
theorem dX0_debtIf_71 : decode cX0_debtIf 71 = .ok (.aload_n 0, 1) := by decide +kernel
theorem dX0_debtIf_72 : decode cX0_debtIf 72 = .ok (.getfield 9, 3) := by decide +kernel
theorem dX0_debtIf_75 : decode cX0_debtIf 75 = .ok (.iload_n 1, 1) := by decide +kernel
theorem dX0_debtIf_76 : decode cX0_debtIf 76 = .ok (.iaload, 1) := by decide +kernel
theorem dX0_debtIf_77 : decode cX0_debtIf 77 = .ok (.lookupswitch 46 #[(1, 32), (2, 27)], 27) := by decide +kernel
theorem dX0_debtIf_104 : decode cX0_debtIf 104 = .ok (.iload 4, 2) := by decide +kernel
theorem dX0_debtIf_106 : decode cX0_debtIf 106 = .ok (.iconst 2, 1) := by decide +kernel
theorem dX0_debtIf_107 : decode cX0_debtIf 107 = .ok (.idiv, 1) := by decide +kernel
theorem dX0_debtIf_108 : decode cX0_debtIf 108 = .ok (.ireturn, 1) := by decide +kernel
theorem dX0_debtIf_109 : decode cX0_debtIf 109 = .ok (.iload 4, 2) := by decide +kernel
theorem dX0_debtIf_111 : decode cX0_debtIf 111 = .ok (.ifCond .le 10, 3) := by decide +kernel
theorem dX0_debtIf_114 : decode cX0_debtIf 114 = .ok (.iload 4, 2) := by decide +kernel
theorem dX0_debtIf_116 : decode cX0_debtIf 116 = .ok (.iconst 1, 1) := by decide +kernel
theorem dX0_debtIf_117 : decode cX0_debtIf 117 = .ok (.isub, 1) := by decide +kernel
theorem dX0_debtIf_118 : decode cX0_debtIf 118 = .ok (.goto 4, 3) := by decide +kernel
theorem dX0_debtIf_121 : decode cX0_debtIf 121 = .ok (.iconst 0, 1) := by decide +kernel
theorem dX0_debtIf_122 : decode cX0_debtIf 122 = .ok (.ireturn, 1) := by decide +kernel
theorem dX0_debtIf_123 : decode cX0_debtIf 123 = .ok (.iload 4, 2) := by decide +kernel
theorem dX0_debtIf_125 : decode cX0_debtIf 125 = .ok (.ireturn, 1) := by decide +kernel
theorem dX0_pullersOf_0 : decode cX0_pullersOf 0 = .ok (.aload_n 0, 1) := by decide +kernel
theorem dX0_pullersOf_1 : decode cX0_pullersOf 1 = .ok (.iload_n 1, 1) := by decide +kernel
theorem dX0_pullersOf_2 : decode cX0_pullersOf 2 = .ok (.iconst 0, 1) := by decide +kernel
theorem dX0_pullersOf_3 : decode cX0_pullersOf 3 = .ok (.iconst 0, 1) := by decide +kernel
theorem dX0_pullersOf_4 : decode cX0_pullersOf 4 = .ok (.invokevirtual 68, 3) := by decide +kernel
theorem dX0_pullersOf_7 : decode cX0_pullersOf 7 = .ok (.ireturn, 1) := by decide +kernel
theorem dX0_pullersIf_0 : decode cX0_pullersIf 0 = .ok (.iconst 0, 1) := by decide +kernel
theorem dX0_pullersIf_1 : decode cX0_pullersIf 1 = .ok (.istore 4, 2) := by decide +kernel
theorem dX0_pullersIf_3 : decode cX0_pullersIf 3 = .ok (.iconst 0, 1) := by decide +kernel
theorem dX0_pullersIf_4 : decode cX0_pullersIf 4 = .ok (.istore 5, 2) := by decide +kernel
theorem dX0_pullersIf_6 : decode cX0_pullersIf 6 = .ok (.iload_n 1, 1) := by decide +kernel
theorem dX0_pullersIf_7 : decode cX0_pullersIf 7 = .ok (.iload_n 3, 1) := by decide +kernel
theorem dX0_pullersIf_8 : decode cX0_pullersIf 8 = .ok (.iconst (-1), 1) := by decide +kernel
theorem dX0_pullersIf_9 : decode cX0_pullersIf 9 = .ok (.ixor, 1) := by decide +kernel
theorem dX0_pullersIf_10 : decode cX0_pullersIf 10 = .ok (.iand, 1) := by decide +kernel
theorem dX0_pullersIf_11 : decode cX0_pullersIf 11 = .ok (.istore 6, 2) := by decide +kernel
theorem dX0_pullersIf_13 : decode cX0_pullersIf 13 = .ok (.iconst 0, 1) := by decide +kernel
theorem dX0_pullersIf_14 : decode cX0_pullersIf 14 = .ok (.istore 7, 2) := by decide +kernel
theorem dX0_pullersIf_16 : decode cX0_pullersIf 16 = .ok (.iload 7, 2) := by decide +kernel
theorem dX0_pullersIf_18 : decode cX0_pullersIf 18 = .ok (.aload_n 0, 1) := by decide +kernel
theorem dX0_pullersIf_19 : decode cX0_pullersIf 19 = .ok (.getfield 33, 3) := by decide +kernel
theorem dX0_pullersIf_22 : decode cX0_pullersIf 22 = .ok (.if_icmp .ge 75, 3) := by decide +kernel
theorem dX0_pullersIf_25 : decode cX0_pullersIf 25 = .ok (.iload 6, 2) := by decide +kernel
theorem dX0_pullersIf_27 : decode cX0_pullersIf 27 = .ok (.iload 7, 2) := by decide +kernel
theorem dX0_pullersIf_29 : decode cX0_pullersIf 29 = .ok (.ishr, 1) := by decide +kernel
theorem dX0_pullersIf_30 : decode cX0_pullersIf 30 = .ok (.iconst 1, 1) := by decide +kernel
theorem dX0_pullersIf_31 : decode cX0_pullersIf 31 = .ok (.iand, 1) := by decide +kernel
theorem dX0_pullersIf_32 : decode cX0_pullersIf 32 = .ok (.iconst 1, 1) := by decide +kernel
theorem dX0_pullersIf_33 : decode cX0_pullersIf 33 = .ok (.if_icmp .ne 14, 3) := by decide +kernel
theorem dX0_pullersIf_36 : decode cX0_pullersIf 36 = .ok (.aload_n 0, 1) := by decide +kernel
theorem dX0_pullersIf_37 : decode cX0_pullersIf 37 = .ok (.iload 7, 2) := by decide +kernel
theorem dX0_pullersIf_39 : decode cX0_pullersIf 39 = .ok (.iload_n 1, 1) := by decide +kernel
theorem dX0_pullersIf_40 : decode cX0_pullersIf 40 = .ok (.iload_n 2, 1) := by decide +kernel
theorem dX0_pullersIf_41 : decode cX0_pullersIf 41 = .ok (.invokevirtual 72, 3) := by decide +kernel
theorem dX0_pullersIf_44 : decode cX0_pullersIf 44 = .ok (.goto 4, 3) := by decide +kernel
theorem dX0_pullersIf_47 : decode cX0_pullersIf 47 = .ok (.iconst 0, 1) := by decide +kernel
theorem dX0_pullersIf_48 : decode cX0_pullersIf 48 = .ok (.istore 8, 2) := by decide +kernel
theorem dX0_pullersIf_50 : decode cX0_pullersIf 50 = .ok (.iload 8, 2) := by decide +kernel
theorem dX0_pullersIf_52 : decode cX0_pullersIf 52 = .ok (.iload 4, 2) := by decide +kernel
theorem dX0_pullersIf_54 : decode cX0_pullersIf 54 = .ok (.if_icmp .le 16, 3) := by decide +kernel
theorem dX0_pullersIf_57 : decode cX0_pullersIf 57 = .ok (.iload 8, 2) := by decide +kernel
theorem dX0_pullersIf_59 : decode cX0_pullersIf 59 = .ok (.istore 4, 2) := by decide +kernel
theorem dX0_pullersIf_61 : decode cX0_pullersIf 61 = .ok (.iconst 1, 1) := by decide +kernel
theorem dX0_pullersIf_62 : decode cX0_pullersIf 62 = .ok (.iload 7, 2) := by decide +kernel
theorem dX0_pullersIf_64 : decode cX0_pullersIf 64 = .ok (.ishl, 1) := by decide +kernel
theorem dX0_pullersIf_65 : decode cX0_pullersIf 65 = .ok (.istore 5, 2) := by decide +kernel
theorem dX0_pullersIf_67 : decode cX0_pullersIf 67 = .ok (.goto 24, 3) := by decide +kernel
theorem dX0_pullersIf_70 : decode cX0_pullersIf 70 = .ok (.iload 8, 2) := by decide +kernel
theorem dX0_pullersIf_72 : decode cX0_pullersIf 72 = .ok (.ifCond .le 19, 3) := by decide +kernel
theorem dX0_pullersIf_75 : decode cX0_pullersIf 75 = .ok (.iload 8, 2) := by decide +kernel
theorem dX0_pullersIf_77 : decode cX0_pullersIf 77 = .ok (.iload 4, 2) := by decide +kernel
theorem dX0_pullersIf_79 : decode cX0_pullersIf 79 = .ok (.if_icmp .ne 12, 3) := by decide +kernel
theorem dX0_pullersIf_82 : decode cX0_pullersIf 82 = .ok (.iload 5, 2) := by decide +kernel
theorem dX0_pullersIf_84 : decode cX0_pullersIf 84 = .ok (.iconst 1, 1) := by decide +kernel
theorem dX0_pullersIf_85 : decode cX0_pullersIf 85 = .ok (.iload 7, 2) := by decide +kernel
theorem dX0_pullersIf_87 : decode cX0_pullersIf 87 = .ok (.ishl, 1) := by decide +kernel
theorem dX0_pullersIf_88 : decode cX0_pullersIf 88 = .ok (.ior, 1) := by decide +kernel
theorem dX0_pullersIf_89 : decode cX0_pullersIf 89 = .ok (.istore 5, 2) := by decide +kernel
theorem dX0_pullersIf_91 : decode cX0_pullersIf 91 = .ok (.iinc 7 1, 3) := by decide +kernel
theorem dX0_pullersIf_94 : decode cX0_pullersIf 94 = .ok (.goto (-78), 3) := by decide +kernel
theorem dX0_pullersIf_97 : decode cX0_pullersIf 97 = .ok (.iload 5, 2) := by decide +kernel
theorem dX0_pullersIf_99 : decode cX0_pullersIf 99 = .ok (.ireturn, 1) := by decide +kernel
theorem dX0_isFair_0 : decode cX0_isFair 0 = .ok (.iload_n 1, 1) := by decide +kernel
theorem dX0_isFair_1 : decode cX0_isFair 1 = .ok (.invokestatic 75, 3) := by decide +kernel
theorem dX0_isFair_4 : decode cX0_isFair 4 = .ok (.aload_n 0, 1) := by decide +kernel
theorem dX0_isFair_5 : decode cX0_isFair 5 = .ok (.getfield 50, 3) := by decide +kernel
theorem dX0_isFair_8 : decode cX0_isFair 8 = .ok (.if_icmp .le 5, 3) := by decide +kernel
theorem dX0_isFair_11 : decode cX0_isFair 11 = .ok (.iconst 0, 1) := by decide +kernel
theorem dX0_isFair_12 : decode cX0_isFair 12 = .ok (.ireturn, 1) := by decide +kernel
theorem dX0_isFair_13 : decode cX0_isFair 13 = .ok (.aload_n 0, 1) := by decide +kernel
theorem dX0_isFair_14 : decode cX0_isFair 14 = .ok (.iload_n 1, 1) := by decide +kernel
theorem dX0_isFair_15 : decode cX0_isFair 15 = .ok (.invokevirtual 80, 3) := by decide +kernel
theorem dX0_isFair_18 : decode cX0_isFair 18 = .ok (.istore_n 2, 1) := by decide +kernel
theorem dX0_isFair_19 : decode cX0_isFair 19 = .ok (.iload_n 2, 1) := by decide +kernel
theorem dX0_isFair_20 : decode cX0_isFair 20 = .ok (.invokestatic 75, 3) := by decide +kernel
theorem dX0_isFair_23 : decode cX0_isFair 23 = .ok (.iconst 1, 1) := by decide +kernel
theorem dX0_isFair_24 : decode cX0_isFair 24 = .ok (.if_icmp .ne 16, 3) := by decide +kernel
theorem dX0_isFair_27 : decode cX0_isFair 27 = .ok (.iload_n 2, 1) := by decide +kernel
theorem dX0_isFair_28 : decode cX0_isFair 28 = .ok (.aload_n 0, 1) := by decide +kernel
theorem dX0_isFair_29 : decode cX0_isFair 29 = .ok (.getfield 56, 3) := by decide +kernel
theorem dX0_isFair_32 : decode cX0_isFair 32 = .ok (.iand, 1) := by decide +kernel
theorem dX0_isFair_33 : decode cX0_isFair 33 = .ok (.ifCond .ne 7, 3) := by decide +kernel
theorem dX0_isFair_36 : decode cX0_isFair 36 = .ok (.iconst 1, 1) := by decide +kernel
theorem dX0_isFair_37 : decode cX0_isFair 37 = .ok (.goto 4, 3) := by decide +kernel
theorem dX0_isFair_40 : decode cX0_isFair 40 = .ok (.iconst 0, 1) := by decide +kernel
theorem dX0_isFair_41 : decode cX0_isFair 41 = .ok (.ireturn, 1) := by decide +kernel
theorem dX0_areLoads_0 : decode cX0_areLoads 0 = .ok (.iconst 0, 1) := by decide +kernel
theorem dX0_areLoads_1 : decode cX0_areLoads 1 = .ok (.istore 4, 2) := by decide +kernel
theorem dX0_areLoads_3 : decode cX0_areLoads 3 = .ok (.iload 4, 2) := by decide +kernel
theorem dX0_areLoads_5 : decode cX0_areLoads 5 = .ok (.iload_n 3, 1) := by decide +kernel
theorem dX0_areLoads_6 : decode cX0_areLoads 6 = .ok (.if_icmp .ge 27, 3) := by decide +kernel
theorem dX0_areLoads_9 : decode cX0_areLoads 9 = .ok (.aload_n 0, 1) := by decide +kernel
theorem dX0_areLoads_10 : decode cX0_areLoads 10 = .ok (.aload_n 1, 1) := by decide +kernel
theorem dX0_areLoads_11 : decode cX0_areLoads 11 = .ok (.getfield 45, 3) := by decide +kernel
theorem dX0_areLoads_14 : decode cX0_areLoads 14 = .ok (.iload_n 2, 1) := by decide +kernel
theorem dX0_areLoads_15 : decode cX0_areLoads 15 = .ok (.iload 4, 2) := by decide +kernel
theorem dX0_areLoads_17 : decode cX0_areLoads 17 = .ok (.iadd, 1) := by decide +kernel
theorem dX0_areLoads_18 : decode cX0_areLoads 18 = .ok (.iaload, 1) := by decide +kernel
theorem dX0_areLoads_19 : decode cX0_areLoads 19 = .ok (.invokevirtual 83, 3) := by decide +kernel
theorem dX0_areLoads_22 : decode cX0_areLoads 22 = .ok (.ifCond .ne 5, 3) := by decide +kernel
theorem dX0_areLoads_25 : decode cX0_areLoads 25 = .ok (.iconst 0, 1) := by decide +kernel
theorem dX0_areLoads_26 : decode cX0_areLoads 26 = .ok (.ireturn, 1) := by decide +kernel
theorem dX0_areLoads_27 : decode cX0_areLoads 27 = .ok (.iinc 4 1, 3) := by decide +kernel
theorem dX0_areLoads_30 : decode cX0_areLoads 30 = .ok (.goto (-27), 3) := by decide +kernel
theorem dX0_areLoads_33 : decode cX0_areLoads 33 = .ok (.iconst 1, 1) := by decide +kernel
theorem dX0_areLoads_34 : decode cX0_areLoads 34 = .ok (.ireturn, 1) := by decide +kernel
theorem dX0_firstWrong_0 : decode cX0_firstWrong 0 = .ok (.iconst 0, 1) := by decide +kernel
theorem dX0_firstWrong_1 : decode cX0_firstWrong 1 = .ok (.istore 4, 2) := by decide +kernel
theorem dX0_firstWrong_3 : decode cX0_firstWrong 3 = .ok (.iconst 0, 1) := by decide +kernel
theorem dX0_firstWrong_4 : decode cX0_firstWrong 4 = .ok (.istore 5, 2) := by decide +kernel
theorem dX0_firstWrong_6 : decode cX0_firstWrong 6 = .ok (.iload 5, 2) := by decide +kernel
theorem dX0_firstWrong_8 : decode cX0_firstWrong 8 = .ok (.iload_n 3, 1) := by decide +kernel
theorem dX0_firstWrong_9 : decode cX0_firstWrong 9 = .ok (.if_icmp .ge 55, 3) := by decide +kernel
theorem dX0_firstWrong_12 : decode cX0_firstWrong 12 = .ok (.aload_n 1, 1) := by decide +kernel
theorem dX0_firstWrong_13 : decode cX0_firstWrong 13 = .ok (.getfield 45, 3) := by decide +kernel
theorem dX0_firstWrong_16 : decode cX0_firstWrong 16 = .ok (.iload_n 2, 1) := by decide +kernel
theorem dX0_firstWrong_17 : decode cX0_firstWrong 17 = .ok (.iload 5, 2) := by decide +kernel
theorem dX0_firstWrong_19 : decode cX0_firstWrong 19 = .ok (.iadd, 1) := by decide +kernel
theorem dX0_firstWrong_20 : decode cX0_firstWrong 20 = .ok (.iaload, 1) := by decide +kernel
theorem dX0_firstWrong_21 : decode cX0_firstWrong 21 = .ok (.istore 6, 2) := by decide +kernel
theorem dX0_firstWrong_23 : decode cX0_firstWrong 23 = .ok (.iload 6, 2) := by decide +kernel
theorem dX0_firstWrong_25 : decode cX0_firstWrong 25 = .ok (.ifCond .eq 23, 3) := by decide +kernel
theorem dX0_firstWrong_28 : decode cX0_firstWrong 28 = .ok (.iload 6, 2) := by decide +kernel
theorem dX0_firstWrong_30 : decode cX0_firstWrong 30 = .ok (.invokestatic 75, 3) := by decide +kernel
theorem dX0_firstWrong_33 : decode cX0_firstWrong 33 = .ok (.aload_n 0, 1) := by decide +kernel
theorem dX0_firstWrong_34 : decode cX0_firstWrong 34 = .ok (.getfield 50, 3) := by decide +kernel
theorem dX0_firstWrong_37 : decode cX0_firstWrong 37 = .ok (.if_icmp .gt 11, 3) := by decide +kernel
theorem dX0_firstWrong_40 : decode cX0_firstWrong 40 = .ok (.iload 6, 2) := by decide +kernel
theorem dX0_firstWrong_42 : decode cX0_firstWrong 42 = .ok (.iload 4, 2) := by decide +kernel
theorem dX0_firstWrong_44 : decode cX0_firstWrong 44 = .ok (.iand, 1) := by decide +kernel
theorem dX0_firstWrong_45 : decode cX0_firstWrong 45 = .ok (.ifCond .eq 6, 3) := by decide +kernel
theorem dX0_firstWrong_48 : decode cX0_firstWrong 48 = .ok (.iload 5, 2) := by decide +kernel
theorem dX0_firstWrong_50 : decode cX0_firstWrong 50 = .ok (.ireturn, 1) := by decide +kernel
theorem dX0_firstWrong_51 : decode cX0_firstWrong 51 = .ok (.iload 4, 2) := by decide +kernel
theorem dX0_firstWrong_53 : decode cX0_firstWrong 53 = .ok (.iload 6, 2) := by decide +kernel
theorem dX0_firstWrong_55 : decode cX0_firstWrong 55 = .ok (.ior, 1) := by decide +kernel
theorem dX0_firstWrong_56 : decode cX0_firstWrong 56 = .ok (.istore 4, 2) := by decide +kernel
theorem dX0_firstWrong_58 : decode cX0_firstWrong 58 = .ok (.iinc 5 1, 3) := by decide +kernel
theorem dX0_firstWrong_61 : decode cX0_firstWrong 61 = .ok (.goto (-55), 3) := by decide +kernel
theorem dX0_firstWrong_64 : decode cX0_firstWrong 64 = .ok (.bipush (-9), 2) := by decide +kernel
theorem dX0_firstWrong_66 : decode cX0_firstWrong 66 = .ok (.ireturn, 1) := by decide +kernel
theorem dX0_isSo_0 : decode cX0_isSo 0 = .ok (.iload_n 2, 1) := by decide +kernel
theorem dX0_isSo_1 : decode cX0_isSo 1 = .ok (.tableswitch 73 0 4 #[35, 73, 73, 41, 59], 35) := by decide +kernel
theorem dX0_isSo_36 : decode cX0_isSo 36 = .ok (.aload_n 0, 1) := by decide +kernel
theorem dX0_isSo_37 : decode cX0_isSo 37 = .ok (.iload_n 1, 1) := by decide +kernel
theorem dX0_isSo_38 : decode cX0_isSo 38 = .ok (.invokevirtual 86, 3) := by decide +kernel
theorem dX0_isSo_41 : decode cX0_isSo 41 = .ok (.ireturn, 1) := by decide +kernel
theorem dX0_isSo_42 : decode cX0_isSo 42 = .ok (.aload_n 0, 1) := by decide +kernel
theorem dX0_isSo_43 : decode cX0_isSo 43 = .ok (.iload_n 1, 1) := by decide +kernel
theorem dX0_isSo_44 : decode cX0_isSo 44 = .ok (.invokevirtual 80, 3) := by decide +kernel
theorem dX0_isSo_47 : decode cX0_isSo 47 = .ok (.invokestatic 75, 3) := by decide +kernel
theorem dX0_isSo_50 : decode cX0_isSo 50 = .ok (.iconst 1, 1) := by decide +kernel
theorem dX0_isSo_51 : decode cX0_isSo 51 = .ok (.if_icmp .le 7, 3) := by decide +kernel
theorem dX0_isSo_54 : decode cX0_isSo 54 = .ok (.iconst 1, 1) := by decide +kernel
theorem dX0_isSo_55 : decode cX0_isSo 55 = .ok (.goto 4, 3) := by decide +kernel
theorem dX0_isSo_58 : decode cX0_isSo 58 = .ok (.iconst 0, 1) := by decide +kernel
theorem dX0_isSo_59 : decode cX0_isSo 59 = .ok (.ireturn, 1) := by decide +kernel
theorem dX0_isSo_60 : decode cX0_isSo 60 = .ok (.aload_n 0, 1) := by decide +kernel
theorem dX0_isSo_61 : decode cX0_isSo 61 = .ok (.iload_n 1, 1) := by decide +kernel
theorem dX0_isSo_62 : decode cX0_isSo 62 = .ok (.invokevirtual 80, 3) := by decide +kernel
theorem dX0_isSo_65 : decode cX0_isSo 65 = .ok (.ifCond .ne 7, 3) := by decide +kernel
theorem dX0_isSo_68 : decode cX0_isSo 68 = .ok (.iconst 1, 1) := by decide +kernel
theorem dX0_isSo_69 : decode cX0_isSo 69 = .ok (.goto 4, 3) := by decide +kernel
theorem dX0_isSo_72 : decode cX0_isSo 72 = .ok (.iconst 0, 1) := by decide +kernel
theorem dX0_isSo_73 : decode cX0_isSo 73 = .ok (.ireturn, 1) := by decide +kernel
theorem dX0_isSo_74 : decode cX0_isSo 74 = .ok (.aload_n 0, 1) := by decide +kernel
theorem dX0_isSo_75 : decode cX0_isSo 75 = .ok (.iload_n 1, 1) := by decide +kernel
theorem dX0_isSo_76 : decode cX0_isSo 76 = .ok (.invokevirtual 80, 3) := by decide +kernel
theorem dX0_isSo_79 : decode cX0_isSo 79 = .ok (.iload_n 2, 1) := by decide +kernel
theorem dX0_isSo_80 : decode cX0_isSo 80 = .ok (.bipush 10, 2) := by decide +kernel
theorem dX0_isSo_82 : decode cX0_isSo 82 = .ok (.isub, 1) := by decide +kernel
theorem dX0_isSo_83 : decode cX0_isSo 83 = .ok (.ishr, 1) := by decide +kernel
theorem dX0_isSo_84 : decode cX0_isSo 84 = .ok (.iconst 1, 1) := by decide +kernel
theorem dX0_isSo_85 : decode cX0_isSo 85 = .ok (.iand, 1) := by decide +kernel
theorem dX0_isSo_86 : decode cX0_isSo 86 = .ok (.iconst 1, 1) := by decide +kernel
theorem dX0_isSo_87 : decode cX0_isSo 87 = .ok (.if_icmp .ne 7, 3) := by decide +kernel
theorem dX0_isSo_90 : decode cX0_isSo 90 = .ok (.iconst 1, 1) := by decide +kernel
theorem dX0_isSo_91 : decode cX0_isSo 91 = .ok (.goto 4, 3) := by decide +kernel
theorem dX0_isSo_94 : decode cX0_isSo 94 = .ok (.iconst 0, 1) := by decide +kernel
theorem dX0_isSo_95 : decode cX0_isSo 95 = .ok (.ireturn, 1) := by decide +kernel
theorem dX0_findFewest_0 : decode cX0_findFewest 0 = .ok (.aload_n 0, 1) := by decide +kernel
theorem dX0_findFewest_1 : decode cX0_findFewest 1 = .ok (.invokevirtual 41, 3) := by decide +kernel
theorem dX0_findFewest_4 : decode cX0_findFewest 4 = .ok (.istore_n 1, 1) := by decide +kernel
theorem dX0_findFewest_5 : decode cX0_findFewest 5 = .ok (.aload_n 0, 1) := by decide +kernel
theorem dX0_findFewest_6 : decode cX0_findFewest 6 = .ok (.getfield 26, 3) := by decide +kernel
theorem dX0_findFewest_9 : decode cX0_findFewest 9 = .ok (.iconst 0, 1) := by decide +kernel
theorem dX0_findFewest_10 : decode cX0_findFewest 10 = .ok (.iconst 0, 1) := by decide +kernel
theorem dX0_findFewest_11 : decode cX0_findFewest 11 = .ok (.iastore, 1) := by decide +kernel
theorem dX0_findFewest_12 : decode cX0_findFewest 12 = .ok (.iconst 1, 1) := by decide +kernel
theorem dX0_findFewest_13 : decode cX0_findFewest 13 = .ok (.istore_n 2, 1) := by decide +kernel
theorem dX0_findFewest_14 : decode cX0_findFewest 14 = .ok (.iload_n 2, 1) := by decide +kernel
theorem dX0_findFewest_15 : decode cX0_findFewest 15 = .ok (.iload_n 1, 1) := by decide +kernel
theorem dX0_findFewest_16 : decode cX0_findFewest 16 = .ok (.if_icmp .gt 95, 3) := by decide +kernel
theorem dX0_findFewest_19 : decode cX0_findFewest 19 = .ok (.aload_n 0, 1) := by decide +kernel
theorem dX0_findFewest_20 : decode cX0_findFewest 20 = .ok (.getfield 29, 3) := by decide +kernel
theorem dX0_findFewest_23 : decode cX0_findFewest 23 = .ok (.iload_n 2, 1) := by decide +kernel
theorem dX0_findFewest_24 : decode cX0_findFewest 24 = .ok (.aload_n 0, 1) := by decide +kernel
theorem dX0_findFewest_25 : decode cX0_findFewest 25 = .ok (.iload_n 2, 1) := by decide +kernel
theorem dX0_findFewest_26 : decode cX0_findFewest 26 = .ok (.invokevirtual 86, 3) := by decide +kernel
theorem dX0_findFewest_29 : decode cX0_findFewest 29 = .ok (.bastore, 1) := by decide +kernel
theorem dX0_findFewest_30 : decode cX0_findFewest 30 = .ok (.aload_n 0, 1) := by decide +kernel
theorem dX0_findFewest_31 : decode cX0_findFewest 31 = .ok (.getfield 26, 3) := by decide +kernel
theorem dX0_findFewest_34 : decode cX0_findFewest 34 = .ok (.iload_n 2, 1) := by decide +kernel
theorem dX0_findFewest_35 : decode cX0_findFewest 35 = .ok (.bipush (-9), 2) := by decide +kernel
theorem dX0_findFewest_37 : decode cX0_findFewest 37 = .ok (.iastore, 1) := by decide +kernel
theorem dX0_findFewest_38 : decode cX0_findFewest 38 = .ok (.iconst 1, 1) := by decide +kernel
theorem dX0_findFewest_39 : decode cX0_findFewest 39 = .ok (.istore_n 3, 1) := by decide +kernel
theorem dX0_findFewest_40 : decode cX0_findFewest 40 = .ok (.iload_n 3, 1) := by decide +kernel
theorem dX0_findFewest_41 : decode cX0_findFewest 41 = .ok (.iload_n 2, 1) := by decide +kernel
theorem dX0_findFewest_42 : decode cX0_findFewest 42 = .ok (.if_icmp .gt 63, 3) := by decide +kernel
theorem dX0_findFewest_45 : decode cX0_findFewest 45 = .ok (.aload_n 0, 1) := by decide +kernel
theorem dX0_findFewest_46 : decode cX0_findFewest 46 = .ok (.iload_n 3, 1) := by decide +kernel
theorem dX0_findFewest_47 : decode cX0_findFewest 47 = .ok (.iload_n 2, 1) := by decide +kernel
theorem dX0_findFewest_48 : decode cX0_findFewest 48 = .ok (.invokevirtual 89, 3) := by decide +kernel
theorem dX0_findFewest_51 : decode cX0_findFewest 51 = .ok (.ifCond .eq 48, 3) := by decide +kernel
theorem dX0_findFewest_54 : decode cX0_findFewest 54 = .ok (.aload_n 0, 1) := by decide +kernel
theorem dX0_findFewest_55 : decode cX0_findFewest 55 = .ok (.getfield 26, 3) := by decide +kernel
theorem dX0_findFewest_58 : decode cX0_findFewest 58 = .ok (.iload_n 2, 1) := by decide +kernel
theorem dX0_findFewest_59 : decode cX0_findFewest 59 = .ok (.iload_n 3, 1) := by decide +kernel
theorem dX0_findFewest_60 : decode cX0_findFewest 60 = .ok (.ixor, 1) := by decide +kernel
theorem dX0_findFewest_61 : decode cX0_findFewest 61 = .ok (.iaload, 1) := by decide +kernel
theorem dX0_findFewest_62 : decode cX0_findFewest 62 = .ok (.iconst 1, 1) := by decide +kernel
theorem dX0_findFewest_63 : decode cX0_findFewest 63 = .ok (.iadd, 1) := by decide +kernel
theorem dX0_findFewest_64 : decode cX0_findFewest 64 = .ok (.istore 4, 2) := by decide +kernel
theorem dX0_findFewest_66 : decode cX0_findFewest 66 = .ok (.aload_n 0, 1) := by decide +kernel
theorem dX0_findFewest_67 : decode cX0_findFewest 67 = .ok (.getfield 26, 3) := by decide +kernel
theorem dX0_findFewest_70 : decode cX0_findFewest 70 = .ok (.iload_n 2, 1) := by decide +kernel
theorem dX0_findFewest_71 : decode cX0_findFewest 71 = .ok (.aload_n 0, 1) := by decide +kernel
theorem dX0_findFewest_72 : decode cX0_findFewest 72 = .ok (.getfield 26, 3) := by decide +kernel
theorem dX0_findFewest_75 : decode cX0_findFewest 75 = .ok (.iload_n 2, 1) := by decide +kernel
theorem dX0_findFewest_76 : decode cX0_findFewest 76 = .ok (.iaload, 1) := by decide +kernel
theorem dX0_findFewest_77 : decode cX0_findFewest 77 = .ok (.bipush (-9), 2) := by decide +kernel
theorem dX0_findFewest_79 : decode cX0_findFewest 79 = .ok (.if_icmp .ne 8, 3) := by decide +kernel
theorem dX0_findFewest_82 : decode cX0_findFewest 82 = .ok (.iload 4, 2) := by decide +kernel
theorem dX0_findFewest_84 : decode cX0_findFewest 84 = .ok (.goto 14, 3) := by decide +kernel
theorem dX0_findFewest_87 : decode cX0_findFewest 87 = .ok (.aload_n 0, 1) := by decide +kernel
theorem dX0_findFewest_88 : decode cX0_findFewest 88 = .ok (.getfield 26, 3) := by decide +kernel
theorem dX0_findFewest_91 : decode cX0_findFewest 91 = .ok (.iload_n 2, 1) := by decide +kernel
theorem dX0_findFewest_92 : decode cX0_findFewest 92 = .ok (.iaload, 1) := by decide +kernel
theorem dX0_findFewest_93 : decode cX0_findFewest 93 = .ok (.iload 4, 2) := by decide +kernel
theorem dX0_findFewest_95 : decode cX0_findFewest 95 = .ok (.invokestatic 93, 3) := by decide +kernel
theorem dX0_findFewest_98 : decode cX0_findFewest 98 = .ok (.iastore, 1) := by decide +kernel
theorem dX0_findFewest_99 : decode cX0_findFewest 99 = .ok (.iinc 3 1, 3) := by decide +kernel
theorem dX0_findFewest_102 : decode cX0_findFewest 102 = .ok (.goto (-62), 3) := by decide +kernel
theorem dX0_findFewest_105 : decode cX0_findFewest 105 = .ok (.iinc 2 1, 3) := by decide +kernel
theorem dX0_findFewest_108 : decode cX0_findFewest 108 = .ok (.goto (-94), 3) := by decide +kernel
theorem dX0_findFewest_111 : decode cX0_findFewest 111 = .ok (.return_, 1) := by decide +kernel
theorem dX0_canCrossBy_0 : decode cX0_canCrossBy 0 = .ok (.iload_n 1, 1) := by decide +kernel
theorem dX0_canCrossBy_1 : decode cX0_canCrossBy 1 = .ok (.iload_n 2, 1) := by decide +kernel
theorem dX0_canCrossBy_2 : decode cX0_canCrossBy 2 = .ok (.iconst (-1), 1) := by decide +kernel
theorem dX0_canCrossBy_3 : decode cX0_canCrossBy 3 = .ok (.ixor, 1) := by decide +kernel
theorem dX0_canCrossBy_4 : decode cX0_canCrossBy 4 = .ok (.iand, 1) := by decide +kernel
theorem dX0_canCrossBy_5 : decode cX0_canCrossBy 5 = .ok (.ifCond .ne 29, 3) := by decide +kernel
theorem dX0_canCrossBy_8 : decode cX0_canCrossBy 8 = .ok (.aload_n 0, 1) := by decide +kernel
theorem dX0_canCrossBy_9 : decode cX0_canCrossBy 9 = .ok (.getfield 29, 3) := by decide +kernel
theorem dX0_canCrossBy_12 : decode cX0_canCrossBy 12 = .ok (.iload_n 1, 1) := by decide +kernel
theorem dX0_canCrossBy_13 : decode cX0_canCrossBy 13 = .ok (.baload, 1) := by decide +kernel
theorem dX0_canCrossBy_14 : decode cX0_canCrossBy 14 = .ok (.ifCond .eq 20, 3) := by decide +kernel
theorem dX0_canCrossBy_17 : decode cX0_canCrossBy 17 = .ok (.aload_n 0, 1) := by decide +kernel
theorem dX0_canCrossBy_18 : decode cX0_canCrossBy 18 = .ok (.getfield 26, 3) := by decide +kernel
theorem dX0_canCrossBy_21 : decode cX0_canCrossBy 21 = .ok (.iload_n 2, 1) := by decide +kernel
theorem dX0_canCrossBy_22 : decode cX0_canCrossBy 22 = .ok (.iload_n 1, 1) := by decide +kernel
theorem dX0_canCrossBy_23 : decode cX0_canCrossBy 23 = .ok (.ixor, 1) := by decide +kernel
theorem dX0_canCrossBy_24 : decode cX0_canCrossBy 24 = .ok (.iaload, 1) := by decide +kernel
theorem dX0_canCrossBy_25 : decode cX0_canCrossBy 25 = .ok (.bipush (-9), 2) := by decide +kernel
theorem dX0_canCrossBy_27 : decode cX0_canCrossBy 27 = .ok (.if_icmp .eq 7, 3) := by decide +kernel
theorem dX0_canCrossBy_30 : decode cX0_canCrossBy 30 = .ok (.iconst 1, 1) := by decide +kernel
theorem dX0_canCrossBy_31 : decode cX0_canCrossBy 31 = .ok (.goto 4, 3) := by decide +kernel
theorem dX0_canCrossBy_34 : decode cX0_canCrossBy 34 = .ok (.iconst 0, 1) := by decide +kernel
theorem dX0_canCrossBy_35 : decode cX0_canCrossBy 35 = .ok (.ireturn, 1) := by decide +kernel
theorem dX0_loadOfCross_0 : decode cX0_loadOfCross 0 = .ok (.aload_n 0, 1) := by decide +kernel
theorem dX0_loadOfCross_1 : decode cX0_loadOfCross 1 = .ok (.invokevirtual 41, 3) := by decide +kernel
theorem dX0_loadOfCross_4 : decode cX0_loadOfCross 4 = .ok (.istore_n 2, 1) := by decide +kernel
theorem dX0_loadOfCross_5 : decode cX0_loadOfCross 5 = .ok (.iconst 0, 1) := by decide +kernel
theorem dX0_loadOfCross_6 : decode cX0_loadOfCross 6 = .ok (.istore_n 3, 1) := by decide +kernel
theorem dX0_loadOfCross_7 : decode cX0_loadOfCross 7 = .ok (.iconst 0, 1) := by decide +kernel
theorem dX0_loadOfCross_8 : decode cX0_loadOfCross 8 = .ok (.istore 4, 2) := by decide +kernel
theorem dX0_loadOfCross_10 : decode cX0_loadOfCross 10 = .ok (.iload 4, 2) := by decide +kernel
theorem dX0_loadOfCross_12 : decode cX0_loadOfCross 12 = .ok (.iload_n 1, 1) := by decide +kernel
theorem dX0_loadOfCross_13 : decode cX0_loadOfCross 13 = .ok (.if_icmp .gt 19, 3) := by decide +kernel
theorem dX0_loadOfCross_16 : decode cX0_loadOfCross 16 = .ok (.aload_n 0, 1) := by decide +kernel
theorem dX0_loadOfCross_17 : decode cX0_loadOfCross 17 = .ok (.iload_n 2, 1) := by decide +kernel
theorem dX0_loadOfCross_18 : decode cX0_loadOfCross 18 = .ok (.invokevirtual 99, 3) := by decide +kernel
theorem dX0_loadOfCross_21 : decode cX0_loadOfCross 21 = .ok (.istore_n 3, 1) := by decide +kernel
theorem dX0_loadOfCross_22 : decode cX0_loadOfCross 22 = .ok (.iload_n 2, 1) := by decide +kernel
theorem dX0_loadOfCross_23 : decode cX0_loadOfCross 23 = .ok (.iload_n 3, 1) := by decide +kernel
theorem dX0_loadOfCross_24 : decode cX0_loadOfCross 24 = .ok (.ixor, 1) := by decide +kernel
theorem dX0_loadOfCross_25 : decode cX0_loadOfCross 25 = .ok (.istore_n 2, 1) := by decide +kernel
theorem dX0_loadOfCross_26 : decode cX0_loadOfCross 26 = .ok (.iinc 4 1, 3) := by decide +kernel
theorem dX0_loadOfCross_29 : decode cX0_loadOfCross 29 = .ok (.goto (-19), 3) := by decide +kernel
theorem dX0_loadOfCross_32 : decode cX0_loadOfCross 32 = .ok (.iload_n 3, 1) := by decide +kernel
theorem dX0_loadOfCross_33 : decode cX0_loadOfCross 33 = .ok (.ireturn, 1) := by decide +kernel
theorem dX0_firstLoadOf_0 : decode cX0_firstLoadOf 0 = .ok (.iconst 1, 1) := by decide +kernel
theorem dX0_firstLoadOf_1 : decode cX0_firstLoadOf 1 = .ok (.istore_n 2, 1) := by decide +kernel
theorem dX0_firstLoadOf_2 : decode cX0_firstLoadOf 2 = .ok (.iload_n 2, 1) := by decide +kernel
theorem dX0_firstLoadOf_3 : decode cX0_firstLoadOf 3 = .ok (.iload_n 1, 1) := by decide +kernel
theorem dX0_firstLoadOf_4 : decode cX0_firstLoadOf 4 = .ok (.if_icmp .gt 39, 3) := by decide +kernel
theorem dX0_firstLoadOf_7 : decode cX0_firstLoadOf 7 = .ok (.aload_n 0, 1) := by decide +kernel
theorem dX0_firstLoadOf_8 : decode cX0_firstLoadOf 8 = .ok (.iload_n 2, 1) := by decide +kernel
theorem dX0_firstLoadOf_9 : decode cX0_firstLoadOf 9 = .ok (.iload_n 1, 1) := by decide +kernel
theorem dX0_firstLoadOf_10 : decode cX0_firstLoadOf 10 = .ok (.invokevirtual 89, 3) := by decide +kernel
theorem dX0_firstLoadOf_13 : decode cX0_firstLoadOf 13 = .ok (.ifCond .eq 24, 3) := by decide +kernel
theorem dX0_firstLoadOf_16 : decode cX0_firstLoadOf 16 = .ok (.aload_n 0, 1) := by decide +kernel
theorem dX0_firstLoadOf_17 : decode cX0_firstLoadOf 17 = .ok (.getfield 26, 3) := by decide +kernel
theorem dX0_firstLoadOf_20 : decode cX0_firstLoadOf 20 = .ok (.iload_n 1, 1) := by decide +kernel
theorem dX0_firstLoadOf_21 : decode cX0_firstLoadOf 21 = .ok (.iload_n 2, 1) := by decide +kernel
theorem dX0_firstLoadOf_22 : decode cX0_firstLoadOf 22 = .ok (.ixor, 1) := by decide +kernel
theorem dX0_firstLoadOf_23 : decode cX0_firstLoadOf 23 = .ok (.iaload, 1) := by decide +kernel
theorem dX0_firstLoadOf_24 : decode cX0_firstLoadOf 24 = .ok (.iconst 1, 1) := by decide +kernel
theorem dX0_firstLoadOf_25 : decode cX0_firstLoadOf 25 = .ok (.iadd, 1) := by decide +kernel
theorem dX0_firstLoadOf_26 : decode cX0_firstLoadOf 26 = .ok (.aload_n 0, 1) := by decide +kernel
theorem dX0_firstLoadOf_27 : decode cX0_firstLoadOf 27 = .ok (.getfield 26, 3) := by decide +kernel
theorem dX0_firstLoadOf_30 : decode cX0_firstLoadOf 30 = .ok (.iload_n 1, 1) := by decide +kernel
theorem dX0_firstLoadOf_31 : decode cX0_firstLoadOf 31 = .ok (.iaload, 1) := by decide +kernel
theorem dX0_firstLoadOf_32 : decode cX0_firstLoadOf 32 = .ok (.if_icmp .ne 5, 3) := by decide +kernel
theorem dX0_firstLoadOf_35 : decode cX0_firstLoadOf 35 = .ok (.iload_n 2, 1) := by decide +kernel
theorem dX0_firstLoadOf_36 : decode cX0_firstLoadOf 36 = .ok (.ireturn, 1) := by decide +kernel
theorem dX0_firstLoadOf_37 : decode cX0_firstLoadOf 37 = .ok (.iinc 2 1, 3) := by decide +kernel
theorem dX0_firstLoadOf_40 : decode cX0_firstLoadOf 40 = .ok (.goto (-38), 3) := by decide +kernel
theorem dX0_firstLoadOf_43 : decode cX0_firstLoadOf 43 = .ok (.iconst 0, 1) := by decide +kernel
theorem dX0_firstLoadOf_44 : decode cX0_firstLoadOf 44 = .ok (.ireturn, 1) := by decide +kernel
theorem dX0_lenderOf_0 : decode cX0_lenderOf 0 = .ok (.iconst 0, 1) := by decide +kernel
theorem dX0_lenderOf_1 : decode cX0_lenderOf 1 = .ok (.istore 4, 2) := by decide +kernel
theorem dX0_lenderOf_3 : decode cX0_lenderOf 3 = .ok (.iload 4, 2) := by decide +kernel
theorem dX0_lenderOf_5 : decode cX0_lenderOf 5 = .ok (.aload_n 0, 1) := by decide +kernel
theorem dX0_lenderOf_6 : decode cX0_lenderOf 6 = .ok (.getfield 33, 3) := by decide +kernel
theorem dX0_lenderOf_9 : decode cX0_lenderOf 9 = .ok (.if_icmp .ge 85, 3) := by decide +kernel
theorem dX0_lenderOf_12 : decode cX0_lenderOf 12 = .ok (.aload_n 0, 1) := by decide +kernel
theorem dX0_lenderOf_13 : decode cX0_lenderOf 13 = .ok (.getfield 17, 3) := by decide +kernel
theorem dX0_lenderOf_16 : decode cX0_lenderOf 16 = .ok (.iload_n 1, 1) := by decide +kernel
theorem dX0_lenderOf_17 : decode cX0_lenderOf 17 = .ok (.aaload, 1) := by decide +kernel
theorem dX0_lenderOf_18 : decode cX0_lenderOf 18 = .ok (.iload 4, 2) := by decide +kernel
theorem dX0_lenderOf_20 : decode cX0_lenderOf 20 = .ok (.iaload, 1) := by decide +kernel
theorem dX0_lenderOf_21 : decode cX0_lenderOf 21 = .ok (.istore 5, 2) := by decide +kernel
theorem dX0_lenderOf_23 : decode cX0_lenderOf 23 = .ok (.iload 4, 2) := by decide +kernel
theorem dX0_lenderOf_25 : decode cX0_lenderOf 25 = .ok (.iload_n 1, 1) := by decide +kernel
theorem dX0_lenderOf_26 : decode cX0_lenderOf 26 = .ok (.if_icmp .eq 62, 3) := by decide +kernel
theorem dX0_lenderOf_29 : decode cX0_lenderOf 29 = .ok (.iload 5, 2) := by decide +kernel
theorem dX0_lenderOf_31 : decode cX0_lenderOf 31 = .ok (.iload_n 3, 1) := by decide +kernel
theorem dX0_lenderOf_32 : decode cX0_lenderOf 32 = .ok (.iadd, 1) := by decide +kernel
theorem dX0_lenderOf_33 : decode cX0_lenderOf 33 = .ok (.bipush 9, 2) := by decide +kernel
theorem dX0_lenderOf_35 : decode cX0_lenderOf 35 = .ok (.if_icmp .gt 53, 3) := by decide +kernel
theorem dX0_lenderOf_38 : decode cX0_lenderOf 38 = .ok (.aload_n 0, 1) := by decide +kernel
theorem dX0_lenderOf_39 : decode cX0_lenderOf 39 = .ok (.getfield 17, 3) := by decide +kernel
theorem dX0_lenderOf_42 : decode cX0_lenderOf 42 = .ok (.iload_n 1, 1) := by decide +kernel
theorem dX0_lenderOf_43 : decode cX0_lenderOf 43 = .ok (.aaload, 1) := by decide +kernel
theorem dX0_lenderOf_44 : decode cX0_lenderOf 44 = .ok (.iload 4, 2) := by decide +kernel
theorem dX0_lenderOf_46 : decode cX0_lenderOf 46 = .ok (.iload 5, 2) := by decide +kernel
theorem dX0_lenderOf_48 : decode cX0_lenderOf 48 = .ok (.iload_n 3, 1) := by decide +kernel
theorem dX0_lenderOf_49 : decode cX0_lenderOf 49 = .ok (.iadd, 1) := by decide +kernel
theorem dX0_lenderOf_50 : decode cX0_lenderOf 50 = .ok (.iastore, 1) := by decide +kernel
theorem dX0_lenderOf_51 : decode cX0_lenderOf 51 = .ok (.aload_n 0, 1) := by decide +kernel
theorem dX0_lenderOf_52 : decode cX0_lenderOf 52 = .ok (.iload_n 2, 1) := by decide +kernel
theorem dX0_lenderOf_53 : decode cX0_lenderOf 53 = .ok (.invokevirtual 80, 3) := by decide +kernel
theorem dX0_lenderOf_56 : decode cX0_lenderOf 56 = .ok (.iconst 1, 1) := by decide +kernel
theorem dX0_lenderOf_57 : decode cX0_lenderOf 57 = .ok (.iload_n 1, 1) := by decide +kernel
theorem dX0_lenderOf_58 : decode cX0_lenderOf 58 = .ok (.ishl, 1) := by decide +kernel
theorem dX0_lenderOf_59 : decode cX0_lenderOf 59 = .ok (.if_icmp .ne 7, 3) := by decide +kernel
theorem dX0_lenderOf_62 : decode cX0_lenderOf 62 = .ok (.iconst 1, 1) := by decide +kernel
theorem dX0_lenderOf_63 : decode cX0_lenderOf 63 = .ok (.goto 4, 3) := by decide +kernel
theorem dX0_lenderOf_66 : decode cX0_lenderOf 66 = .ok (.iconst 0, 1) := by decide +kernel
theorem dX0_lenderOf_67 : decode cX0_lenderOf 67 = .ok (.istore 6, 2) := by decide +kernel
theorem dX0_lenderOf_69 : decode cX0_lenderOf 69 = .ok (.aload_n 0, 1) := by decide +kernel
theorem dX0_lenderOf_70 : decode cX0_lenderOf 70 = .ok (.getfield 17, 3) := by decide +kernel
theorem dX0_lenderOf_73 : decode cX0_lenderOf 73 = .ok (.iload_n 1, 1) := by decide +kernel
theorem dX0_lenderOf_74 : decode cX0_lenderOf 74 = .ok (.aaload, 1) := by decide +kernel
theorem dX0_lenderOf_75 : decode cX0_lenderOf 75 = .ok (.iload 4, 2) := by decide +kernel
theorem dX0_lenderOf_77 : decode cX0_lenderOf 77 = .ok (.iload 5, 2) := by decide +kernel
theorem dX0_lenderOf_79 : decode cX0_lenderOf 79 = .ok (.iastore, 1) := by decide +kernel
theorem dX0_lenderOf_80 : decode cX0_lenderOf 80 = .ok (.iload 6, 2) := by decide +kernel
theorem dX0_lenderOf_82 : decode cX0_lenderOf 82 = .ok (.ifCond .eq 6, 3) := by decide +kernel
theorem dX0_lenderOf_85 : decode cX0_lenderOf 85 = .ok (.iload 4, 2) := by decide +kernel
theorem dX0_lenderOf_87 : decode cX0_lenderOf 87 = .ok (.ireturn, 1) := by decide +kernel
theorem dX0_lenderOf_88 : decode cX0_lenderOf 88 = .ok (.iinc 4 1, 3) := by decide +kernel
theorem dX0_lenderOf_91 : decode cX0_lenderOf 91 = .ok (.goto (-88), 3) := by decide +kernel
theorem dX0_lenderOf_94 : decode cX0_lenderOf 94 = .ok (.bipush (-9), 2) := by decide +kernel
theorem dX0_lenderOf_96 : decode cX0_lenderOf 96 = .ok (.ireturn, 1) := by decide +kernel
theorem dX0_areReadingsSo_0 : decode cX0_areReadingsSo 0 = .ok (.iconst 0, 1) := by decide +kernel
theorem dX0_areReadingsSo_1 : decode cX0_areReadingsSo 1 = .ok (.istore_n 1, 1) := by decide +kernel
theorem dX0_areReadingsSo_2 : decode cX0_areReadingsSo 2 = .ok (.iload_n 1, 1) := by decide +kernel
theorem dX0_areReadingsSo_3 : decode cX0_areReadingsSo 3 = .ok (.aload_n 0, 1) := by decide +kernel
theorem dX0_areReadingsSo_4 : decode cX0_areReadingsSo 4 = .ok (.getfield 59, 3) := by decide +kernel
theorem dX0_areReadingsSo_7 : decode cX0_areReadingsSo 7 = .ok (.if_icmp .ge 30, 3) := by decide +kernel
theorem dX0_areReadingsSo_10 : decode cX0_areReadingsSo 10 = .ok (.aload_n 0, 1) := by decide +kernel
theorem dX0_areReadingsSo_11 : decode cX0_areReadingsSo 11 = .ok (.aload_n 0, 1) := by decide +kernel
theorem dX0_areReadingsSo_12 : decode cX0_areReadingsSo 12 = .ok (.getfield 20, 3) := by decide +kernel
theorem dX0_areReadingsSo_15 : decode cX0_areReadingsSo 15 = .ok (.iload_n 1, 1) := by decide +kernel
theorem dX0_areReadingsSo_16 : decode cX0_areReadingsSo 16 = .ok (.iaload, 1) := by decide +kernel
theorem dX0_areReadingsSo_17 : decode cX0_areReadingsSo 17 = .ok (.invokevirtual 80, 3) := by decide +kernel
theorem dX0_areReadingsSo_20 : decode cX0_areReadingsSo 20 = .ok (.aload_n 0, 1) := by decide +kernel
theorem dX0_areReadingsSo_21 : decode cX0_areReadingsSo 21 = .ok (.getfield 23, 3) := by decide +kernel
theorem dX0_areReadingsSo_24 : decode cX0_areReadingsSo 24 = .ok (.iload_n 1, 1) := by decide +kernel
theorem dX0_areReadingsSo_25 : decode cX0_areReadingsSo 25 = .ok (.iaload, 1) := by decide +kernel
theorem dX0_areReadingsSo_26 : decode cX0_areReadingsSo 26 = .ok (.if_icmp .eq 5, 3) := by decide +kernel
theorem dX0_areReadingsSo_29 : decode cX0_areReadingsSo 29 = .ok (.iconst 0, 1) := by decide +kernel
theorem dX0_areReadingsSo_30 : decode cX0_areReadingsSo 30 = .ok (.ireturn, 1) := by decide +kernel
theorem dX0_areReadingsSo_31 : decode cX0_areReadingsSo 31 = .ok (.iinc 1 1, 3) := by decide +kernel
theorem dX0_areReadingsSo_34 : decode cX0_areReadingsSo 34 = .ok (.goto (-32), 3) := by decide +kernel
theorem dX0_areReadingsSo_37 : decode cX0_areReadingsSo 37 = .ok (.iconst 1, 1) := by decide +kernel
theorem dX0_areReadingsSo_38 : decode cX0_areReadingsSo 38 = .ok (.ireturn, 1) := by decide +kernel
theorem dX0_notesThatFit_0 : decode cX0_notesThatFit 0 = .ok (.aload_n 0, 1) := by decide +kernel
theorem dX0_notesThatFit_1 : decode cX0_notesThatFit 1 = .ok (.getfield 17, 3) := by decide +kernel
theorem dX0_notesThatFit_4 : decode cX0_notesThatFit 4 = .ok (.iload_n 1, 1) := by decide +kernel
theorem dX0_notesThatFit_5 : decode cX0_notesThatFit 5 = .ok (.aaload, 1) := by decide +kernel
theorem dX0_notesThatFit_6 : decode cX0_notesThatFit 6 = .ok (.iload_n 2, 1) := by decide +kernel
theorem dX0_notesThatFit_7 : decode cX0_notesThatFit 7 = .ok (.iaload, 1) := by decide +kernel
theorem dX0_notesThatFit_8 : decode cX0_notesThatFit 8 = .ok (.istore_n 3, 1) := by decide +kernel
theorem dX0_notesThatFit_9 : decode cX0_notesThatFit 9 = .ok (.iconst 0, 1) := by decide +kernel
theorem dX0_notesThatFit_10 : decode cX0_notesThatFit 10 = .ok (.istore 4, 2) := by decide +kernel
theorem dX0_notesThatFit_12 : decode cX0_notesThatFit 12 = .ok (.iconst 0, 1) := by decide +kernel
theorem dX0_notesThatFit_13 : decode cX0_notesThatFit 13 = .ok (.istore 5, 2) := by decide +kernel
theorem dX0_notesThatFit_15 : decode cX0_notesThatFit 15 = .ok (.iload 5, 2) := by decide +kernel
theorem dX0_notesThatFit_17 : decode cX0_notesThatFit 17 = .ok (.bipush 9, 2) := by decide +kernel
theorem dX0_notesThatFit_19 : decode cX0_notesThatFit 19 = .ok (.if_icmp .gt 39, 3) := by decide +kernel
theorem dX0_notesThatFit_22 : decode cX0_notesThatFit 22 = .ok (.aload_n 0, 1) := by decide +kernel
theorem dX0_notesThatFit_23 : decode cX0_notesThatFit 23 = .ok (.getfield 17, 3) := by decide +kernel
theorem dX0_notesThatFit_26 : decode cX0_notesThatFit 26 = .ok (.iload_n 1, 1) := by decide +kernel
theorem dX0_notesThatFit_27 : decode cX0_notesThatFit 27 = .ok (.aaload, 1) := by decide +kernel
theorem dX0_notesThatFit_28 : decode cX0_notesThatFit 28 = .ok (.iload_n 2, 1) := by decide +kernel
theorem dX0_notesThatFit_29 : decode cX0_notesThatFit 29 = .ok (.iload 5, 2) := by decide +kernel
theorem dX0_notesThatFit_31 : decode cX0_notesThatFit 31 = .ok (.iastore, 1) := by decide +kernel
theorem dX0_notesThatFit_32 : decode cX0_notesThatFit 32 = .ok (.iload 4, 2) := by decide +kernel
theorem dX0_notesThatFit_34 : decode cX0_notesThatFit 34 = .ok (.aload_n 0, 1) := by decide +kernel
theorem dX0_notesThatFit_35 : decode cX0_notesThatFit 35 = .ok (.invokevirtual 102, 3) := by decide +kernel
theorem dX0_notesThatFit_38 : decode cX0_notesThatFit 38 = .ok (.ifCond .eq 10, 3) := by decide +kernel
theorem dX0_notesThatFit_41 : decode cX0_notesThatFit 41 = .ok (.iconst 1, 1) := by decide +kernel
theorem dX0_notesThatFit_42 : decode cX0_notesThatFit 42 = .ok (.iload 5, 2) := by decide +kernel
theorem dX0_notesThatFit_44 : decode cX0_notesThatFit 44 = .ok (.ishl, 1) := by decide +kernel
theorem dX0_notesThatFit_45 : decode cX0_notesThatFit 45 = .ok (.goto 4, 3) := by decide +kernel
theorem dX0_notesThatFit_48 : decode cX0_notesThatFit 48 = .ok (.iconst 0, 1) := by decide +kernel
theorem dX0_notesThatFit_49 : decode cX0_notesThatFit 49 = .ok (.ior, 1) := by decide +kernel
theorem dX0_notesThatFit_50 : decode cX0_notesThatFit 50 = .ok (.istore 4, 2) := by decide +kernel
theorem dX0_notesThatFit_52 : decode cX0_notesThatFit 52 = .ok (.iinc 5 1, 3) := by decide +kernel
theorem dX0_notesThatFit_55 : decode cX0_notesThatFit 55 = .ok (.goto (-40), 3) := by decide +kernel
theorem dX0_notesThatFit_58 : decode cX0_notesThatFit 58 = .ok (.aload_n 0, 1) := by decide +kernel
theorem dX0_notesThatFit_59 : decode cX0_notesThatFit 59 = .ok (.getfield 17, 3) := by decide +kernel
theorem dX0_notesThatFit_62 : decode cX0_notesThatFit 62 = .ok (.iload_n 1, 1) := by decide +kernel
theorem dX0_notesThatFit_63 : decode cX0_notesThatFit 63 = .ok (.aaload, 1) := by decide +kernel
theorem dX0_notesThatFit_64 : decode cX0_notesThatFit 64 = .ok (.iload_n 2, 1) := by decide +kernel
theorem dX0_notesThatFit_65 : decode cX0_notesThatFit 65 = .ok (.iload_n 3, 1) := by decide +kernel
theorem dX0_notesThatFit_66 : decode cX0_notesThatFit 66 = .ok (.iastore, 1) := by decide +kernel
theorem dX0_notesThatFit_67 : decode cX0_notesThatFit 67 = .ok (.iload 4, 2) := by decide +kernel
theorem dX0_notesThatFit_69 : decode cX0_notesThatFit 69 = .ok (.ireturn, 1) := by decide +kernel
theorem dX0_kindsThatFit_0 : decode cX0_kindsThatFit 0 = .ok (.aload_n 0, 1) := by decide +kernel
theorem dX0_kindsThatFit_1 : decode cX0_kindsThatFit 1 = .ok (.getfield 9, 3) := by decide +kernel
theorem dX0_kindsThatFit_4 : decode cX0_kindsThatFit 4 = .ok (.iload_n 1, 1) := by decide +kernel
theorem dX0_kindsThatFit_5 : decode cX0_kindsThatFit 5 = .ok (.iaload, 1) := by decide +kernel
theorem dX0_kindsThatFit_6 : decode cX0_kindsThatFit 6 = .ok (.istore_n 2, 1) := by decide +kernel
theorem dX0_kindsThatFit_7 : decode cX0_kindsThatFit 7 = .ok (.iconst 0, 1) := by decide +kernel
theorem dX0_kindsThatFit_8 : decode cX0_kindsThatFit 8 = .ok (.istore_n 3, 1) := by decide +kernel
theorem dX0_kindsThatFit_9 : decode cX0_kindsThatFit 9 = .ok (.iconst 0, 1) := by decide +kernel
theorem dX0_kindsThatFit_10 : decode cX0_kindsThatFit 10 = .ok (.istore 4, 2) := by decide +kernel
theorem dX0_kindsThatFit_12 : decode cX0_kindsThatFit 12 = .ok (.iload 4, 2) := by decide +kernel
theorem dX0_kindsThatFit_14 : decode cX0_kindsThatFit 14 = .ok (.iconst 2, 1) := by decide +kernel
theorem dX0_kindsThatFit_15 : decode cX0_kindsThatFit 15 = .ok (.if_icmp .gt 35, 3) := by decide +kernel
theorem dX0_kindsThatFit_18 : decode cX0_kindsThatFit 18 = .ok (.aload_n 0, 1) := by decide +kernel
theorem dX0_kindsThatFit_19 : decode cX0_kindsThatFit 19 = .ok (.getfield 9, 3) := by decide +kernel
theorem dX0_kindsThatFit_22 : decode cX0_kindsThatFit 22 = .ok (.iload_n 1, 1) := by decide +kernel
theorem dX0_kindsThatFit_23 : decode cX0_kindsThatFit 23 = .ok (.iload 4, 2) := by decide +kernel
theorem dX0_kindsThatFit_25 : decode cX0_kindsThatFit 25 = .ok (.iastore, 1) := by decide +kernel
theorem dX0_kindsThatFit_26 : decode cX0_kindsThatFit 26 = .ok (.iload_n 3, 1) := by decide +kernel
theorem dX0_kindsThatFit_27 : decode cX0_kindsThatFit 27 = .ok (.aload_n 0, 1) := by decide +kernel
theorem dX0_kindsThatFit_28 : decode cX0_kindsThatFit 28 = .ok (.invokevirtual 102, 3) := by decide +kernel
theorem dX0_kindsThatFit_31 : decode cX0_kindsThatFit 31 = .ok (.ifCond .eq 10, 3) := by decide +kernel
theorem dX0_kindsThatFit_34 : decode cX0_kindsThatFit 34 = .ok (.iconst 1, 1) := by decide +kernel
theorem dX0_kindsThatFit_35 : decode cX0_kindsThatFit 35 = .ok (.iload 4, 2) := by decide +kernel
theorem dX0_kindsThatFit_37 : decode cX0_kindsThatFit 37 = .ok (.ishl, 1) := by decide +kernel
theorem dX0_kindsThatFit_38 : decode cX0_kindsThatFit 38 = .ok (.goto 4, 3) := by decide +kernel
theorem dX0_kindsThatFit_41 : decode cX0_kindsThatFit 41 = .ok (.iconst 0, 1) := by decide +kernel
theorem dX0_kindsThatFit_42 : decode cX0_kindsThatFit 42 = .ok (.ior, 1) := by decide +kernel
theorem dX0_kindsThatFit_43 : decode cX0_kindsThatFit 43 = .ok (.istore_n 3, 1) := by decide +kernel
theorem dX0_kindsThatFit_44 : decode cX0_kindsThatFit 44 = .ok (.iinc 4 1, 3) := by decide +kernel
theorem dX0_kindsThatFit_47 : decode cX0_kindsThatFit 47 = .ok (.goto (-35), 3) := by decide +kernel
theorem dX0_kindsThatFit_50 : decode cX0_kindsThatFit 50 = .ok (.aload_n 0, 1) := by decide +kernel
theorem dX0_kindsThatFit_51 : decode cX0_kindsThatFit 51 = .ok (.getfield 9, 3) := by decide +kernel
theorem dX0_kindsThatFit_54 : decode cX0_kindsThatFit 54 = .ok (.iload_n 1, 1) := by decide +kernel
theorem dX0_kindsThatFit_55 : decode cX0_kindsThatFit 55 = .ok (.iload_n 2, 1) := by decide +kernel
theorem dX0_kindsThatFit_56 : decode cX0_kindsThatFit 56 = .ok (.iastore, 1) := by decide +kernel
theorem dX0_kindsThatFit_57 : decode cX0_kindsThatFit 57 = .ok (.iload_n 3, 1) := by decide +kernel
theorem dX0_kindsThatFit_58 : decode cX0_kindsThatFit 58 = .ok (.ireturn, 1) := by decide +kernel
theorem dX0_timesThatFit_0 : decode cX0_timesThatFit 0 = .ok (.aload_n 0, 1) := by decide +kernel
theorem dX0_timesThatFit_1 : decode cX0_timesThatFit 1 = .ok (.getfield 53, 3) := by decide +kernel
theorem dX0_timesThatFit_4 : decode cX0_timesThatFit 4 = .ok (.istore_n 1, 1) := by decide +kernel
theorem dX0_timesThatFit_5 : decode cX0_timesThatFit 5 = .ok (.iconst 0, 1) := by decide +kernel
theorem dX0_timesThatFit_6 : decode cX0_timesThatFit 6 = .ok (.istore_n 2, 1) := by decide +kernel
theorem dX0_timesThatFit_7 : decode cX0_timesThatFit 7 = .ok (.iconst 1, 1) := by decide +kernel
theorem dX0_timesThatFit_8 : decode cX0_timesThatFit 8 = .ok (.istore_n 3, 1) := by decide +kernel
theorem dX0_timesThatFit_9 : decode cX0_timesThatFit 9 = .ok (.iload_n 3, 1) := by decide +kernel
theorem dX0_timesThatFit_10 : decode cX0_timesThatFit 10 = .ok (.iconst 3, 1) := by decide +kernel
theorem dX0_timesThatFit_11 : decode cX0_timesThatFit 11 = .ok (.if_icmp .gt 31, 3) := by decide +kernel
theorem dX0_timesThatFit_14 : decode cX0_timesThatFit 14 = .ok (.aload_n 0, 1) := by decide +kernel
theorem dX0_timesThatFit_15 : decode cX0_timesThatFit 15 = .ok (.iload_n 3, 1) := by decide +kernel
theorem dX0_timesThatFit_16 : decode cX0_timesThatFit 16 = .ok (.putfield 53, 3) := by decide +kernel
theorem dX0_timesThatFit_19 : decode cX0_timesThatFit 19 = .ok (.iload_n 2, 1) := by decide +kernel
theorem dX0_timesThatFit_20 : decode cX0_timesThatFit 20 = .ok (.aload_n 0, 1) := by decide +kernel
theorem dX0_timesThatFit_21 : decode cX0_timesThatFit 21 = .ok (.invokevirtual 102, 3) := by decide +kernel
theorem dX0_timesThatFit_24 : decode cX0_timesThatFit 24 = .ok (.ifCond .eq 9, 3) := by decide +kernel
theorem dX0_timesThatFit_27 : decode cX0_timesThatFit 27 = .ok (.iconst 1, 1) := by decide +kernel
theorem dX0_timesThatFit_28 : decode cX0_timesThatFit 28 = .ok (.iload_n 3, 1) := by decide +kernel
theorem dX0_timesThatFit_29 : decode cX0_timesThatFit 29 = .ok (.ishl, 1) := by decide +kernel
theorem dX0_timesThatFit_30 : decode cX0_timesThatFit 30 = .ok (.goto 4, 3) := by decide +kernel
theorem dX0_timesThatFit_33 : decode cX0_timesThatFit 33 = .ok (.iconst 0, 1) := by decide +kernel
theorem dX0_timesThatFit_34 : decode cX0_timesThatFit 34 = .ok (.ior, 1) := by decide +kernel
theorem dX0_timesThatFit_35 : decode cX0_timesThatFit 35 = .ok (.istore_n 2, 1) := by decide +kernel
theorem dX0_timesThatFit_36 : decode cX0_timesThatFit 36 = .ok (.iinc 3 1, 3) := by decide +kernel
theorem dX0_timesThatFit_39 : decode cX0_timesThatFit 39 = .ok (.goto (-30), 3) := by decide +kernel
theorem dX0_timesThatFit_42 : decode cX0_timesThatFit 42 = .ok (.aload_n 0, 1) := by decide +kernel
theorem dX0_timesThatFit_43 : decode cX0_timesThatFit 43 = .ok (.iload_n 1, 1) := by decide +kernel
theorem dX0_timesThatFit_44 : decode cX0_timesThatFit 44 = .ok (.putfield 53, 3) := by decide +kernel
theorem dX0_timesThatFit_47 : decode cX0_timesThatFit 47 = .ok (.iload_n 2, 1) := by decide +kernel
theorem dX0_timesThatFit_48 : decode cX0_timesThatFit 48 = .ok (.ireturn, 1) := by decide +kernel
theorem dX0_wetSetsWithPuller_0 : decode cX0_wetSetsWithPuller 0 = .ok (.aload_n 0, 1) := by decide +kernel
theorem dX0_wetSetsWithPuller_1 : decode cX0_wetSetsWithPuller 1 = .ok (.invokevirtual 41, 3) := by decide +kernel
theorem dX0_wetSetsWithPuller_4 : decode cX0_wetSetsWithPuller 4 = .ok (.istore_n 3, 1) := by decide +kernel
theorem dX0_wetSetsWithPuller_5 : decode cX0_wetSetsWithPuller 5 = .ok (.iconst 0, 1) := by decide +kernel
theorem dX0_wetSetsWithPuller_6 : decode cX0_wetSetsWithPuller 6 = .ok (.istore 4, 2) := by decide +kernel
theorem dX0_wetSetsWithPuller_8 : decode cX0_wetSetsWithPuller 8 = .ok (.iconst 0, 1) := by decide +kernel
theorem dX0_wetSetsWithPuller_9 : decode cX0_wetSetsWithPuller 9 = .ok (.istore 5, 2) := by decide +kernel
theorem dX0_wetSetsWithPuller_11 : decode cX0_wetSetsWithPuller 11 = .ok (.iload 5, 2) := by decide +kernel
theorem dX0_wetSetsWithPuller_13 : decode cX0_wetSetsWithPuller 13 = .ok (.iload_n 3, 1) := by decide +kernel
theorem dX0_wetSetsWithPuller_14 : decode cX0_wetSetsWithPuller 14 = .ok (.if_icmp .gt 26, 3) := by decide +kernel
theorem dX0_wetSetsWithPuller_17 : decode cX0_wetSetsWithPuller 17 = .ok (.iload 4, 2) := by decide +kernel
theorem dX0_wetSetsWithPuller_19 : decode cX0_wetSetsWithPuller 19 = .ok (.aload_n 0, 1) := by decide +kernel
theorem dX0_wetSetsWithPuller_20 : decode cX0_wetSetsWithPuller 20 = .ok (.iload_n 2, 1) := by decide +kernel
theorem dX0_wetSetsWithPuller_21 : decode cX0_wetSetsWithPuller 21 = .ok (.iconst 0, 1) := by decide +kernel
theorem dX0_wetSetsWithPuller_22 : decode cX0_wetSetsWithPuller 22 = .ok (.iload 5, 2) := by decide +kernel
theorem dX0_wetSetsWithPuller_24 : decode cX0_wetSetsWithPuller 24 = .ok (.invokevirtual 68, 3) := by decide +kernel
theorem dX0_wetSetsWithPuller_27 : decode cX0_wetSetsWithPuller 27 = .ok (.iload_n 1, 1) := by decide +kernel
theorem dX0_wetSetsWithPuller_28 : decode cX0_wetSetsWithPuller 28 = .ok (.ishr, 1) := by decide +kernel
theorem dX0_wetSetsWithPuller_29 : decode cX0_wetSetsWithPuller 29 = .ok (.iconst 1, 1) := by decide +kernel
theorem dX0_wetSetsWithPuller_30 : decode cX0_wetSetsWithPuller 30 = .ok (.iand, 1) := by decide +kernel
theorem dX0_wetSetsWithPuller_31 : decode cX0_wetSetsWithPuller 31 = .ok (.iadd, 1) := by decide +kernel
theorem dX0_wetSetsWithPuller_32 : decode cX0_wetSetsWithPuller 32 = .ok (.istore 4, 2) := by decide +kernel
theorem dX0_wetSetsWithPuller_34 : decode cX0_wetSetsWithPuller 34 = .ok (.iinc 5 1, 3) := by decide +kernel
theorem dX0_wetSetsWithPuller_37 : decode cX0_wetSetsWithPuller 37 = .ok (.goto (-26), 3) := by decide +kernel
theorem dX0_wetSetsWithPuller_40 : decode cX0_wetSetsWithPuller 40 = .ok (.iload 4, 2) := by decide +kernel
theorem dX0_wetSetsWithPuller_42 : decode cX0_wetSetsWithPuller 42 = .ok (.ireturn, 1) := by decide +kernel
