theorem dX3_init_0 : decode cX3_init 0 = .ok (.aload_n 0, 1) := by decide +kernel
theorem dX3_init_1 : decode cX3_init 1 = .ok (.invokespecial 3, 3) := by decide +kernel
theorem dX3_init_4 : decode cX3_init 4 = .ok (.aload_n 0, 1) := by decide +kernel
theorem dX3_init_5 : decode cX3_init 5 = .ok (.new 9, 3) := by decide +kernel
theorem dX3_init_8 : decode cX3_init 8 = .ok (.dup, 1) := by decide +kernel
theorem dX3_init_9 : decode cX3_init 9 = .ok (.invokespecial 11, 3) := by decide +kernel
theorem dX3_init_12 : decode cX3_init 12 = .ok (.putfield 12, 3) := by decide +kernel
theorem dX3_init_15 : decode cX3_init 15 = .ok (.aload_n 0, 1) := by decide +kernel
theorem dX3_init_16 : decode cX3_init 16 = .ok (.iconst 4, 1) := by decide +kernel
theorem dX3_init_17 : decode cX3_init 17 = .ok (.anewarray 18, 3) := by decide +kernel
theorem dX3_init_20 : decode cX3_init 20 = .ok (.putfield 20, 3) := by decide +kernel
theorem dX3_init_23 : decode cX3_init 23 = .ok (.iconst 0, 1) := by decide +kernel
theorem dX3_init_24 : decode cX3_init 24 = .ok (.istore_n 1, 1) := by decide +kernel
theorem dX3_init_25 : decode cX3_init 25 = .ok (.iload_n 1, 1) := by decide +kernel
theorem dX3_init_26 : decode cX3_init 26 = .ok (.iconst 4, 1) := by decide +kernel
theorem dX3_init_27 : decode cX3_init 27 = .ok (.if_icmp .ge 22, 3) := by decide +kernel
theorem dX3_init_30 : decode cX3_init 30 = .ok (.aload_n 0, 1) := by decide +kernel
theorem dX3_init_31 : decode cX3_init 31 = .ok (.getfield 20, 3) := by decide +kernel
theorem dX3_init_34 : decode cX3_init 34 = .ok (.iload_n 1, 1) := by decide +kernel
theorem dX3_init_35 : decode cX3_init 35 = .ok (.new 18, 3) := by decide +kernel
theorem dX3_init_38 : decode cX3_init 38 = .ok (.dup, 1) := by decide +kernel
theorem dX3_init_39 : decode cX3_init 39 = .ok (.invokespecial 24, 3) := by decide +kernel
theorem dX3_init_42 : decode cX3_init 42 = .ok (.aastore, 1) := by decide +kernel
theorem dX3_init_43 : decode cX3_init 43 = .ok (.iinc 1 1, 3) := by decide +kernel
theorem dX3_init_46 : decode cX3_init 46 = .ok (.goto (-21), 3) := by decide +kernel
theorem dX3_init_49 : decode cX3_init 49 = .ok (.return_, 1) := by decide +kernel
theorem dX3_river_0 : decode cX3_river 0 = .ok (.aload_n 0, 1) := by decide +kernel
theorem dX3_river_1 : decode cX3_river 1 = .ok (.iconst 0, 1) := by decide +kernel
theorem dX3_river_2 : decode cX3_river 2 = .ok (.putfield 25, 3) := by decide +kernel
theorem dX3_river_5 : decode cX3_river 5 = .ok (.iload_n 1, 1) := by decide +kernel
theorem dX3_river_6 : decode cX3_river 6 = .ok (.invokestatic 29, 3) := by decide +kernel
theorem dX3_river_9 : decode cX3_river 9 = .ok (.ifCond .ne 5, 3) := by decide +kernel
theorem dX3_river_12 : decode cX3_river 12 = .ok (.iconst (-1), 1) := by decide +kernel
theorem dX3_river_13 : decode cX3_river 13 = .ok (.ireturn, 1) := by decide +kernel
theorem dX3_river_14 : decode cX3_river 14 = .ok (.iload_n 2, 1) := by decide +kernel
theorem dX3_river_15 : decode cX3_river 15 = .ok (.invokestatic 33, 3) := by decide +kernel
theorem dX3_river_18 : decode cX3_river 18 = .ok (.ifCond .ne 6, 3) := by decide +kernel
theorem dX3_river_21 : decode cX3_river 21 = .ok (.bipush (-2), 2) := by decide +kernel
theorem dX3_river_23 : decode cX3_river 23 = .ok (.ireturn, 1) := by decide +kernel
theorem dX3_river_24 : decode cX3_river 24 = .ok (.aload_n 0, 1) := by decide +kernel
theorem dX3_river_25 : decode cX3_river 25 = .ok (.getfield 20, 3) := by decide +kernel
theorem dX3_river_28 : decode cX3_river 28 = .ok (.iload_n 1, 1) := by decide +kernel
theorem dX3_river_29 : decode cX3_river 29 = .ok (.aaload, 1) := by decide +kernel
theorem dX3_river_30 : decode cX3_river 30 = .ok (.astore 5, 2) := by decide +kernel
theorem dX3_river_32 : decode cX3_river 32 = .ok (.aload 5, 2) := by decide +kernel
theorem dX3_river_34 : decode cX3_river 34 = .ok (.iload_n 2, 1) := by decide +kernel
theorem dX3_river_35 : decode cX3_river 35 = .ok (.invokevirtual 36, 3) := by decide +kernel
theorem dX3_river_38 : decode cX3_river 38 = .ok (.istore 6, 2) := by decide +kernel
theorem dX3_river_40 : decode cX3_river 40 = .ok (.iload 6, 2) := by decide +kernel
theorem dX3_river_42 : decode cX3_river 42 = .ok (.ifCond .ne 11, 3) := by decide +kernel
theorem dX3_river_45 : decode cX3_river 45 = .ok (.iload 4, 2) := by decide +kernel
theorem dX3_river_47 : decode cX3_river 47 = .ok (.ifCond .ge 6, 3) := by decide +kernel
theorem dX3_river_50 : decode cX3_river 50 = .ok (.iconst 4, 1) := by decide +kernel
theorem dX3_river_51 : decode cX3_river 51 = .ok (.istore 6, 2) := by decide +kernel
theorem dX3_river_53 : decode cX3_river 53 = .ok (.iload 6, 2) := by decide +kernel
theorem dX3_river_55 : decode cX3_river 55 = .ok (.ifCond .ne 17, 3) := by decide +kernel
theorem dX3_river_58 : decode cX3_river 58 = .ok (.aload 5, 2) := by decide +kernel
theorem dX3_river_60 : decode cX3_river 60 = .ok (.iload_n 3, 1) := by decide +kernel
theorem dX3_river_61 : decode cX3_river 61 = .ok (.iload 4, 2) := by decide +kernel
theorem dX3_river_63 : decode cX3_river 63 = .ok (.invokevirtual 40, 3) := by decide +kernel
theorem dX3_river_66 : decode cX3_river 66 = .ok (.ifCond .ne 6, 3) := by decide +kernel
theorem dX3_river_69 : decode cX3_river 69 = .ok (.iconst 3, 1) := by decide +kernel
theorem dX3_river_70 : decode cX3_river 70 = .ok (.istore 6, 2) := by decide +kernel
theorem dX3_river_72 : decode cX3_river 72 = .ok (.iload 6, 2) := by decide +kernel
theorem dX3_river_74 : decode cX3_river 74 = .ok (.ifCond .eq 10, 3) := by decide +kernel
theorem dX3_river_77 : decode cX3_river 77 = .ok (.aload_n 0, 1) := by decide +kernel
theorem dX3_river_78 : decode cX3_river 78 = .ok (.iload 6, 2) := by decide +kernel
theorem dX3_river_80 : decode cX3_river 80 = .ok (.invokevirtual 44, 3) := by decide +kernel
theorem dX3_river_83 : decode cX3_river 83 = .ok (.ireturn, 1) := by decide +kernel
theorem dX3_river_84 : decode cX3_river 84 = .ok (.aload 5, 2) := by decide +kernel
theorem dX3_river_86 : decode cX3_river 86 = .ok (.iload_n 3, 1) := by decide +kernel
theorem dX3_river_87 : decode cX3_river 87 = .ok (.iload 4, 2) := by decide +kernel
theorem dX3_river_89 : decode cX3_river 89 = .ok (.invokestatic 47, 3) := by decide +kernel
theorem dX3_river_92 : decode cX3_river 92 = .ok (.istore 7, 2) := by decide +kernel
theorem dX3_river_94 : decode cX3_river 94 = .ok (.iload 7, 2) := by decide +kernel
theorem dX3_river_96 : decode cX3_river 96 = .ok (.bipush (-9), 2) := by decide +kernel
theorem dX3_river_98 : decode cX3_river 98 = .ok (.if_icmp .eq 9, 3) := by decide +kernel
theorem dX3_river_101 : decode cX3_river 101 = .ok (.bipush (-100), 2) := by decide +kernel
theorem dX3_river_103 : decode cX3_river 103 = .ok (.iload 7, 2) := by decide +kernel
theorem dX3_river_105 : decode cX3_river 105 = .ok (.isub, 1) := by decide +kernel
theorem dX3_river_106 : decode cX3_river 106 = .ok (.ireturn, 1) := by decide +kernel
theorem dX3_river_107 : decode cX3_river 107 = .ok (.aload_n 0, 1) := by decide +kernel
theorem dX3_river_108 : decode cX3_river 108 = .ok (.getfield 12, 3) := by decide +kernel
theorem dX3_river_111 : decode cX3_river 111 = .ok (.aload 5, 2) := by decide +kernel
theorem dX3_river_113 : decode cX3_river 113 = .ok (.iload_n 3, 1) := by decide +kernel
theorem dX3_river_114 : decode cX3_river 114 = .ok (.invokevirtual 53, 3) := by decide +kernel
theorem dX3_river_117 : decode cX3_river 117 = .ok (.aload_n 0, 1) := by decide +kernel
theorem dX3_river_118 : decode cX3_river 118 = .ok (.getfield 12, 3) := by decide +kernel
theorem dX3_river_121 : decode cX3_river 121 = .ok (.getfield 57, 3) := by decide +kernel
theorem dX3_river_124 : decode cX3_river 124 = .ok (.ireturn, 1) := by decide +kernel
theorem dX3_ofPerson_0 : decode cX3_ofPerson 0 = .ok (.aload_n 0, 1) := by decide +kernel
theorem dX3_ofPerson_1 : decode cX3_ofPerson 1 = .ok (.getfield 12, 3) := by decide +kernel
theorem dX3_ofPerson_4 : decode cX3_ofPerson 4 = .ok (.iload_n 1, 1) := by decide +kernel
theorem dX3_ofPerson_5 : decode cX3_ofPerson 5 = .ok (.invokevirtual 60, 3) := by decide +kernel
theorem dX3_ofPerson_8 : decode cX3_ofPerson 8 = .ok (.ifCond .ne 5, 3) := by decide +kernel
theorem dX3_ofPerson_11 : decode cX3_ofPerson 11 = .ok (.iconst (-1), 1) := by decide +kernel
theorem dX3_ofPerson_12 : decode cX3_ofPerson 12 = .ok (.ireturn, 1) := by decide +kernel
theorem dX3_ofPerson_13 : decode cX3_ofPerson 13 = .ok (.iload_n 2, 1) := by decide +kernel
theorem dX3_ofPerson_14 : decode cX3_ofPerson 14 = .ok (.tableswitch 57 0 2 #[26, 36, 48], 26) := by decide +kernel
theorem dX3_ofPerson_40 : decode cX3_ofPerson 40 = .ok (.aload_n 0, 1) := by decide +kernel
theorem dX3_ofPerson_41 : decode cX3_ofPerson 41 = .ok (.getfield 12, 3) := by decide +kernel
theorem dX3_ofPerson_44 : decode cX3_ofPerson 44 = .ok (.getfield 63, 3) := by decide +kernel
theorem dX3_ofPerson_47 : decode cX3_ofPerson 47 = .ok (.iload_n 1, 1) := by decide +kernel
theorem dX3_ofPerson_48 : decode cX3_ofPerson 48 = .ok (.iaload, 1) := by decide +kernel
theorem dX3_ofPerson_49 : decode cX3_ofPerson 49 = .ok (.ireturn, 1) := by decide +kernel
theorem dX3_ofPerson_50 : decode cX3_ofPerson 50 = .ok (.aload_n 0, 1) := by decide +kernel
theorem dX3_ofPerson_51 : decode cX3_ofPerson 51 = .ok (.getfield 12, 3) := by decide +kernel
theorem dX3_ofPerson_54 : decode cX3_ofPerson 54 = .ok (.getfield 67, 3) := by decide +kernel
theorem dX3_ofPerson_57 : decode cX3_ofPerson 57 = .ok (.iload_n 1, 1) := by decide +kernel
theorem dX3_ofPerson_58 : decode cX3_ofPerson 58 = .ok (.ishr, 1) := by decide +kernel
theorem dX3_ofPerson_59 : decode cX3_ofPerson 59 = .ok (.iconst 1, 1) := by decide +kernel
theorem dX3_ofPerson_60 : decode cX3_ofPerson 60 = .ok (.iand, 1) := by decide +kernel
theorem dX3_ofPerson_61 : decode cX3_ofPerson 61 = .ok (.ireturn, 1) := by decide +kernel
theorem dX3_ofPerson_62 : decode cX3_ofPerson 62 = .ok (.aload_n 0, 1) := by decide +kernel
theorem dX3_ofPerson_63 : decode cX3_ofPerson 63 = .ok (.getfield 12, 3) := by decide +kernel
theorem dX3_ofPerson_66 : decode cX3_ofPerson 66 = .ok (.iload_n 1, 1) := by decide +kernel
theorem dX3_ofPerson_67 : decode cX3_ofPerson 67 = .ok (.invokevirtual 70, 3) := by decide +kernel
theorem dX3_ofPerson_70 : decode cX3_ofPerson 70 = .ok (.ireturn, 1) := by decide +kernel
theorem dX3_ofPerson_71 : decode cX3_ofPerson 71 = .ok (.bipush (-2), 2) := by decide +kernel
theorem dX3_ofPerson_73 : decode cX3_ofPerson 73 = .ok (.ireturn, 1) := by decide +kernel
theorem dX3_owes_0 : decode cX3_owes 0 = .ok (.aload_n 0, 1) := by decide +kernel
theorem dX3_owes_1 : decode cX3_owes 1 = .ok (.getfield 12, 3) := by decide +kernel
theorem dX3_owes_4 : decode cX3_owes 4 = .ok (.iload_n 1, 1) := by decide +kernel
theorem dX3_owes_5 : decode cX3_owes 5 = .ok (.invokevirtual 60, 3) := by decide +kernel
theorem dX3_owes_8 : decode cX3_owes 8 = .ok (.ifCond .eq 14, 3) := by decide +kernel
theorem dX3_owes_11 : decode cX3_owes 11 = .ok (.aload_n 0, 1) := by decide +kernel
theorem dX3_owes_12 : decode cX3_owes 12 = .ok (.getfield 12, 3) := by decide +kernel
theorem dX3_owes_15 : decode cX3_owes 15 = .ok (.iload_n 2, 1) := by decide +kernel
theorem dX3_owes_16 : decode cX3_owes 16 = .ok (.invokevirtual 60, 3) := by decide +kernel
theorem dX3_owes_19 : decode cX3_owes 19 = .ok (.ifCond .ne 5, 3) := by decide +kernel
theorem dX3_owes_22 : decode cX3_owes 22 = .ok (.iconst (-1), 1) := by decide +kernel
theorem dX3_owes_23 : decode cX3_owes 23 = .ok (.ireturn, 1) := by decide +kernel
theorem dX3_owes_24 : decode cX3_owes 24 = .ok (.aload_n 0, 1) := by decide +kernel
theorem dX3_owes_25 : decode cX3_owes 25 = .ok (.getfield 12, 3) := by decide +kernel
theorem dX3_owes_28 : decode cX3_owes 28 = .ok (.getfield 73, 3) := by decide +kernel
theorem dX3_owes_31 : decode cX3_owes 31 = .ok (.iload_n 1, 1) := by decide +kernel
theorem dX3_owes_32 : decode cX3_owes 32 = .ok (.aaload, 1) := by decide +kernel
theorem dX3_owes_33 : decode cX3_owes 33 = .ok (.iload_n 2, 1) := by decide +kernel
theorem dX3_owes_34 : decode cX3_owes 34 = .ok (.iaload, 1) := by decide +kernel
theorem dX3_owes_35 : decode cX3_owes 35 = .ok (.ireturn, 1) := by decide +kernel
theorem dX3_lend_0 : decode cX3_lend 0 = .ok (.aload_n 0, 1) := by decide +kernel
theorem dX3_lend_1 : decode cX3_lend 1 = .ok (.getfield 12, 3) := by decide +kernel
theorem dX3_lend_4 : decode cX3_lend 4 = .ok (.iload_n 1, 1) := by decide +kernel
theorem dX3_lend_5 : decode cX3_lend 5 = .ok (.iload_n 2, 1) := by decide +kernel
theorem dX3_lend_6 : decode cX3_lend 6 = .ok (.invokevirtual 77, 3) := by decide +kernel
theorem dX3_lend_9 : decode cX3_lend 9 = .ok (.ifCond .ne 5, 3) := by decide +kernel
theorem dX3_lend_12 : decode cX3_lend 12 = .ok (.iconst (-1), 1) := by decide +kernel
theorem dX3_lend_13 : decode cX3_lend 13 = .ok (.ireturn, 1) := by decide +kernel
theorem dX3_lend_14 : decode cX3_lend 14 = .ok (.iload_n 3, 1) := by decide +kernel
theorem dX3_lend_15 : decode cX3_lend 15 = .ok (.ifCond .lt 9, 3) := by decide +kernel
theorem dX3_lend_18 : decode cX3_lend 18 = .ok (.iload_n 3, 1) := by decide +kernel
theorem dX3_lend_19 : decode cX3_lend 19 = .ok (.bipush 9, 2) := by decide +kernel
theorem dX3_lend_21 : decode cX3_lend 21 = .ok (.if_icmp .le 6, 3) := by decide +kernel
theorem dX3_lend_24 : decode cX3_lend 24 = .ok (.bipush (-2), 2) := by decide +kernel
theorem dX3_lend_26 : decode cX3_lend 26 = .ok (.ireturn, 1) := by decide +kernel
theorem dX3_lend_27 : decode cX3_lend 27 = .ok (.aload_n 0, 1) := by decide +kernel
theorem dX3_lend_28 : decode cX3_lend 28 = .ok (.getfield 12, 3) := by decide +kernel
theorem dX3_lend_31 : decode cX3_lend 31 = .ok (.getfield 73, 3) := by decide +kernel
theorem dX3_lend_34 : decode cX3_lend 34 = .ok (.iload_n 1, 1) := by decide +kernel
theorem dX3_lend_35 : decode cX3_lend 35 = .ok (.aaload, 1) := by decide +kernel
theorem dX3_lend_36 : decode cX3_lend 36 = .ok (.iload_n 2, 1) := by decide +kernel
theorem dX3_lend_37 : decode cX3_lend 37 = .ok (.iaload, 1) := by decide +kernel
theorem dX3_lend_38 : decode cX3_lend 38 = .ok (.istore 4, 2) := by decide +kernel
theorem dX3_lend_40 : decode cX3_lend 40 = .ok (.aload_n 0, 1) := by decide +kernel
theorem dX3_lend_41 : decode cX3_lend 41 = .ok (.getfield 12, 3) := by decide +kernel
theorem dX3_lend_44 : decode cX3_lend 44 = .ok (.getfield 73, 3) := by decide +kernel
theorem dX3_lend_47 : decode cX3_lend 47 = .ok (.iload_n 1, 1) := by decide +kernel
theorem dX3_lend_48 : decode cX3_lend 48 = .ok (.aaload, 1) := by decide +kernel
theorem dX3_lend_49 : decode cX3_lend 49 = .ok (.iload_n 2, 1) := by decide +kernel
theorem dX3_lend_50 : decode cX3_lend 50 = .ok (.iload_n 3, 1) := by decide +kernel
theorem dX3_lend_51 : decode cX3_lend 51 = .ok (.iastore, 1) := by decide +kernel
theorem dX3_lend_52 : decode cX3_lend 52 = .ok (.iload 4, 2) := by decide +kernel
theorem dX3_lend_54 : decode cX3_lend 54 = .ok (.ireturn, 1) := by decide +kernel
theorem dX3_count_0 : decode cX3_count 0 = .ok (.iload_n 1, 1) := by decide +kernel
theorem dX3_count_1 : decode cX3_count 1 = .ok (.iconst 1, 1) := by decide +kernel
theorem dX3_count_2 : decode cX3_count 2 = .ok (.if_icmp .lt 8, 3) := by decide +kernel
theorem dX3_count_5 : decode cX3_count 5 = .ok (.iload_n 1, 1) := by decide +kernel
theorem dX3_count_6 : decode cX3_count 6 = .ok (.iconst 3, 1) := by decide +kernel
theorem dX3_count_7 : decode cX3_count 7 = .ok (.if_icmp .le 6, 3) := by decide +kernel
theorem dX3_count_10 : decode cX3_count 10 = .ok (.bipush (-2), 2) := by decide +kernel
theorem dX3_count_12 : decode cX3_count 12 = .ok (.ireturn, 1) := by decide +kernel
theorem dX3_count_13 : decode cX3_count 13 = .ok (.aload_n 0, 1) := by decide +kernel
theorem dX3_count_14 : decode cX3_count 14 = .ok (.getfield 12, 3) := by decide +kernel
theorem dX3_count_17 : decode cX3_count 17 = .ok (.invokevirtual 80, 3) := by decide +kernel
theorem dX3_count_20 : decode cX3_count 20 = .ok (.ifCond .ne 6, 3) := by decide +kernel
theorem dX3_count_23 : decode cX3_count 23 = .ok (.bipush (-3), 2) := by decide +kernel
theorem dX3_count_25 : decode cX3_count 25 = .ok (.ireturn, 1) := by decide +kernel
theorem dX3_count_26 : decode cX3_count 26 = .ok (.aload_n 0, 1) := by decide +kernel
theorem dX3_count_27 : decode cX3_count 27 = .ok (.getfield 12, 3) := by decide +kernel
theorem dX3_count_30 : decode cX3_count 30 = .ok (.getfield 84, 3) := by decide +kernel
theorem dX3_count_33 : decode cX3_count 33 = .ok (.istore_n 2, 1) := by decide +kernel
theorem dX3_count_34 : decode cX3_count 34 = .ok (.aload_n 0, 1) := by decide +kernel
theorem dX3_count_35 : decode cX3_count 35 = .ok (.getfield 12, 3) := by decide +kernel
theorem dX3_count_38 : decode cX3_count 38 = .ok (.iload_n 1, 1) := by decide +kernel
theorem dX3_count_39 : decode cX3_count 39 = .ok (.putfield 84, 3) := by decide +kernel
theorem dX3_count_42 : decode cX3_count 42 = .ok (.iload_n 2, 1) := by decide +kernel
theorem dX3_count_43 : decode cX3_count 43 = .ok (.ireturn, 1) := by decide +kernel
theorem dX3_build_0 : decode cX3_build 0 = .ok (.iload_n 1, 1) := by decide +kernel
theorem dX3_build_1 : decode cX3_build 1 = .ok (.iconst 1, 1) := by decide +kernel
theorem dX3_build_2 : decode cX3_build 2 = .ok (.if_icmp .lt 8, 3) := by decide +kernel
theorem dX3_build_5 : decode cX3_build 5 = .ok (.iload_n 1, 1) := by decide +kernel
theorem dX3_build_6 : decode cX3_build 6 = .ok (.iconst 3, 1) := by decide +kernel
theorem dX3_build_7 : decode cX3_build 7 = .ok (.if_icmp .le 6, 3) := by decide +kernel
theorem dX3_build_10 : decode cX3_build 10 = .ok (.bipush (-2), 2) := by decide +kernel
theorem dX3_build_12 : decode cX3_build 12 = .ok (.ireturn, 1) := by decide +kernel
theorem dX3_build_13 : decode cX3_build 13 = .ok (.aload_n 0, 1) := by decide +kernel
theorem dX3_build_14 : decode cX3_build 14 = .ok (.getfield 12, 3) := by decide +kernel
theorem dX3_build_17 : decode cX3_build 17 = .ok (.invokevirtual 80, 3) := by decide +kernel
theorem dX3_build_20 : decode cX3_build 20 = .ok (.ifCond .ne 6, 3) := by decide +kernel
theorem dX3_build_23 : decode cX3_build 23 = .ok (.bipush (-3), 2) := by decide +kernel
theorem dX3_build_25 : decode cX3_build 25 = .ok (.ireturn, 1) := by decide +kernel
theorem dX3_build_26 : decode cX3_build 26 = .ok (.aload_n 0, 1) := by decide +kernel
theorem dX3_build_27 : decode cX3_build 27 = .ok (.getfield 12, 3) := by decide +kernel
theorem dX3_build_30 : decode cX3_build 30 = .ok (.getfield 87, 3) := by decide +kernel
theorem dX3_build_33 : decode cX3_build 33 = .ok (.istore_n 2, 1) := by decide +kernel
theorem dX3_build_34 : decode cX3_build 34 = .ok (.aload_n 0, 1) := by decide +kernel
theorem dX3_build_35 : decode cX3_build 35 = .ok (.getfield 12, 3) := by decide +kernel
theorem dX3_build_38 : decode cX3_build 38 = .ok (.iload_n 1, 1) := by decide +kernel
theorem dX3_build_39 : decode cX3_build 39 = .ok (.putfield 87, 3) := by decide +kernel
theorem dX3_build_42 : decode cX3_build 42 = .ok (.iload_n 2, 1) := by decide +kernel
theorem dX3_build_43 : decode cX3_build 43 = .ok (.ireturn, 1) := by decide +kernel
theorem dX3_debt_0 : decode cX3_debt 0 = .ok (.aload_n 0, 1) := by decide +kernel
theorem dX3_debt_1 : decode cX3_debt 1 = .ok (.iload_n 1, 1) := by decide +kernel
theorem dX3_debt_2 : decode cX3_debt 2 = .ok (.iload_n 2, 1) := by decide +kernel
theorem dX3_debt_3 : decode cX3_debt 3 = .ok (.iconst 1, 1) := by decide +kernel
theorem dX3_debt_4 : decode cX3_debt 4 = .ok (.invokevirtual 90, 3) := by decide +kernel
theorem dX3_debt_7 : decode cX3_debt 7 = .ok (.istore_n 3, 1) := by decide +kernel
theorem dX3_debt_8 : decode cX3_debt 8 = .ok (.iload_n 3, 1) := by decide +kernel
theorem dX3_debt_9 : decode cX3_debt 9 = .ok (.ifCond .eq 5, 3) := by decide +kernel
theorem dX3_debt_12 : decode cX3_debt 12 = .ok (.iload_n 3, 1) := by decide +kernel
theorem dX3_debt_13 : decode cX3_debt 13 = .ok (.ireturn, 1) := by decide +kernel
theorem dX3_debt_14 : decode cX3_debt 14 = .ok (.aload_n 0, 1) := by decide +kernel
theorem dX3_debt_15 : decode cX3_debt 15 = .ok (.getfield 12, 3) := by decide +kernel
theorem dX3_debt_18 : decode cX3_debt 18 = .ok (.iload_n 1, 1) := by decide +kernel
theorem dX3_debt_19 : decode cX3_debt 19 = .ok (.iload_n 2, 1) := by decide +kernel
theorem dX3_debt_20 : decode cX3_debt 20 = .ok (.iconst 0, 1) := by decide +kernel
theorem dX3_debt_21 : decode cX3_debt 21 = .ok (.invokevirtual 94, 3) := by decide +kernel
theorem dX3_debt_24 : decode cX3_debt 24 = .ok (.ireturn, 1) := by decide +kernel
theorem dX3_pullers_0 : decode cX3_pullers 0 = .ok (.aload_n 0, 1) := by decide +kernel
theorem dX3_pullers_1 : decode cX3_pullers 1 = .ok (.iload_n 1, 1) := by decide +kernel
theorem dX3_pullers_2 : decode cX3_pullers 2 = .ok (.invokevirtual 98, 3) := by decide +kernel
theorem dX3_pullers_5 : decode cX3_pullers 5 = .ok (.istore_n 2, 1) := by decide +kernel
theorem dX3_pullers_6 : decode cX3_pullers 6 = .ok (.iload_n 2, 1) := by decide +kernel
theorem dX3_pullers_7 : decode cX3_pullers 7 = .ok (.ifCond .eq 5, 3) := by decide +kernel
theorem dX3_pullers_10 : decode cX3_pullers 10 = .ok (.iload_n 2, 1) := by decide +kernel
theorem dX3_pullers_11 : decode cX3_pullers 11 = .ok (.ireturn, 1) := by decide +kernel
theorem dX3_pullers_12 : decode cX3_pullers 12 = .ok (.aload_n 0, 1) := by decide +kernel
theorem dX3_pullers_13 : decode cX3_pullers 13 = .ok (.getfield 12, 3) := by decide +kernel
theorem dX3_pullers_16 : decode cX3_pullers 16 = .ok (.iload_n 1, 1) := by decide +kernel
theorem dX3_pullers_17 : decode cX3_pullers 17 = .ok (.invokevirtual 101, 3) := by decide +kernel
theorem dX3_pullers_20 : decode cX3_pullers 20 = .ok (.ireturn, 1) := by decide +kernel
theorem dX3_fair_0 : decode cX3_fair 0 = .ok (.aload_n 0, 1) := by decide +kernel
theorem dX3_fair_1 : decode cX3_fair 1 = .ok (.iload_n 1, 1) := by decide +kernel
theorem dX3_fair_2 : decode cX3_fair 2 = .ok (.invokevirtual 98, 3) := by decide +kernel
theorem dX3_fair_5 : decode cX3_fair 5 = .ok (.istore_n 2, 1) := by decide +kernel
theorem dX3_fair_6 : decode cX3_fair 6 = .ok (.iload_n 2, 1) := by decide +kernel
theorem dX3_fair_7 : decode cX3_fair 7 = .ok (.ifCond .eq 5, 3) := by decide +kernel
theorem dX3_fair_10 : decode cX3_fair 10 = .ok (.iload_n 2, 1) := by decide +kernel
theorem dX3_fair_11 : decode cX3_fair 11 = .ok (.ireturn, 1) := by decide +kernel
theorem dX3_fair_12 : decode cX3_fair 12 = .ok (.aload_n 0, 1) := by decide +kernel
theorem dX3_fair_13 : decode cX3_fair 13 = .ok (.getfield 12, 3) := by decide +kernel
theorem dX3_fair_16 : decode cX3_fair 16 = .ok (.iload_n 1, 1) := by decide +kernel
theorem dX3_fair_17 : decode cX3_fair 17 = .ok (.invokevirtual 104, 3) := by decide +kernel
theorem dX3_fair_20 : decode cX3_fair 20 = .ok (.ifCond .eq 7, 3) := by decide +kernel
theorem dX3_fair_23 : decode cX3_fair 23 = .ok (.iconst 1, 1) := by decide +kernel
theorem dX3_fair_24 : decode cX3_fair 24 = .ok (.goto 4, 3) := by decide +kernel
theorem dX3_fair_27 : decode cX3_fair 27 = .ok (.iconst 0, 1) := by decide +kernel
theorem dX3_fair_28 : decode cX3_fair 28 = .ok (.ireturn, 1) := by decide +kernel
theorem dX3_loads_0 : decode cX3_loads 0 = .ok (.aload_n 0, 1) := by decide +kernel
theorem dX3_loads_1 : decode cX3_loads 1 = .ok (.iconst 0, 1) := by decide +kernel
theorem dX3_loads_2 : decode cX3_loads 2 = .ok (.putfield 25, 3) := by decide +kernel
theorem dX3_loads_5 : decode cX3_loads 5 = .ok (.iload_n 1, 1) := by decide +kernel
theorem dX3_loads_6 : decode cX3_loads 6 = .ok (.invokestatic 29, 3) := by decide +kernel
theorem dX3_loads_9 : decode cX3_loads 9 = .ok (.ifCond .ne 5, 3) := by decide +kernel
theorem dX3_loads_12 : decode cX3_loads 12 = .ok (.iconst (-1), 1) := by decide +kernel
theorem dX3_loads_13 : decode cX3_loads 13 = .ok (.ireturn, 1) := by decide +kernel
theorem dX3_loads_14 : decode cX3_loads 14 = .ok (.iload_n 2, 1) := by decide +kernel
theorem dX3_loads_15 : decode cX3_loads 15 = .ok (.invokestatic 33, 3) := by decide +kernel
theorem dX3_loads_18 : decode cX3_loads 18 = .ok (.ifCond .eq 23, 3) := by decide +kernel
theorem dX3_loads_21 : decode cX3_loads 21 = .ok (.iload 4, 2) := by decide +kernel
theorem dX3_loads_23 : decode cX3_loads 23 = .ok (.ifCond .lt 18, 3) := by decide +kernel
theorem dX3_loads_26 : decode cX3_loads 26 = .ok (.iload 4, 2) := by decide +kernel
theorem dX3_loads_28 : decode cX3_loads 28 = .ok (.bipush 20, 2) := by decide +kernel
theorem dX3_loads_30 : decode cX3_loads 30 = .ok (.if_icmp .gt 11, 3) := by decide +kernel
theorem dX3_loads_33 : decode cX3_loads 33 = .ok (.iload 5, 2) := by decide +kernel
theorem dX3_loads_35 : decode cX3_loads 35 = .ok (.invokestatic 107, 3) := by decide +kernel
theorem dX3_loads_38 : decode cX3_loads 38 = .ok (.ifCond .ne 6, 3) := by decide +kernel
theorem dX3_loads_41 : decode cX3_loads 41 = .ok (.bipush (-2), 2) := by decide +kernel
theorem dX3_loads_43 : decode cX3_loads 43 = .ok (.ireturn, 1) := by decide +kernel
theorem dX3_loads_44 : decode cX3_loads 44 = .ok (.aload_n 0, 1) := by decide +kernel
theorem dX3_loads_45 : decode cX3_loads 45 = .ok (.getfield 20, 3) := by decide +kernel
theorem dX3_loads_48 : decode cX3_loads 48 = .ok (.iload_n 1, 1) := by decide +kernel
theorem dX3_loads_49 : decode cX3_loads 49 = .ok (.aaload, 1) := by decide +kernel
theorem dX3_loads_50 : decode cX3_loads 50 = .ok (.astore 6, 2) := by decide +kernel
theorem dX3_loads_52 : decode cX3_loads 52 = .ok (.aload 6, 2) := by decide +kernel
theorem dX3_loads_54 : decode cX3_loads 54 = .ok (.iload_n 2, 1) := by decide +kernel
theorem dX3_loads_55 : decode cX3_loads 55 = .ok (.invokevirtual 36, 3) := by decide +kernel
theorem dX3_loads_58 : decode cX3_loads 58 = .ok (.istore 7, 2) := by decide +kernel
theorem dX3_loads_60 : decode cX3_loads 60 = .ok (.iload 7, 2) := by decide +kernel
theorem dX3_loads_62 : decode cX3_loads 62 = .ok (.ifCond .ne 17, 3) := by decide +kernel
theorem dX3_loads_65 : decode cX3_loads 65 = .ok (.aload 6, 2) := by decide +kernel
theorem dX3_loads_67 : decode cX3_loads 67 = .ok (.iload_n 3, 1) := by decide +kernel
theorem dX3_loads_68 : decode cX3_loads 68 = .ok (.iload 4, 2) := by decide +kernel
theorem dX3_loads_70 : decode cX3_loads 70 = .ok (.invokevirtual 40, 3) := by decide +kernel
theorem dX3_loads_73 : decode cX3_loads 73 = .ok (.ifCond .ne 6, 3) := by decide +kernel
theorem dX3_loads_76 : decode cX3_loads 76 = .ok (.iconst 3, 1) := by decide +kernel
theorem dX3_loads_77 : decode cX3_loads 77 = .ok (.istore 7, 2) := by decide +kernel
theorem dX3_loads_79 : decode cX3_loads 79 = .ok (.iload 7, 2) := by decide +kernel
theorem dX3_loads_81 : decode cX3_loads 81 = .ok (.ifCond .eq 10, 3) := by decide +kernel
theorem dX3_loads_84 : decode cX3_loads 84 = .ok (.aload_n 0, 1) := by decide +kernel
theorem dX3_loads_85 : decode cX3_loads 85 = .ok (.iload 7, 2) := by decide +kernel
theorem dX3_loads_87 : decode cX3_loads 87 = .ok (.invokevirtual 44, 3) := by decide +kernel
theorem dX3_loads_90 : decode cX3_loads 90 = .ok (.ireturn, 1) := by decide +kernel
theorem dX3_loads_91 : decode cX3_loads 91 = .ok (.aload_n 0, 1) := by decide +kernel
theorem dX3_loads_92 : decode cX3_loads 92 = .ok (.getfield 12, 3) := by decide +kernel
theorem dX3_loads_95 : decode cX3_loads 95 = .ok (.invokevirtual 80, 3) := by decide +kernel
theorem dX3_loads_98 : decode cX3_loads 98 = .ok (.ifCond .ne 6, 3) := by decide +kernel
theorem dX3_loads_101 : decode cX3_loads 101 = .ok (.bipush (-3), 2) := by decide +kernel
theorem dX3_loads_103 : decode cX3_loads 103 = .ok (.ireturn, 1) := by decide +kernel
theorem dX3_loads_104 : decode cX3_loads 104 = .ok (.aload_n 0, 1) := by decide +kernel
theorem dX3_loads_105 : decode cX3_loads 105 = .ok (.getfield 12, 3) := by decide +kernel
theorem dX3_loads_108 : decode cX3_loads 108 = .ok (.aload 6, 2) := by decide +kernel
theorem dX3_loads_110 : decode cX3_loads 110 = .ok (.iload_n 3, 1) := by decide +kernel
theorem dX3_loads_111 : decode cX3_loads 111 = .ok (.iload 4, 2) := by decide +kernel
theorem dX3_loads_113 : decode cX3_loads 113 = .ok (.invokevirtual 110, 3) := by decide +kernel
theorem dX3_loads_116 : decode cX3_loads 116 = .ok (.ifCond .ne 6, 3) := by decide +kernel
theorem dX3_loads_119 : decode cX3_loads 119 = .ok (.bipush (-2), 2) := by decide +kernel
theorem dX3_loads_121 : decode cX3_loads 121 = .ok (.ireturn, 1) := by decide +kernel
theorem dX3_loads_122 : decode cX3_loads 122 = .ok (.aload_n 0, 1) := by decide +kernel
theorem dX3_loads_123 : decode cX3_loads 123 = .ok (.getfield 12, 3) := by decide +kernel
theorem dX3_loads_126 : decode cX3_loads 126 = .ok (.aload 6, 2) := by decide +kernel
theorem dX3_loads_128 : decode cX3_loads 128 = .ok (.iload_n 3, 1) := by decide +kernel
theorem dX3_loads_129 : decode cX3_loads 129 = .ok (.iload 4, 2) := by decide +kernel
theorem dX3_loads_131 : decode cX3_loads 131 = .ok (.invokevirtual 114, 3) := by decide +kernel
theorem dX3_loads_134 : decode cX3_loads 134 = .ok (.istore 8, 2) := by decide +kernel
theorem dX3_loads_136 : decode cX3_loads 136 = .ok (.iload 5, 2) := by decide +kernel
theorem dX3_loads_138 : decode cX3_loads 138 = .ok (.iconst 1, 1) := by decide +kernel
theorem dX3_loads_139 : decode cX3_loads 139 = .ok (.if_icmp .ne 6, 3) := by decide +kernel
theorem dX3_loads_142 : decode cX3_loads 142 = .ok (.iload 8, 2) := by decide +kernel
theorem dX3_loads_144 : decode cX3_loads 144 = .ok (.ireturn, 1) := by decide +kernel
theorem dX3_loads_145 : decode cX3_loads 145 = .ok (.iload 8, 2) := by decide +kernel
theorem dX3_loads_147 : decode cX3_loads 147 = .ok (.bipush (-9), 2) := by decide +kernel
theorem dX3_loads_149 : decode cX3_loads 149 = .ok (.if_icmp .eq 9, 3) := by decide +kernel
theorem dX3_loads_152 : decode cX3_loads 152 = .ok (.bipush (-100), 2) := by decide +kernel
theorem dX3_loads_154 : decode cX3_loads 154 = .ok (.iload 8, 2) := by decide +kernel
theorem dX3_loads_156 : decode cX3_loads 156 = .ok (.isub, 1) := by decide +kernel
theorem dX3_loads_157 : decode cX3_loads 157 = .ok (.ireturn, 1) := by decide +kernel
theorem dX3_loads_158 : decode cX3_loads 158 = .ok (.aload_n 0, 1) := by decide +kernel
theorem dX3_loads_159 : decode cX3_loads 159 = .ok (.aload 6, 2) := by decide +kernel
theorem dX3_loads_161 : decode cX3_loads 161 = .ok (.iload_n 3, 1) := by decide +kernel
theorem dX3_loads_162 : decode cX3_loads 162 = .ok (.iload 4, 2) := by decide +kernel
theorem dX3_loads_164 : decode cX3_loads 164 = .ok (.iload 5, 2) := by decide +kernel
theorem dX3_loads_166 : decode cX3_loads 166 = .ok (.invokevirtual 117, 3) := by decide +kernel
theorem dX3_loads_169 : decode cX3_loads 169 = .ok (.ireturn, 1) := by decide +kernel
theorem dX3_cross_0 : decode cX3_cross 0 = .ok (.aload_n 0, 1) := by decide +kernel
theorem dX3_cross_1 : decode cX3_cross 1 = .ok (.getfield 12, 3) := by decide +kernel
theorem dX3_cross_4 : decode cX3_cross 4 = .ok (.invokevirtual 80, 3) := by decide +kernel
theorem dX3_cross_7 : decode cX3_cross 7 = .ok (.ifCond .ne 6, 3) := by decide +kernel
theorem dX3_cross_10 : decode cX3_cross 10 = .ok (.bipush (-3), 2) := by decide +kernel
theorem dX3_cross_12 : decode cX3_cross 12 = .ok (.ireturn, 1) := by decide +kernel
theorem dX3_cross_13 : decode cX3_cross 13 = .ok (.iload_n 1, 1) := by decide +kernel
theorem dX3_cross_14 : decode cX3_cross 14 = .ok (.iconst (-1), 1) := by decide +kernel
theorem dX3_cross_15 : decode cX3_cross 15 = .ok (.if_icmp .lt 8, 3) := by decide +kernel
theorem dX3_cross_18 : decode cX3_cross 18 = .ok (.iload_n 1, 1) := by decide +kernel
theorem dX3_cross_19 : decode cX3_cross 19 = .ok (.iconst 5, 1) := by decide +kernel
theorem dX3_cross_20 : decode cX3_cross 20 = .ok (.if_icmp .lt 6, 3) := by decide +kernel
theorem dX3_cross_23 : decode cX3_cross 23 = .ok (.bipush (-2), 2) := by decide +kernel
theorem dX3_cross_25 : decode cX3_cross 25 = .ok (.ireturn, 1) := by decide +kernel
theorem dX3_cross_26 : decode cX3_cross 26 = .ok (.aload_n 0, 1) := by decide +kernel
theorem dX3_cross_27 : decode cX3_cross 27 = .ok (.getfield 12, 3) := by decide +kernel
theorem dX3_cross_30 : decode cX3_cross 30 = .ok (.invokevirtual 121, 3) := by decide +kernel
theorem dX3_cross_33 : decode cX3_cross 33 = .ok (.aload_n 0, 1) := by decide +kernel
theorem dX3_cross_34 : decode cX3_cross 34 = .ok (.getfield 12, 3) := by decide +kernel
theorem dX3_cross_37 : decode cX3_cross 37 = .ok (.getfield 124, 3) := by decide +kernel
theorem dX3_cross_40 : decode cX3_cross 40 = .ok (.aload_n 0, 1) := by decide +kernel
theorem dX3_cross_41 : decode cX3_cross 41 = .ok (.getfield 12, 3) := by decide +kernel
theorem dX3_cross_44 : decode cX3_cross 44 = .ok (.invokevirtual 127, 3) := by decide +kernel
theorem dX3_cross_47 : decode cX3_cross 47 = .ok (.iaload, 1) := by decide +kernel
theorem dX3_cross_48 : decode cX3_cross 48 = .ok (.istore_n 2, 1) := by decide +kernel
theorem dX3_cross_49 : decode cX3_cross 49 = .ok (.iload_n 2, 1) := by decide +kernel
theorem dX3_cross_50 : decode cX3_cross 50 = .ok (.bipush (-9), 2) := by decide +kernel
theorem dX3_cross_52 : decode cX3_cross 52 = .ok (.if_icmp .ne 6, 3) := by decide +kernel
theorem dX3_cross_55 : decode cX3_cross 55 = .ok (.bipush (-9), 2) := by decide +kernel
theorem dX3_cross_57 : decode cX3_cross 57 = .ok (.ireturn, 1) := by decide +kernel
theorem dX3_cross_58 : decode cX3_cross 58 = .ok (.iload_n 1, 1) := by decide +kernel
theorem dX3_cross_59 : decode cX3_cross 59 = .ok (.iconst (-1), 1) := by decide +kernel
theorem dX3_cross_60 : decode cX3_cross 60 = .ok (.if_icmp .ne 5, 3) := by decide +kernel
theorem dX3_cross_63 : decode cX3_cross 63 = .ok (.iload_n 2, 1) := by decide +kernel
theorem dX3_cross_64 : decode cX3_cross 64 = .ok (.ireturn, 1) := by decide +kernel
theorem dX3_cross_65 : decode cX3_cross 65 = .ok (.iload_n 1, 1) := by decide +kernel
theorem dX3_cross_66 : decode cX3_cross 66 = .ok (.iload_n 2, 1) := by decide +kernel
theorem dX3_cross_67 : decode cX3_cross 67 = .ok (.if_icmp .ge 14, 3) := by decide +kernel
theorem dX3_cross_70 : decode cX3_cross 70 = .ok (.aload_n 0, 1) := by decide +kernel
theorem dX3_cross_71 : decode cX3_cross 71 = .ok (.getfield 12, 3) := by decide +kernel
theorem dX3_cross_74 : decode cX3_cross 74 = .ok (.iload_n 1, 1) := by decide +kernel
theorem dX3_cross_75 : decode cX3_cross 75 = .ok (.invokevirtual 131, 3) := by decide +kernel
theorem dX3_cross_78 : decode cX3_cross 78 = .ok (.goto 5, 3) := by decide +kernel
theorem dX3_cross_81 : decode cX3_cross 81 = .ok (.bipush (-9), 2) := by decide +kernel
theorem dX3_cross_83 : decode cX3_cross 83 = .ok (.ireturn, 1) := by decide +kernel
theorem dX3_loan_0 : decode cX3_loan 0 = .ok (.aload_n 0, 1) := by decide +kernel
theorem dX3_loan_1 : decode cX3_loan 1 = .ok (.iload_n 1, 1) := by decide +kernel
theorem dX3_loan_2 : decode cX3_loan 2 = .ok (.iload_n 2, 1) := by decide +kernel
theorem dX3_loan_3 : decode cX3_loan 3 = .ok (.iload_n 3, 1) := by decide +kernel
theorem dX3_loan_4 : decode cX3_loan 4 = .ok (.ifCond .eq 8, 3) := by decide +kernel
theorem dX3_loan_7 : decode cX3_loan 7 = .ok (.iload_n 3, 1) := by decide +kernel
theorem dX3_loan_8 : decode cX3_loan 8 = .ok (.iconst 1, 1) := by decide +kernel
theorem dX3_loan_9 : decode cX3_loan 9 = .ok (.if_icmp .ne 7, 3) := by decide +kernel
theorem dX3_loan_12 : decode cX3_loan 12 = .ok (.iconst 1, 1) := by decide +kernel
theorem dX3_loan_13 : decode cX3_loan 13 = .ok (.goto 4, 3) := by decide +kernel
theorem dX3_loan_16 : decode cX3_loan 16 = .ok (.iconst 0, 1) := by decide +kernel
theorem dX3_loan_17 : decode cX3_loan 17 = .ok (.invokevirtual 90, 3) := by decide +kernel
theorem dX3_loan_20 : decode cX3_loan 20 = .ok (.istore 4, 2) := by decide +kernel
theorem dX3_loan_22 : decode cX3_loan 22 = .ok (.iload 4, 2) := by decide +kernel
theorem dX3_loan_24 : decode cX3_loan 24 = .ok (.ifCond .eq 6, 3) := by decide +kernel
theorem dX3_loan_27 : decode cX3_loan 27 = .ok (.iload 4, 2) := by decide +kernel
theorem dX3_loan_29 : decode cX3_loan 29 = .ok (.ireturn, 1) := by decide +kernel
theorem dX3_loan_30 : decode cX3_loan 30 = .ok (.aload_n 0, 1) := by decide +kernel
theorem dX3_loan_31 : decode cX3_loan 31 = .ok (.getfield 12, 3) := by decide +kernel
theorem dX3_loan_34 : decode cX3_loan 34 = .ok (.iload_n 2, 1) := by decide +kernel
theorem dX3_loan_35 : decode cX3_loan 35 = .ok (.invokevirtual 101, 3) := by decide +kernel
theorem dX3_loan_38 : decode cX3_loan 38 = .ok (.iconst 1, 1) := by decide +kernel
theorem dX3_loan_39 : decode cX3_loan 39 = .ok (.iload_n 1, 1) := by decide +kernel
theorem dX3_loan_40 : decode cX3_loan 40 = .ok (.ishl, 1) := by decide +kernel
theorem dX3_loan_41 : decode cX3_loan 41 = .ok (.if_icmp .ne 14, 3) := by decide +kernel
theorem dX3_loan_44 : decode cX3_loan 44 = .ok (.iload_n 3, 1) := by decide +kernel
theorem dX3_loan_45 : decode cX3_loan 45 = .ok (.ifCond .ne 7, 3) := by decide +kernel
theorem dX3_loan_48 : decode cX3_loan 48 = .ok (.iconst 0, 1) := by decide +kernel
theorem dX3_loan_49 : decode cX3_loan 49 = .ok (.goto 5, 3) := by decide +kernel
theorem dX3_loan_52 : decode cX3_loan 52 = .ok (.bipush (-9), 2) := by decide +kernel
theorem dX3_loan_54 : decode cX3_loan 54 = .ok (.ireturn, 1) := by decide +kernel
theorem dX3_loan_55 : decode cX3_loan 55 = .ok (.iconst 1, 1) := by decide +kernel
theorem dX3_loan_56 : decode cX3_loan 56 = .ok (.istore 5, 2) := by decide +kernel
theorem dX3_loan_58 : decode cX3_loan 58 = .ok (.iload 5, 2) := by decide +kernel
theorem dX3_loan_60 : decode cX3_loan 60 = .ok (.bipush 9, 2) := by decide +kernel
theorem dX3_loan_62 : decode cX3_loan 62 = .ok (.if_icmp .gt 41, 3) := by decide +kernel
theorem dX3_loan_65 : decode cX3_loan 65 = .ok (.aload_n 0, 1) := by decide +kernel
theorem dX3_loan_66 : decode cX3_loan 66 = .ok (.getfield 12, 3) := by decide +kernel
theorem dX3_loan_69 : decode cX3_loan 69 = .ok (.iload_n 1, 1) := by decide +kernel
theorem dX3_loan_70 : decode cX3_loan 70 = .ok (.iload_n 2, 1) := by decide +kernel
theorem dX3_loan_71 : decode cX3_loan 71 = .ok (.iload 5, 2) := by decide +kernel
theorem dX3_loan_73 : decode cX3_loan 73 = .ok (.invokevirtual 134, 3) := by decide +kernel
theorem dX3_loan_76 : decode cX3_loan 76 = .ok (.istore 6, 2) := by decide +kernel
theorem dX3_loan_78 : decode cX3_loan 78 = .ok (.iload 6, 2) := by decide +kernel
theorem dX3_loan_80 : decode cX3_loan 80 = .ok (.bipush (-9), 2) := by decide +kernel
theorem dX3_loan_82 : decode cX3_loan 82 = .ok (.if_icmp .eq 15, 3) := by decide +kernel
theorem dX3_loan_85 : decode cX3_loan 85 = .ok (.iload_n 3, 1) := by decide +kernel
theorem dX3_loan_86 : decode cX3_loan 86 = .ok (.ifCond .ne 8, 3) := by decide +kernel
theorem dX3_loan_89 : decode cX3_loan 89 = .ok (.iload 5, 2) := by decide +kernel
theorem dX3_loan_91 : decode cX3_loan 91 = .ok (.goto 5, 3) := by decide +kernel
theorem dX3_loan_94 : decode cX3_loan 94 = .ok (.iload 6, 2) := by decide +kernel
theorem dX3_loan_96 : decode cX3_loan 96 = .ok (.ireturn, 1) := by decide +kernel
theorem dX3_loan_97 : decode cX3_loan 97 = .ok (.iinc 5 1, 3) := by decide +kernel
theorem dX3_loan_100 : decode cX3_loan 100 = .ok (.goto (-42), 3) := by decide +kernel
theorem dX3_loan_103 : decode cX3_loan 103 = .ok (.bipush (-9), 2) := by decide +kernel
theorem dX3_loan_105 : decode cX3_loan 105 = .ok (.ireturn, 1) := by decide +kernel
theorem dX3_forgave_0 : decode cX3_forgave 0 = .ok (.aload_n 0, 1) := by decide +kernel
theorem dX3_forgave_1 : decode cX3_forgave 1 = .ok (.iload_n 1, 1) := by decide +kernel
theorem dX3_forgave_2 : decode cX3_forgave 2 = .ok (.invokevirtual 98, 3) := by decide +kernel
theorem dX3_forgave_5 : decode cX3_forgave 5 = .ok (.istore_n 2, 1) := by decide +kernel
theorem dX3_forgave_6 : decode cX3_forgave 6 = .ok (.iload_n 2, 1) := by decide +kernel
theorem dX3_forgave_7 : decode cX3_forgave 7 = .ok (.ifCond .eq 5, 3) := by decide +kernel
theorem dX3_forgave_10 : decode cX3_forgave 10 = .ok (.iload_n 2, 1) := by decide +kernel
theorem dX3_forgave_11 : decode cX3_forgave 11 = .ok (.ireturn, 1) := by decide +kernel
theorem dX3_forgave_12 : decode cX3_forgave 12 = .ok (.bipush (-9), 2) := by decide +kernel
theorem dX3_forgave_14 : decode cX3_forgave 14 = .ok (.istore_n 3, 1) := by decide +kernel
theorem dX3_forgave_15 : decode cX3_forgave 15 = .ok (.iconst 0, 1) := by decide +kernel
theorem dX3_forgave_16 : decode cX3_forgave 16 = .ok (.istore 4, 2) := by decide +kernel
theorem dX3_forgave_18 : decode cX3_forgave 18 = .ok (.iload 4, 2) := by decide +kernel
theorem dX3_forgave_20 : decode cX3_forgave 20 = .ok (.iload_n 1, 1) := by decide +kernel
theorem dX3_forgave_21 : decode cX3_forgave 21 = .ok (.if_icmp .gt 65, 3) := by decide +kernel
theorem dX3_forgave_24 : decode cX3_forgave 24 = .ok (.iload_n 3, 1) := by decide +kernel
theorem dX3_forgave_25 : decode cX3_forgave 25 = .ok (.bipush (-9), 2) := by decide +kernel
theorem dX3_forgave_27 : decode cX3_forgave 27 = .ok (.if_icmp .eq 15, 3) := by decide +kernel
theorem dX3_forgave_30 : decode cX3_forgave 30 = .ok (.iload 4, 2) := by decide +kernel
theorem dX3_forgave_32 : decode cX3_forgave 32 = .ok (.invokestatic 137, 3) := by decide +kernel
theorem dX3_forgave_35 : decode cX3_forgave 35 = .ok (.iload_n 3, 1) := by decide +kernel
theorem dX3_forgave_36 : decode cX3_forgave 36 = .ok (.invokestatic 137, 3) := by decide +kernel
theorem dX3_forgave_39 : decode cX3_forgave 39 = .ok (.if_icmp .ge 7, 3) := by decide +kernel
theorem dX3_forgave_42 : decode cX3_forgave 42 = .ok (.iconst 1, 1) := by decide +kernel
theorem dX3_forgave_43 : decode cX3_forgave 43 = .ok (.goto 4, 3) := by decide +kernel
theorem dX3_forgave_46 : decode cX3_forgave 46 = .ok (.iconst 0, 1) := by decide +kernel
theorem dX3_forgave_47 : decode cX3_forgave 47 = .ok (.istore 5, 2) := by decide +kernel
theorem dX3_forgave_49 : decode cX3_forgave 49 = .ok (.iload 4, 2) := by decide +kernel
theorem dX3_forgave_51 : decode cX3_forgave 51 = .ok (.iload_n 1, 1) := by decide +kernel
theorem dX3_forgave_52 : decode cX3_forgave 52 = .ok (.iconst (-1), 1) := by decide +kernel
theorem dX3_forgave_53 : decode cX3_forgave 53 = .ok (.ixor, 1) := by decide +kernel
theorem dX3_forgave_54 : decode cX3_forgave 54 = .ok (.iand, 1) := by decide +kernel
theorem dX3_forgave_55 : decode cX3_forgave 55 = .ok (.ifCond .ne 25, 3) := by decide +kernel
theorem dX3_forgave_58 : decode cX3_forgave 58 = .ok (.iload 5, 2) := by decide +kernel
theorem dX3_forgave_60 : decode cX3_forgave 60 = .ok (.ifCond .eq 20, 3) := by decide +kernel
theorem dX3_forgave_63 : decode cX3_forgave 63 = .ok (.aload_n 0, 1) := by decide +kernel
theorem dX3_forgave_64 : decode cX3_forgave 64 = .ok (.getfield 12, 3) := by decide +kernel
theorem dX3_forgave_67 : decode cX3_forgave 67 = .ok (.iload_n 1, 1) := by decide +kernel
theorem dX3_forgave_68 : decode cX3_forgave 68 = .ok (.iload 4, 2) := by decide +kernel
theorem dX3_forgave_70 : decode cX3_forgave 70 = .ok (.iconst 0, 1) := by decide +kernel
theorem dX3_forgave_71 : decode cX3_forgave 71 = .ok (.invokevirtual 142, 3) := by decide +kernel
theorem dX3_forgave_74 : decode cX3_forgave 74 = .ok (.ifCond .ne 6, 3) := by decide +kernel
theorem dX3_forgave_77 : decode cX3_forgave 77 = .ok (.iload 4, 2) := by decide +kernel
theorem dX3_forgave_79 : decode cX3_forgave 79 = .ok (.istore_n 3, 1) := by decide +kernel
theorem dX3_forgave_80 : decode cX3_forgave 80 = .ok (.iinc 4 1, 3) := by decide +kernel
theorem dX3_forgave_83 : decode cX3_forgave 83 = .ok (.goto (-65), 3) := by decide +kernel
theorem dX3_forgave_86 : decode cX3_forgave 86 = .ok (.iload_n 3, 1) := by decide +kernel
theorem dX3_forgave_87 : decode cX3_forgave 87 = .ok (.ireturn, 1) := by decide +kernel
theorem dX3_reading_0 : decode cX3_reading 0 = .ok (.aload_n 0, 1) := by decide +kernel
theorem dX3_reading_1 : decode cX3_reading 1 = .ok (.iload_n 1, 1) := by decide +kernel
theorem dX3_reading_2 : decode cX3_reading 2 = .ok (.invokevirtual 98, 3) := by decide +kernel
theorem dX3_reading_5 : decode cX3_reading 5 = .ok (.istore_n 3, 1) := by decide +kernel
theorem dX3_reading_6 : decode cX3_reading 6 = .ok (.iload_n 3, 1) := by decide +kernel
theorem dX3_reading_7 : decode cX3_reading 7 = .ok (.ifCond .eq 5, 3) := by decide +kernel
theorem dX3_reading_10 : decode cX3_reading 10 = .ok (.iload_n 3, 1) := by decide +kernel
theorem dX3_reading_11 : decode cX3_reading 11 = .ok (.ireturn, 1) := by decide +kernel
theorem dX3_reading_12 : decode cX3_reading 12 = .ok (.iload_n 2, 1) := by decide +kernel
theorem dX3_reading_13 : decode cX3_reading 13 = .ok (.iload_n 1, 1) := by decide +kernel
theorem dX3_reading_14 : decode cX3_reading 14 = .ok (.iconst (-1), 1) := by decide +kernel
theorem dX3_reading_15 : decode cX3_reading 15 = .ok (.ixor, 1) := by decide +kernel
theorem dX3_reading_16 : decode cX3_reading 16 = .ok (.iand, 1) := by decide +kernel
theorem dX3_reading_17 : decode cX3_reading 17 = .ok (.ifCond .eq 6, 3) := by decide +kernel
theorem dX3_reading_20 : decode cX3_reading 20 = .ok (.bipush (-2), 2) := by decide +kernel
theorem dX3_reading_22 : decode cX3_reading 22 = .ok (.ireturn, 1) := by decide +kernel
theorem dX3_reading_23 : decode cX3_reading 23 = .ok (.aload_n 0, 1) := by decide +kernel
theorem dX3_reading_24 : decode cX3_reading 24 = .ok (.getfield 12, 3) := by decide +kernel
theorem dX3_reading_27 : decode cX3_reading 27 = .ok (.getfield 145, 3) := by decide +kernel
theorem dX3_reading_30 : decode cX3_reading 30 = .ok (.istore 4, 2) := by decide +kernel
theorem dX3_reading_32 : decode cX3_reading 32 = .ok (.iload 4, 2) := by decide +kernel
theorem dX3_reading_34 : decode cX3_reading 34 = .ok (.bipush 8, 2) := by decide +kernel
theorem dX3_reading_36 : decode cX3_reading 36 = .ok (.if_icmp .lt 6, 3) := by decide +kernel
theorem dX3_reading_39 : decode cX3_reading 39 = .ok (.bipush (-4), 2) := by decide +kernel
theorem dX3_reading_41 : decode cX3_reading 41 = .ok (.ireturn, 1) := by decide +kernel
theorem dX3_reading_42 : decode cX3_reading 42 = .ok (.aload_n 0, 1) := by decide +kernel
theorem dX3_reading_43 : decode cX3_reading 43 = .ok (.getfield 12, 3) := by decide +kernel
theorem dX3_reading_46 : decode cX3_reading 46 = .ok (.getfield 148, 3) := by decide +kernel
theorem dX3_reading_49 : decode cX3_reading 49 = .ok (.iload 4, 2) := by decide +kernel
theorem dX3_reading_51 : decode cX3_reading 51 = .ok (.iload_n 1, 1) := by decide +kernel
theorem dX3_reading_52 : decode cX3_reading 52 = .ok (.iastore, 1) := by decide +kernel
theorem dX3_reading_53 : decode cX3_reading 53 = .ok (.aload_n 0, 1) := by decide +kernel
theorem dX3_reading_54 : decode cX3_reading 54 = .ok (.getfield 12, 3) := by decide +kernel
theorem dX3_reading_57 : decode cX3_reading 57 = .ok (.getfield 151, 3) := by decide +kernel
theorem dX3_reading_60 : decode cX3_reading 60 = .ok (.iload 4, 2) := by decide +kernel
theorem dX3_reading_62 : decode cX3_reading 62 = .ok (.iload_n 2, 1) := by decide +kernel
theorem dX3_reading_63 : decode cX3_reading 63 = .ok (.iastore, 1) := by decide +kernel
theorem dX3_reading_64 : decode cX3_reading 64 = .ok (.aload_n 0, 1) := by decide +kernel
theorem dX3_reading_65 : decode cX3_reading 65 = .ok (.getfield 12, 3) := by decide +kernel
theorem dX3_reading_68 : decode cX3_reading 68 = .ok (.iload 4, 2) := by decide +kernel
theorem dX3_reading_70 : decode cX3_reading 70 = .ok (.iconst 1, 1) := by decide +kernel
theorem dX3_reading_71 : decode cX3_reading 71 = .ok (.iadd, 1) := by decide +kernel
theorem dX3_reading_72 : decode cX3_reading 72 = .ok (.putfield 145, 3) := by decide +kernel
theorem dX3_reading_75 : decode cX3_reading 75 = .ok (.iload 4, 2) := by decide +kernel
theorem dX3_reading_77 : decode cX3_reading 77 = .ok (.ireturn, 1) := by decide +kernel
theorem dX3_back_0 : decode cX3_back 0 = .ok (.iload_n 1, 1) := by decide +kernel
theorem dX3_back_1 : decode cX3_back 1 = .ok (.ifCond .lt 14, 3) := by decide +kernel
theorem dX3_back_4 : decode cX3_back 4 = .ok (.iload_n 1, 1) := by decide +kernel
theorem dX3_back_5 : decode cX3_back 5 = .ok (.aload_n 0, 1) := by decide +kernel
theorem dX3_back_6 : decode cX3_back 6 = .ok (.getfield 12, 3) := by decide +kernel
theorem dX3_back_9 : decode cX3_back 9 = .ok (.getfield 145, 3) := by decide +kernel
theorem dX3_back_12 : decode cX3_back 12 = .ok (.if_icmp .le 6, 3) := by decide +kernel
theorem dX3_back_15 : decode cX3_back 15 = .ok (.bipush (-2), 2) := by decide +kernel
theorem dX3_back_17 : decode cX3_back 17 = .ok (.ireturn, 1) := by decide +kernel
theorem dX3_back_18 : decode cX3_back 18 = .ok (.aload_n 0, 1) := by decide +kernel
theorem dX3_back_19 : decode cX3_back 19 = .ok (.getfield 12, 3) := by decide +kernel
theorem dX3_back_22 : decode cX3_back 22 = .ok (.dup, 1) := by decide +kernel
theorem dX3_back_23 : decode cX3_back 23 = .ok (.getfield 145, 3) := by decide +kernel
theorem dX3_back_26 : decode cX3_back 26 = .ok (.iload_n 1, 1) := by decide +kernel
theorem dX3_back_27 : decode cX3_back 27 = .ok (.isub, 1) := by decide +kernel
theorem dX3_back_28 : decode cX3_back 28 = .ok (.putfield 145, 3) := by decide +kernel
theorem dX3_back_31 : decode cX3_back 31 = .ok (.aload_n 0, 1) := by decide +kernel
theorem dX3_back_32 : decode cX3_back 32 = .ok (.getfield 12, 3) := by decide +kernel
theorem dX3_back_35 : decode cX3_back 35 = .ok (.getfield 145, 3) := by decide +kernel
theorem dX3_back_38 : decode cX3_back 38 = .ok (.ireturn, 1) := by decide +kernel
theorem dX3_notes_0 : decode cX3_notes 0 = .ok (.aload_n 0, 1) := by decide +kernel
theorem dX3_notes_1 : decode cX3_notes 1 = .ok (.getfield 12, 3) := by decide +kernel
theorem dX3_notes_4 : decode cX3_notes 4 = .ok (.iload_n 1, 1) := by decide +kernel
theorem dX3_notes_5 : decode cX3_notes 5 = .ok (.iload_n 2, 1) := by decide +kernel
theorem dX3_notes_6 : decode cX3_notes 6 = .ok (.invokevirtual 77, 3) := by decide +kernel
theorem dX3_notes_9 : decode cX3_notes 9 = .ok (.ifCond .ne 5, 3) := by decide +kernel
theorem dX3_notes_12 : decode cX3_notes 12 = .ok (.iconst (-1), 1) := by decide +kernel
theorem dX3_notes_13 : decode cX3_notes 13 = .ok (.ireturn, 1) := by decide +kernel
theorem dX3_notes_14 : decode cX3_notes 14 = .ok (.aload_n 0, 1) := by decide +kernel
theorem dX3_notes_15 : decode cX3_notes 15 = .ok (.getfield 12, 3) := by decide +kernel
theorem dX3_notes_18 : decode cX3_notes 18 = .ok (.iload_n 1, 1) := by decide +kernel
theorem dX3_notes_19 : decode cX3_notes 19 = .ok (.iload_n 2, 1) := by decide +kernel
theorem dX3_notes_20 : decode cX3_notes 20 = .ok (.invokevirtual 154, 3) := by decide +kernel
theorem dX3_notes_23 : decode cX3_notes 23 = .ok (.ireturn, 1) := by decide +kernel
theorem dX3_kinds_0 : decode cX3_kinds 0 = .ok (.aload_n 0, 1) := by decide +kernel
theorem dX3_kinds_1 : decode cX3_kinds 1 = .ok (.getfield 12, 3) := by decide +kernel
theorem dX3_kinds_4 : decode cX3_kinds 4 = .ok (.iload_n 1, 1) := by decide +kernel
theorem dX3_kinds_5 : decode cX3_kinds 5 = .ok (.invokevirtual 60, 3) := by decide +kernel
theorem dX3_kinds_8 : decode cX3_kinds 8 = .ok (.ifCond .ne 5, 3) := by decide +kernel
theorem dX3_kinds_11 : decode cX3_kinds 11 = .ok (.iconst (-1), 1) := by decide +kernel
theorem dX3_kinds_12 : decode cX3_kinds 12 = .ok (.ireturn, 1) := by decide +kernel
theorem dX3_kinds_13 : decode cX3_kinds 13 = .ok (.aload_n 0, 1) := by decide +kernel
theorem dX3_kinds_14 : decode cX3_kinds 14 = .ok (.getfield 12, 3) := by decide +kernel
theorem dX3_kinds_17 : decode cX3_kinds 17 = .ok (.iload_n 1, 1) := by decide +kernel
theorem dX3_kinds_18 : decode cX3_kinds 18 = .ok (.invokevirtual 158, 3) := by decide +kernel
theorem dX3_kinds_21 : decode cX3_kinds 21 = .ok (.ireturn, 1) := by decide +kernel
theorem dX3_often_0 : decode cX3_often 0 = .ok (.aload_n 0, 1) := by decide +kernel
theorem dX3_often_1 : decode cX3_often 1 = .ok (.getfield 12, 3) := by decide +kernel
theorem dX3_often_4 : decode cX3_often 4 = .ok (.invokevirtual 80, 3) := by decide +kernel
theorem dX3_often_7 : decode cX3_often 7 = .ok (.ifCond .ne 6, 3) := by decide +kernel
theorem dX3_often_10 : decode cX3_often 10 = .ok (.bipush (-3), 2) := by decide +kernel
theorem dX3_often_12 : decode cX3_often 12 = .ok (.ireturn, 1) := by decide +kernel
theorem dX3_often_13 : decode cX3_often 13 = .ok (.aload_n 0, 1) := by decide +kernel
theorem dX3_often_14 : decode cX3_often 14 = .ok (.getfield 12, 3) := by decide +kernel
theorem dX3_often_17 : decode cX3_often 17 = .ok (.invokevirtual 161, 3) := by decide +kernel
theorem dX3_often_20 : decode cX3_often 20 = .ok (.ireturn, 1) := by decide +kernel
theorem dX3_odds_0 : decode cX3_odds 0 = .ok (.aload_n 0, 1) := by decide +kernel
theorem dX3_odds_1 : decode cX3_odds 1 = .ok (.iload_n 1, 1) := by decide +kernel
theorem dX3_odds_2 : decode cX3_odds 2 = .ok (.iload_n 2, 1) := by decide +kernel
theorem dX3_odds_3 : decode cX3_odds 3 = .ok (.iload_n 3, 1) := by decide +kernel
theorem dX3_odds_4 : decode cX3_odds 4 = .ok (.ifCond .eq 8, 3) := by decide +kernel
theorem dX3_odds_7 : decode cX3_odds 7 = .ok (.iload_n 3, 1) := by decide +kernel
theorem dX3_odds_8 : decode cX3_odds 8 = .ok (.iconst 1, 1) := by decide +kernel
theorem dX3_odds_9 : decode cX3_odds 9 = .ok (.if_icmp .ne 7, 3) := by decide +kernel
theorem dX3_odds_12 : decode cX3_odds 12 = .ok (.iconst 1, 1) := by decide +kernel
theorem dX3_odds_13 : decode cX3_odds 13 = .ok (.goto 4, 3) := by decide +kernel
theorem dX3_odds_16 : decode cX3_odds 16 = .ok (.iconst 0, 1) := by decide +kernel
theorem dX3_odds_17 : decode cX3_odds 17 = .ok (.invokevirtual 90, 3) := by decide +kernel
theorem dX3_odds_20 : decode cX3_odds 20 = .ok (.ifCond .eq 7, 3) := by decide +kernel
theorem dX3_odds_23 : decode cX3_odds 23 = .ok (.ldc2_w 164, 3) := by decide +kernel
theorem dX3_odds_26 : decode cX3_odds 26 = .ok (.lreturn, 1) := by decide +kernel
theorem dX3_odds_27 : decode cX3_odds 27 = .ok (.aload_n 0, 1) := by decide +kernel
theorem dX3_odds_28 : decode cX3_odds 28 = .ok (.getfield 12, 3) := by decide +kernel
theorem dX3_odds_31 : decode cX3_odds 31 = .ok (.iload_n 1, 1) := by decide +kernel
theorem dX3_odds_32 : decode cX3_odds 32 = .ok (.iload_n 2, 1) := by decide +kernel
theorem dX3_odds_33 : decode cX3_odds 33 = .ok (.invokevirtual 166, 3) := by decide +kernel
theorem dX3_odds_36 : decode cX3_odds 36 = .ok (.istore 4, 2) := by decide +kernel
theorem dX3_odds_38 : decode cX3_odds 38 = .ok (.iconst 1, 1) := by decide +kernel
theorem dX3_odds_39 : decode cX3_odds 39 = .ok (.aload_n 0, 1) := by decide +kernel
theorem dX3_odds_40 : decode cX3_odds 40 = .ok (.getfield 12, 3) := by decide +kernel
theorem dX3_odds_43 : decode cX3_odds 43 = .ok (.getfield 57, 3) := by decide +kernel
theorem dX3_odds_46 : decode cX3_odds 46 = .ok (.ishl, 1) := by decide +kernel
theorem dX3_odds_47 : decode cX3_odds 47 = .ok (.istore 5, 2) := by decide +kernel
theorem dX3_odds_49 : decode cX3_odds 49 = .ok (.iconst 0, 1) := by decide +kernel
theorem dX3_odds_50 : decode cX3_odds 50 = .ok (.istore 6, 2) := by decide +kernel
theorem dX3_odds_52 : decode cX3_odds 52 = .ok (.iload 6, 2) := by decide +kernel
theorem dX3_odds_54 : decode cX3_odds 54 = .ok (.aload_n 0, 1) := by decide +kernel
theorem dX3_odds_55 : decode cX3_odds 55 = .ok (.getfield 12, 3) := by decide +kernel
theorem dX3_odds_58 : decode cX3_odds 58 = .ok (.getfield 57, 3) := by decide +kernel
theorem dX3_odds_61 : decode cX3_odds 61 = .ok (.if_icmp .ge 28, 3) := by decide +kernel
theorem dX3_odds_64 : decode cX3_odds 64 = .ok (.iload 4, 2) := by decide +kernel
theorem dX3_odds_66 : decode cX3_odds 66 = .ok (.iconst 2, 1) := by decide +kernel
theorem dX3_odds_67 : decode cX3_odds 67 = .ok (.irem, 1) := by decide +kernel
theorem dX3_odds_68 : decode cX3_odds 68 = .ok (.ifCond .ne 15, 3) := by decide +kernel
theorem dX3_odds_71 : decode cX3_odds 71 = .ok (.iload 4, 2) := by decide +kernel
theorem dX3_odds_73 : decode cX3_odds 73 = .ok (.iconst 2, 1) := by decide +kernel
theorem dX3_odds_74 : decode cX3_odds 74 = .ok (.idiv, 1) := by decide +kernel
theorem dX3_odds_75 : decode cX3_odds 75 = .ok (.istore 4, 2) := by decide +kernel
theorem dX3_odds_77 : decode cX3_odds 77 = .ok (.iload 5, 2) := by decide +kernel
theorem dX3_odds_79 : decode cX3_odds 79 = .ok (.iconst 2, 1) := by decide +kernel
theorem dX3_odds_80 : decode cX3_odds 80 = .ok (.idiv, 1) := by decide +kernel
theorem dX3_odds_81 : decode cX3_odds 81 = .ok (.istore 5, 2) := by decide +kernel
theorem dX3_odds_83 : decode cX3_odds 83 = .ok (.iinc 6 1, 3) := by decide +kernel
theorem dX3_odds_86 : decode cX3_odds 86 = .ok (.goto (-34), 3) := by decide +kernel
theorem dX3_odds_89 : decode cX3_odds 89 = .ok (.iload_n 3, 1) := by decide +kernel
theorem dX3_odds_90 : decode cX3_odds 90 = .ok (.ifCond .ne 9, 3) := by decide +kernel
theorem dX3_odds_93 : decode cX3_odds 93 = .ok (.iload 4, 2) := by decide +kernel
theorem dX3_odds_95 : decode cX3_odds 95 = .ok (.i2l, 1) := by decide +kernel
theorem dX3_odds_96 : decode cX3_odds 96 = .ok (.goto 6, 3) := by decide +kernel
theorem dX3_odds_99 : decode cX3_odds 99 = .ok (.iload 5, 2) := by decide +kernel
theorem dX3_odds_101 : decode cX3_odds 101 = .ok (.i2l, 1) := by decide +kernel
theorem dX3_odds_102 : decode cX3_odds 102 = .ok (.lreturn, 1) := by decide +kernel
theorem dX3_sheet_0 : decode cX3_sheet 0 = .ok (.aload_n 0, 1) := by decide +kernel
theorem dX3_sheet_1 : decode cX3_sheet 1 = .ok (.iconst 0, 1) := by decide +kernel
theorem dX3_sheet_2 : decode cX3_sheet 2 = .ok (.putfield 25, 3) := by decide +kernel
theorem dX3_sheet_5 : decode cX3_sheet 5 = .ok (.iload_n 1, 1) := by decide +kernel
theorem dX3_sheet_6 : decode cX3_sheet 6 = .ok (.invokestatic 29, 3) := by decide +kernel
theorem dX3_sheet_9 : decode cX3_sheet 9 = .ok (.ifCond .ne 5, 3) := by decide +kernel
theorem dX3_sheet_12 : decode cX3_sheet 12 = .ok (.iconst (-1), 1) := by decide +kernel
theorem dX3_sheet_13 : decode cX3_sheet 13 = .ok (.ireturn, 1) := by decide +kernel
theorem dX3_sheet_14 : decode cX3_sheet 14 = .ok (.iload_n 2, 1) := by decide +kernel
theorem dX3_sheet_15 : decode cX3_sheet 15 = .ok (.invokestatic 33, 3) := by decide +kernel
theorem dX3_sheet_18 : decode cX3_sheet 18 = .ok (.ifCond .eq 9, 3) := by decide +kernel
theorem dX3_sheet_21 : decode cX3_sheet 21 = .ok (.iload_n 3, 1) := by decide +kernel
theorem dX3_sheet_22 : decode cX3_sheet 22 = .ok (.bipush 60, 2) := by decide +kernel
theorem dX3_sheet_24 : decode cX3_sheet 24 = .ok (.if_icmp .le 6, 3) := by decide +kernel
theorem dX3_sheet_27 : decode cX3_sheet 27 = .ok (.bipush (-2), 2) := by decide +kernel
theorem dX3_sheet_29 : decode cX3_sheet 29 = .ok (.ireturn, 1) := by decide +kernel
theorem dX3_sheet_30 : decode cX3_sheet 30 = .ok (.iload_n 3, 1) := by decide +kernel
theorem dX3_sheet_31 : decode cX3_sheet 31 = .ok (.ifCond .ge 9, 3) := by decide +kernel
theorem dX3_sheet_34 : decode cX3_sheet 34 = .ok (.aload_n 0, 1) := by decide +kernel
theorem dX3_sheet_35 : decode cX3_sheet 35 = .ok (.iconst 4, 1) := by decide +kernel
theorem dX3_sheet_36 : decode cX3_sheet 36 = .ok (.invokevirtual 44, 3) := by decide +kernel
theorem dX3_sheet_39 : decode cX3_sheet 39 = .ok (.ireturn, 1) := by decide +kernel
theorem dX3_sheet_40 : decode cX3_sheet 40 = .ok (.aload_n 0, 1) := by decide +kernel
theorem dX3_sheet_41 : decode cX3_sheet 41 = .ok (.getfield 20, 3) := by decide +kernel
theorem dX3_sheet_44 : decode cX3_sheet 44 = .ok (.iload_n 1, 1) := by decide +kernel
theorem dX3_sheet_45 : decode cX3_sheet 45 = .ok (.aaload, 1) := by decide +kernel
theorem dX3_sheet_46 : decode cX3_sheet 46 = .ok (.iload_n 2, 1) := by decide +kernel
theorem dX3_sheet_47 : decode cX3_sheet 47 = .ok (.iload_n 3, 1) := by decide +kernel
theorem dX3_sheet_48 : decode cX3_sheet 48 = .ok (.invokevirtual 169, 3) := by decide +kernel
theorem dX3_sheet_51 : decode cX3_sheet 51 = .ok (.iconst 1, 1) := by decide +kernel
theorem dX3_sheet_52 : decode cX3_sheet 52 = .ok (.ireturn, 1) := by decide +kernel
theorem dX3_lose_0 : decode cX3_lose 0 = .ok (.iload_n 1, 1) := by decide +kernel
theorem dX3_lose_1 : decode cX3_lose 1 = .ok (.invokestatic 29, 3) := by decide +kernel
theorem dX3_lose_4 : decode cX3_lose 4 = .ok (.ifCond .ne 5, 3) := by decide +kernel
theorem dX3_lose_7 : decode cX3_lose 7 = .ok (.iconst (-1), 1) := by decide +kernel
theorem dX3_lose_8 : decode cX3_lose 8 = .ok (.ireturn, 1) := by decide +kernel
theorem dX3_lose_9 : decode cX3_lose 9 = .ok (.aload_n 0, 1) := by decide +kernel
theorem dX3_lose_10 : decode cX3_lose 10 = .ok (.getfield 20, 3) := by decide +kernel
theorem dX3_lose_13 : decode cX3_lose 13 = .ok (.iload_n 1, 1) := by decide +kernel
theorem dX3_lose_14 : decode cX3_lose 14 = .ok (.aaload, 1) := by decide +kernel
theorem dX3_lose_15 : decode cX3_lose 15 = .ok (.getfield 173, 3) := by decide +kernel
theorem dX3_lose_18 : decode cX3_lose 18 = .ok (.ifCond .eq 7, 3) := by decide +kernel
theorem dX3_lose_21 : decode cX3_lose 21 = .ok (.iconst 1, 1) := by decide +kernel
theorem dX3_lose_22 : decode cX3_lose 22 = .ok (.goto 4, 3) := by decide +kernel
theorem dX3_lose_25 : decode cX3_lose 25 = .ok (.iconst 0, 1) := by decide +kernel
theorem dX3_lose_26 : decode cX3_lose 26 = .ok (.istore_n 2, 1) := by decide +kernel
theorem dX3_lose_27 : decode cX3_lose 27 = .ok (.aload_n 0, 1) := by decide +kernel
theorem dX3_lose_28 : decode cX3_lose 28 = .ok (.getfield 20, 3) := by decide +kernel
theorem dX3_lose_31 : decode cX3_lose 31 = .ok (.iload_n 1, 1) := by decide +kernel
theorem dX3_lose_32 : decode cX3_lose 32 = .ok (.aaload, 1) := by decide +kernel
theorem dX3_lose_33 : decode cX3_lose 33 = .ok (.iconst 0, 1) := by decide +kernel
theorem dX3_lose_34 : decode cX3_lose 34 = .ok (.putfield 173, 3) := by decide +kernel
theorem dX3_lose_37 : decode cX3_lose 37 = .ok (.iload_n 2, 1) := by decide +kernel
theorem dX3_lose_38 : decode cX3_lose 38 = .ok (.ireturn, 1) := by decide +kernel
theorem dX3_put_0 : decode cX3_put 0 = .ok (.aload_n 0, 1) := by decide +kernel
theorem dX3_put_1 : decode cX3_put 1 = .ok (.iconst 0, 1) := by decide +kernel
theorem dX3_put_2 : decode cX3_put 2 = .ok (.putfield 25, 3) := by decide +kernel
theorem dX3_put_5 : decode cX3_put 5 = .ok (.iload_n 1, 1) := by decide +kernel
theorem dX3_put_6 : decode cX3_put 6 = .ok (.invokestatic 29, 3) := by decide +kernel
theorem dX3_put_9 : decode cX3_put 9 = .ok (.ifCond .ne 5, 3) := by decide +kernel
theorem dX3_put_12 : decode cX3_put 12 = .ok (.iconst (-1), 1) := by decide +kernel
theorem dX3_put_13 : decode cX3_put 13 = .ok (.ireturn, 1) := by decide +kernel
theorem dX3_put_14 : decode cX3_put 14 = .ok (.aload_n 0, 1) := by decide +kernel
theorem dX3_put_15 : decode cX3_put 15 = .ok (.getfield 20, 3) := by decide +kernel
theorem dX3_put_18 : decode cX3_put 18 = .ok (.iload_n 1, 1) := by decide +kernel
theorem dX3_put_19 : decode cX3_put 19 = .ok (.aaload, 1) := by decide +kernel
theorem dX3_put_20 : decode cX3_put 20 = .ok (.astore 4, 2) := by decide +kernel
theorem dX3_put_22 : decode cX3_put 22 = .ok (.aload 4, 2) := by decide +kernel
theorem dX3_put_24 : decode cX3_put 24 = .ok (.getfield 173, 3) := by decide +kernel
theorem dX3_put_27 : decode cX3_put 27 = .ok (.ifCond .ne 9, 3) := by decide +kernel
theorem dX3_put_30 : decode cX3_put 30 = .ok (.aload_n 0, 1) := by decide +kernel
theorem dX3_put_31 : decode cX3_put 31 = .ok (.iconst 1, 1) := by decide +kernel
theorem dX3_put_32 : decode cX3_put 32 = .ok (.invokevirtual 44, 3) := by decide +kernel
theorem dX3_put_35 : decode cX3_put 35 = .ok (.ireturn, 1) := by decide +kernel
theorem dX3_put_36 : decode cX3_put 36 = .ok (.aload 4, 2) := by decide +kernel
theorem dX3_put_38 : decode cX3_put 38 = .ok (.iload_n 2, 1) := by decide +kernel
theorem dX3_put_39 : decode cX3_put 39 = .ok (.invokevirtual 177, 3) := by decide +kernel
theorem dX3_put_42 : decode cX3_put 42 = .ok (.ifCond .ne 9, 3) := by decide +kernel
theorem dX3_put_45 : decode cX3_put 45 = .ok (.aload_n 0, 1) := by decide +kernel
theorem dX3_put_46 : decode cX3_put 46 = .ok (.iconst 3, 1) := by decide +kernel
theorem dX3_put_47 : decode cX3_put 47 = .ok (.invokevirtual 44, 3) := by decide +kernel
theorem dX3_put_50 : decode cX3_put 50 = .ok (.ireturn, 1) := by decide +kernel
theorem dX3_put_51 : decode cX3_put 51 = .ok (.aload 4, 2) := by decide +kernel
theorem dX3_put_53 : decode cX3_put 53 = .ok (.iload_n 2, 1) := by decide +kernel
theorem dX3_put_54 : decode cX3_put 54 = .ok (.iload_n 3, 1) := by decide +kernel
theorem dX3_put_55 : decode cX3_put 55 = .ok (.invokevirtual 180, 3) := by decide +kernel
theorem dX3_put_58 : decode cX3_put 58 = .ok (.iconst 1, 1) := by decide +kernel
theorem dX3_put_59 : decode cX3_put 59 = .ok (.ireturn, 1) := by decide +kernel
theorem dX3_cell_0 : decode cX3_cell 0 = .ok (.aload_n 0, 1) := by decide +kernel
theorem dX3_cell_1 : decode cX3_cell 1 = .ok (.iconst 0, 1) := by decide +kernel
theorem dX3_cell_2 : decode cX3_cell 2 = .ok (.putfield 25, 3) := by decide +kernel
theorem dX3_cell_5 : decode cX3_cell 5 = .ok (.iload_n 1, 1) := by decide +kernel
theorem dX3_cell_6 : decode cX3_cell 6 = .ok (.invokestatic 29, 3) := by decide +kernel
theorem dX3_cell_9 : decode cX3_cell 9 = .ok (.ifCond .eq 10, 3) := by decide +kernel
theorem dX3_cell_12 : decode cX3_cell 12 = .ok (.iload_n 3, 1) := by decide +kernel
theorem dX3_cell_13 : decode cX3_cell 13 = .ok (.invokestatic 33, 3) := by decide +kernel
theorem dX3_cell_16 : decode cX3_cell 16 = .ok (.ifCond .ne 7, 3) := by decide +kernel
theorem dX3_cell_19 : decode cX3_cell 19 = .ok (.ldc2_w 164, 3) := by decide +kernel
theorem dX3_cell_22 : decode cX3_cell 22 = .ok (.lreturn, 1) := by decide +kernel
theorem dX3_cell_23 : decode cX3_cell 23 = .ok (.aload_n 0, 1) := by decide +kernel
theorem dX3_cell_24 : decode cX3_cell 24 = .ok (.getfield 20, 3) := by decide +kernel
theorem dX3_cell_27 : decode cX3_cell 27 = .ok (.iload_n 1, 1) := by decide +kernel
theorem dX3_cell_28 : decode cX3_cell 28 = .ok (.aaload, 1) := by decide +kernel
theorem dX3_cell_29 : decode cX3_cell 29 = .ok (.astore 4, 2) := by decide +kernel
theorem dX3_cell_31 : decode cX3_cell 31 = .ok (.aload 4, 2) := by decide +kernel
theorem dX3_cell_33 : decode cX3_cell 33 = .ok (.iload_n 3, 1) := by decide +kernel
theorem dX3_cell_34 : decode cX3_cell 34 = .ok (.invokevirtual 36, 3) := by decide +kernel
theorem dX3_cell_37 : decode cX3_cell 37 = .ok (.istore 5, 2) := by decide +kernel
theorem dX3_cell_39 : decode cX3_cell 39 = .ok (.iload 5, 2) := by decide +kernel
theorem dX3_cell_41 : decode cX3_cell 41 = .ok (.ifCond .ne 15, 3) := by decide +kernel
theorem dX3_cell_44 : decode cX3_cell 44 = .ok (.aload 4, 2) := by decide +kernel
theorem dX3_cell_46 : decode cX3_cell 46 = .ok (.iload_n 2, 1) := by decide +kernel
theorem dX3_cell_47 : decode cX3_cell 47 = .ok (.invokevirtual 177, 3) := by decide +kernel
theorem dX3_cell_50 : decode cX3_cell 50 = .ok (.ifCond .ne 6, 3) := by decide +kernel
theorem dX3_cell_53 : decode cX3_cell 53 = .ok (.iconst 3, 1) := by decide +kernel
theorem dX3_cell_54 : decode cX3_cell 54 = .ok (.istore 5, 2) := by decide +kernel
theorem dX3_cell_56 : decode cX3_cell 56 = .ok (.iload 5, 2) := by decide +kernel
theorem dX3_cell_58 : decode cX3_cell 58 = .ok (.ifCond .eq 13, 3) := by decide +kernel
theorem dX3_cell_61 : decode cX3_cell 61 = .ok (.aload_n 0, 1) := by decide +kernel
theorem dX3_cell_62 : decode cX3_cell 62 = .ok (.iload 5, 2) := by decide +kernel
theorem dX3_cell_64 : decode cX3_cell 64 = .ok (.putfield 25, 3) := by decide +kernel
theorem dX3_cell_67 : decode cX3_cell 67 = .ok (.ldc2_w 164, 3) := by decide +kernel
theorem dX3_cell_70 : decode cX3_cell 70 = .ok (.lreturn, 1) := by decide +kernel
theorem dX3_cell_71 : decode cX3_cell 71 = .ok (.aload 4, 2) := by decide +kernel
theorem dX3_cell_73 : decode cX3_cell 73 = .ok (.getfield 183, 3) := by decide +kernel
theorem dX3_cell_76 : decode cX3_cell 76 = .ok (.iload_n 2, 1) := by decide +kernel
theorem dX3_cell_77 : decode cX3_cell 77 = .ok (.iaload, 1) := by decide +kernel
theorem dX3_cell_78 : decode cX3_cell 78 = .ok (.i2l, 1) := by decide +kernel
theorem dX3_cell_79 : decode cX3_cell 79 = .ok (.lreturn, 1) := by decide +kernel
theorem dX3_copy_0 : decode cX3_copy 0 = .ok (.aload_n 0, 1) := by decide +kernel
theorem dX3_copy_1 : decode cX3_copy 1 = .ok (.iconst 0, 1) := by decide +kernel
theorem dX3_copy_2 : decode cX3_copy 2 = .ok (.putfield 25, 3) := by decide +kernel
theorem dX3_copy_5 : decode cX3_copy 5 = .ok (.iload_n 1, 1) := by decide +kernel
theorem dX3_copy_6 : decode cX3_copy 6 = .ok (.invokestatic 29, 3) := by decide +kernel
theorem dX3_copy_9 : decode cX3_copy 9 = .ok (.ifCond .eq 10, 3) := by decide +kernel
theorem dX3_copy_12 : decode cX3_copy 12 = .ok (.iload_n 3, 1) := by decide +kernel
theorem dX3_copy_13 : decode cX3_copy 13 = .ok (.invokestatic 29, 3) := by decide +kernel
theorem dX3_copy_16 : decode cX3_copy 16 = .ok (.ifCond .ne 5, 3) := by decide +kernel
theorem dX3_copy_19 : decode cX3_copy 19 = .ok (.iconst (-1), 1) := by decide +kernel
theorem dX3_copy_20 : decode cX3_copy 20 = .ok (.ireturn, 1) := by decide +kernel
theorem dX3_copy_21 : decode cX3_copy 21 = .ok (.aload_n 0, 1) := by decide +kernel
theorem dX3_copy_22 : decode cX3_copy 22 = .ok (.getfield 20, 3) := by decide +kernel
theorem dX3_copy_25 : decode cX3_copy 25 = .ok (.iload_n 1, 1) := by decide +kernel
theorem dX3_copy_26 : decode cX3_copy 26 = .ok (.aaload, 1) := by decide +kernel
theorem dX3_copy_27 : decode cX3_copy 27 = .ok (.astore 6, 2) := by decide +kernel
theorem dX3_copy_29 : decode cX3_copy 29 = .ok (.aload_n 0, 1) := by decide +kernel
theorem dX3_copy_30 : decode cX3_copy 30 = .ok (.getfield 20, 3) := by decide +kernel
theorem dX3_copy_33 : decode cX3_copy 33 = .ok (.iload_n 3, 1) := by decide +kernel
theorem dX3_copy_34 : decode cX3_copy 34 = .ok (.aaload, 1) := by decide +kernel
theorem dX3_copy_35 : decode cX3_copy 35 = .ok (.astore 7, 2) := by decide +kernel
theorem dX3_copy_37 : decode cX3_copy 37 = .ok (.aload 6, 2) := by decide +kernel
theorem dX3_copy_39 : decode cX3_copy 39 = .ok (.getfield 173, 3) := by decide +kernel
theorem dX3_copy_42 : decode cX3_copy 42 = .ok (.ifCond .eq 11, 3) := by decide +kernel
theorem dX3_copy_45 : decode cX3_copy 45 = .ok (.aload 7, 2) := by decide +kernel
theorem dX3_copy_47 : decode cX3_copy 47 = .ok (.getfield 173, 3) := by decide +kernel
theorem dX3_copy_50 : decode cX3_copy 50 = .ok (.ifCond .ne 9, 3) := by decide +kernel
theorem dX3_copy_53 : decode cX3_copy 53 = .ok (.aload_n 0, 1) := by decide +kernel
theorem dX3_copy_54 : decode cX3_copy 54 = .ok (.iconst 1, 1) := by decide +kernel
theorem dX3_copy_55 : decode cX3_copy 55 = .ok (.invokevirtual 44, 3) := by decide +kernel
theorem dX3_copy_58 : decode cX3_copy 58 = .ok (.ireturn, 1) := by decide +kernel
theorem dX3_copy_59 : decode cX3_copy 59 = .ok (.aload 6, 2) := by decide +kernel
theorem dX3_copy_61 : decode cX3_copy 61 = .ok (.getfield 186, 3) := by decide +kernel
theorem dX3_copy_64 : decode cX3_copy 64 = .ok (.aload 7, 2) := by decide +kernel
theorem dX3_copy_66 : decode cX3_copy 66 = .ok (.getfield 186, 3) := by decide +kernel
theorem dX3_copy_69 : decode cX3_copy 69 = .ok (.if_icmp .eq 9, 3) := by decide +kernel
theorem dX3_copy_72 : decode cX3_copy 72 = .ok (.aload_n 0, 1) := by decide +kernel
theorem dX3_copy_73 : decode cX3_copy 73 = .ok (.iconst 2, 1) := by decide +kernel
theorem dX3_copy_74 : decode cX3_copy 74 = .ok (.invokevirtual 44, 3) := by decide +kernel
theorem dX3_copy_77 : decode cX3_copy 77 = .ok (.ireturn, 1) := by decide +kernel
theorem dX3_copy_78 : decode cX3_copy 78 = .ok (.aload 6, 2) := by decide +kernel
theorem dX3_copy_80 : decode cX3_copy 80 = .ok (.iload_n 2, 1) := by decide +kernel
theorem dX3_copy_81 : decode cX3_copy 81 = .ok (.iload 5, 2) := by decide +kernel
theorem dX3_copy_83 : decode cX3_copy 83 = .ok (.invokevirtual 40, 3) := by decide +kernel
theorem dX3_copy_86 : decode cX3_copy 86 = .ok (.ifCond .eq 15, 3) := by decide +kernel
theorem dX3_copy_89 : decode cX3_copy 89 = .ok (.aload 7, 2) := by decide +kernel
theorem dX3_copy_91 : decode cX3_copy 91 = .ok (.iload 4, 2) := by decide +kernel
theorem dX3_copy_93 : decode cX3_copy 93 = .ok (.iload 5, 2) := by decide +kernel
theorem dX3_copy_95 : decode cX3_copy 95 = .ok (.invokevirtual 40, 3) := by decide +kernel
theorem dX3_copy_98 : decode cX3_copy 98 = .ok (.ifCond .ne 9, 3) := by decide +kernel
theorem dX3_copy_101 : decode cX3_copy 101 = .ok (.aload_n 0, 1) := by decide +kernel
theorem dX3_copy_102 : decode cX3_copy 102 = .ok (.iconst 3, 1) := by decide +kernel
theorem dX3_copy_103 : decode cX3_copy 103 = .ok (.invokevirtual 44, 3) := by decide +kernel
theorem dX3_copy_106 : decode cX3_copy 106 = .ok (.ireturn, 1) := by decide +kernel
theorem dX3_copy_107 : decode cX3_copy 107 = .ok (.aload 6, 2) := by decide +kernel
theorem dX3_copy_109 : decode cX3_copy 109 = .ok (.getfield 183, 3) := by decide +kernel
theorem dX3_copy_112 : decode cX3_copy 112 = .ok (.iload_n 2, 1) := by decide +kernel
theorem dX3_copy_113 : decode cX3_copy 113 = .ok (.aload 7, 2) := by decide +kernel
theorem dX3_copy_115 : decode cX3_copy 115 = .ok (.getfield 183, 3) := by decide +kernel
theorem dX3_copy_118 : decode cX3_copy 118 = .ok (.iload 4, 2) := by decide +kernel
theorem dX3_copy_120 : decode cX3_copy 120 = .ok (.iload 5, 2) := by decide +kernel
theorem dX3_copy_122 : decode cX3_copy 122 = .ok (.invokestatic 189, 3) := by decide +kernel
theorem dX3_copy_125 : decode cX3_copy 125 = .ok (.iload 5, 2) := by decide +kernel
theorem dX3_copy_127 : decode cX3_copy 127 = .ok (.ireturn, 1) := by decide +kernel
theorem dX3_tell_0 : decode cX3_tell 0 = .ok (.aload_n 0, 1) := by decide +kernel
theorem dX3_tell_1 : decode cX3_tell 1 = .ok (.getfield 12, 3) := by decide +kernel
theorem dX3_tell_4 : decode cX3_tell 4 = .ok (.iload_n 1, 1) := by decide +kernel
theorem dX3_tell_5 : decode cX3_tell 5 = .ok (.invokevirtual 60, 3) := by decide +kernel
theorem dX3_tell_8 : decode cX3_tell 8 = .ok (.ifCond .ne 5, 3) := by decide +kernel
theorem dX3_tell_11 : decode cX3_tell 11 = .ok (.iconst (-1), 1) := by decide +kernel
theorem dX3_tell_12 : decode cX3_tell 12 = .ok (.ireturn, 1) := by decide +kernel
theorem dX3_tell_13 : decode cX3_tell 13 = .ok (.aload_n 0, 1) := by decide +kernel
theorem dX3_tell_14 : decode cX3_tell 14 = .ok (.getfield 12, 3) := by decide +kernel
theorem dX3_tell_17 : decode cX3_tell 17 = .ok (.getfield 63, 3) := by decide +kernel
theorem dX3_tell_20 : decode cX3_tell 20 = .ok (.iload_n 1, 1) := by decide +kernel
theorem dX3_tell_21 : decode cX3_tell 21 = .ok (.iaload, 1) := by decide +kernel
theorem dX3_tell_22 : decode cX3_tell 22 = .ok (.lookupswitch 38 #[(1, 32), (2, 26)], 26) := by decide +kernel
theorem dX3_tell_48 : decode cX3_tell 48 = .ok (.aload_n 0, 1) := by decide +kernel
theorem dX3_tell_49 : decode cX3_tell 49 = .ok (.iload_n 1, 1) := by decide +kernel
theorem dX3_tell_50 : decode cX3_tell 50 = .ok (.invokevirtual 195, 3) := by decide +kernel
theorem dX3_tell_53 : decode cX3_tell 53 = .ok (.ireturn, 1) := by decide +kernel
theorem dX3_tell_54 : decode cX3_tell 54 = .ok (.aload_n 0, 1) := by decide +kernel
theorem dX3_tell_55 : decode cX3_tell 55 = .ok (.iload_n 1, 1) := by decide +kernel
theorem dX3_tell_56 : decode cX3_tell 56 = .ok (.invokevirtual 198, 3) := by decide +kernel
theorem dX3_tell_59 : decode cX3_tell 59 = .ok (.ireturn, 1) := by decide +kernel
theorem dX3_tell_60 : decode cX3_tell 60 = .ok (.aload_n 0, 1) := by decide +kernel
theorem dX3_tell_61 : decode cX3_tell 61 = .ok (.iload_n 1, 1) := by decide +kernel
theorem dX3_tell_62 : decode cX3_tell 62 = .ok (.invokevirtual 201, 3) := by decide +kernel
theorem dX3_tell_65 : decode cX3_tell 65 = .ok (.ireturn, 1) := by decide +kernel
theorem dX3_hail_0 : decode cX3_hail 0 = .ok (.aload_n 0, 1) := by decide +kernel
theorem dX3_hail_1 : decode cX3_hail 1 = .ok (.getfield 12, 3) := by decide +kernel
theorem dX3_hail_4 : decode cX3_hail 4 = .ok (.iload_n 1, 1) := by decide +kernel
theorem dX3_hail_5 : decode cX3_hail 5 = .ok (.invokevirtual 60, 3) := by decide +kernel
theorem dX3_hail_8 : decode cX3_hail 8 = .ok (.ifCond .ne 5, 3) := by decide +kernel
theorem dX3_hail_11 : decode cX3_hail 11 = .ok (.iconst (-1), 1) := by decide +kernel
theorem dX3_hail_12 : decode cX3_hail 12 = .ok (.ireturn, 1) := by decide +kernel
theorem dX3_hail_13 : decode cX3_hail 13 = .ok (.aload_n 0, 1) := by decide +kernel
theorem dX3_hail_14 : decode cX3_hail 14 = .ok (.getfield 12, 3) := by decide +kernel
theorem dX3_hail_17 : decode cX3_hail 17 = .ok (.getfield 63, 3) := by decide +kernel
theorem dX3_hail_20 : decode cX3_hail 20 = .ok (.iload_n 1, 1) := by decide +kernel
theorem dX3_hail_21 : decode cX3_hail 21 = .ok (.iaload, 1) := by decide +kernel
theorem dX3_hail_22 : decode cX3_hail 22 = .ok (.iconst 2, 1) := by decide +kernel
theorem dX3_hail_23 : decode cX3_hail 23 = .ok (.if_icmp .ne 10, 3) := by decide +kernel
theorem dX3_hail_26 : decode cX3_hail 26 = .ok (.aload_n 0, 1) := by decide +kernel
theorem dX3_hail_27 : decode cX3_hail 27 = .ok (.invokevirtual 204, 3) := by decide +kernel
theorem dX3_hail_30 : decode cX3_hail 30 = .ok (.goto 8, 3) := by decide +kernel
theorem dX3_hail_33 : decode cX3_hail 33 = .ok (.aload_n 0, 1) := by decide +kernel
theorem dX3_hail_34 : decode cX3_hail 34 = .ok (.iload_n 1, 1) := by decide +kernel
theorem dX3_hail_35 : decode cX3_hail 35 = .ok (.invokevirtual 207, 3) := by decide +kernel
theorem dX3_hail_38 : decode cX3_hail 38 = .ok (.ireturn, 1) := by decide +kernel
theorem dX3_as_0 : decode cX3_as 0 = .ok (.aload_n 0, 1) := by decide +kernel
theorem dX3_as_1 : decode cX3_as 1 = .ok (.iconst 0, 1) := by decide +kernel
theorem dX3_as_2 : decode cX3_as 2 = .ok (.putfield 25, 3) := by decide +kernel
theorem dX3_as_5 : decode cX3_as 5 = .ok (.aload_n 0, 1) := by decide +kernel
theorem dX3_as_6 : decode cX3_as 6 = .ok (.getfield 12, 3) := by decide +kernel
theorem dX3_as_9 : decode cX3_as 9 = .ok (.iload_n 1, 1) := by decide +kernel
theorem dX3_as_10 : decode cX3_as 10 = .ok (.invokevirtual 60, 3) := by decide +kernel
theorem dX3_as_13 : decode cX3_as 13 = .ok (.ifCond .ne 5, 3) := by decide +kernel
theorem dX3_as_16 : decode cX3_as 16 = .ok (.iconst (-1), 1) := by decide +kernel
theorem dX3_as_17 : decode cX3_as 17 = .ok (.ireturn, 1) := by decide +kernel
theorem dX3_as_18 : decode cX3_as 18 = .ok (.iload_n 2, 1) := by decide +kernel
theorem dX3_as_19 : decode cX3_as 19 = .ok (.ifCond .lt 8, 3) := by decide +kernel
theorem dX3_as_22 : decode cX3_as 22 = .ok (.iload_n 2, 1) := by decide +kernel
theorem dX3_as_23 : decode cX3_as 23 = .ok (.iconst 2, 1) := by decide +kernel
theorem dX3_as_24 : decode cX3_as 24 = .ok (.if_icmp .le 6, 3) := by decide +kernel
theorem dX3_as_27 : decode cX3_as 27 = .ok (.bipush (-2), 2) := by decide +kernel
theorem dX3_as_29 : decode cX3_as 29 = .ok (.ireturn, 1) := by decide +kernel
theorem dX3_as_30 : decode cX3_as 30 = .ok (.aload_n 0, 1) := by decide +kernel
theorem dX3_as_31 : decode cX3_as 31 = .ok (.getfield 12, 3) := by decide +kernel
theorem dX3_as_34 : decode cX3_as 34 = .ok (.getfield 63, 3) := by decide +kernel
theorem dX3_as_37 : decode cX3_as 37 = .ok (.iload_n 1, 1) := by decide +kernel
theorem dX3_as_38 : decode cX3_as 38 = .ok (.iaload, 1) := by decide +kernel
theorem dX3_as_39 : decode cX3_as 39 = .ok (.iload_n 2, 1) := by decide +kernel
theorem dX3_as_40 : decode cX3_as 40 = .ok (.if_icmp .ge 11, 3) := by decide +kernel
theorem dX3_as_43 : decode cX3_as 43 = .ok (.aload_n 0, 1) := by decide +kernel
theorem dX3_as_44 : decode cX3_as 44 = .ok (.iconst 2, 1) := by decide +kernel
theorem dX3_as_45 : decode cX3_as 45 = .ok (.invokevirtual 44, 3) := by decide +kernel
theorem dX3_as_48 : decode cX3_as 48 = .ok (.goto 4, 3) := by decide +kernel
theorem dX3_as_51 : decode cX3_as 51 = .ok (.iconst 1, 1) := by decide +kernel
theorem dX3_as_52 : decode cX3_as 52 = .ok (.ireturn, 1) := by decide +kernel
theorem dX3_trace_0 : decode cX3_trace 0 = .ok (.aload_n 0, 1) := by decide +kernel
theorem dX3_trace_1 : decode cX3_trace 1 = .ok (.getfield 210, 3) := by decide +kernel
theorem dX3_trace_4 : decode cX3_trace 4 = .ok (.ireturn, 1) := by decide +kernel
theorem dX3_fault_0 : decode cX3_fault 0 = .ok (.aload_n 0, 1) := by decide +kernel
theorem dX3_fault_1 : decode cX3_fault 1 = .ok (.getfield 25, 3) := by decide +kernel
theorem dX3_fault_4 : decode cX3_fault 4 = .ok (.ireturn, 1) := by decide +kernel
theorem dX3_many_0 : decode cX3_many 0 = .ok (.iload_n 1, 1) := by decide +kernel
theorem dX3_many_1 : decode cX3_many 1 = .ok (.tableswitch 63 0 3 #[31, 39, 47, 55], 31) := by decide +kernel
theorem dX3_many_32 : decode cX3_many 32 = .ok (.aload_n 0, 1) := by decide +kernel
theorem dX3_many_33 : decode cX3_many 33 = .ok (.getfield 12, 3) := by decide +kernel
theorem dX3_many_36 : decode cX3_many 36 = .ok (.getfield 57, 3) := by decide +kernel
theorem dX3_many_39 : decode cX3_many 39 = .ok (.ireturn, 1) := by decide +kernel
theorem dX3_many_40 : decode cX3_many 40 = .ok (.aload_n 0, 1) := by decide +kernel
theorem dX3_many_41 : decode cX3_many 41 = .ok (.getfield 12, 3) := by decide +kernel
theorem dX3_many_44 : decode cX3_many 44 = .ok (.getfield 87, 3) := by decide +kernel
theorem dX3_many_47 : decode cX3_many 47 = .ok (.ireturn, 1) := by decide +kernel
theorem dX3_many_48 : decode cX3_many 48 = .ok (.aload_n 0, 1) := by decide +kernel
theorem dX3_many_49 : decode cX3_many 49 = .ok (.getfield 12, 3) := by decide +kernel
theorem dX3_many_52 : decode cX3_many 52 = .ok (.getfield 84, 3) := by decide +kernel
theorem dX3_many_55 : decode cX3_many 55 = .ok (.ireturn, 1) := by decide +kernel
theorem dX3_many_56 : decode cX3_many 56 = .ok (.aload_n 0, 1) := by decide +kernel
theorem dX3_many_57 : decode cX3_many 57 = .ok (.getfield 12, 3) := by decide +kernel
theorem dX3_many_60 : decode cX3_many 60 = .ok (.getfield 145, 3) := by decide +kernel
theorem dX3_many_63 : decode cX3_many 63 = .ok (.ireturn, 1) := by decide +kernel
theorem dX3_many_64 : decode cX3_many 64 = .ok (.bipush (-2), 2) := by decide +kernel
theorem dX3_many_66 : decode cX3_many 66 = .ok (.ireturn, 1) := by decide +kernel
theorem dX3_isSheet_0 : decode cX3_isSheet 0 = .ok (.iload_n 0, 1) := by decide +kernel
theorem dX3_isSheet_1 : decode cX3_isSheet 1 = .ok (.ifCond .lt 12, 3) := by decide +kernel
theorem dX3_isSheet_4 : decode cX3_isSheet 4 = .ok (.iload_n 0, 1) := by decide +kernel
theorem dX3_isSheet_5 : decode cX3_isSheet 5 = .ok (.iconst 4, 1) := by decide +kernel
theorem dX3_isSheet_6 : decode cX3_isSheet 6 = .ok (.if_icmp .ge 7, 3) := by decide +kernel
theorem dX3_isSheet_9 : decode cX3_isSheet 9 = .ok (.iconst 1, 1) := by decide +kernel
theorem dX3_isSheet_10 : decode cX3_isSheet 10 = .ok (.goto 4, 3) := by decide +kernel
theorem dX3_isSheet_13 : decode cX3_isSheet 13 = .ok (.iconst 0, 1) := by decide +kernel
theorem dX3_isSheet_14 : decode cX3_isSheet 14 = .ok (.ireturn, 1) := by decide +kernel
theorem dX3_isLane_0 : decode cX3_isLane 0 = .ok (.iload_n 0, 1) := by decide +kernel
theorem dX3_isLane_1 : decode cX3_isLane 1 = .ok (.ifCond .lt 12, 3) := by decide +kernel
theorem dX3_isLane_4 : decode cX3_isLane 4 = .ok (.iload_n 0, 1) := by decide +kernel
theorem dX3_isLane_5 : decode cX3_isLane 5 = .ok (.iconst 2, 1) := by decide +kernel
theorem dX3_isLane_6 : decode cX3_isLane 6 = .ok (.if_icmp .gt 7, 3) := by decide +kernel
theorem dX3_isLane_9 : decode cX3_isLane 9 = .ok (.iconst 1, 1) := by decide +kernel
theorem dX3_isLane_10 : decode cX3_isLane 10 = .ok (.goto 4, 3) := by decide +kernel
theorem dX3_isLane_13 : decode cX3_isLane 13 = .ok (.iconst 0, 1) := by decide +kernel
theorem dX3_isLane_14 : decode cX3_isLane 14 = .ok (.ireturn, 1) := by decide +kernel
theorem dX3_isLoadsQuestion_0 : decode cX3_isLoadsQuestion 0 = .ok (.iload_n 0, 1) := by decide +kernel
theorem dX3_isLoadsQuestion_1 : decode cX3_isLoadsQuestion 1 = .ok (.ifCond .lt 8, 3) := by decide +kernel
theorem dX3_isLoadsQuestion_4 : decode cX3_isLoadsQuestion 4 = .ok (.iload_n 0, 1) := by decide +kernel
theorem dX3_isLoadsQuestion_5 : decode cX3_isLoadsQuestion 5 = .ok (.iconst 4, 1) := by decide +kernel
theorem dX3_isLoadsQuestion_6 : decode cX3_isLoadsQuestion 6 = .ok (.if_icmp .le 15, 3) := by decide +kernel
theorem dX3_isLoadsQuestion_9 : decode cX3_isLoadsQuestion 9 = .ok (.iload_n 0, 1) := by decide +kernel
theorem dX3_isLoadsQuestion_10 : decode cX3_isLoadsQuestion 10 = .ok (.bipush 10, 2) := by decide +kernel
theorem dX3_isLoadsQuestion_12 : decode cX3_isLoadsQuestion 12 = .ok (.if_icmp .lt 13, 3) := by decide +kernel
theorem dX3_isLoadsQuestion_15 : decode cX3_isLoadsQuestion 15 = .ok (.iload_n 0, 1) := by decide +kernel
theorem dX3_isLoadsQuestion_16 : decode cX3_isLoadsQuestion 16 = .ok (.bipush 15, 2) := by decide +kernel
theorem dX3_isLoadsQuestion_18 : decode cX3_isLoadsQuestion 18 = .ok (.if_icmp .ge 7, 3) := by decide +kernel
theorem dX3_isLoadsQuestion_21 : decode cX3_isLoadsQuestion 21 = .ok (.iconst 1, 1) := by decide +kernel
theorem dX3_isLoadsQuestion_22 : decode cX3_isLoadsQuestion 22 = .ok (.goto 4, 3) := by decide +kernel
theorem dX3_isLoadsQuestion_25 : decode cX3_isLoadsQuestion 25 = .ok (.iconst 0, 1) := by decide +kernel
theorem dX3_isLoadsQuestion_26 : decode cX3_isLoadsQuestion 26 = .ok (.ireturn, 1) := by decide +kernel
theorem dX3_faulted_0 : decode cX3_faulted 0 = .ok (.aload_n 0, 1) := by decide +kernel
theorem dX3_faulted_1 : decode cX3_faulted 1 = .ok (.iload_n 1, 1) := by decide +kernel
theorem dX3_faulted_2 : decode cX3_faulted 2 = .ok (.putfield 25, 3) := by decide +kernel
theorem dX3_faulted_5 : decode cX3_faulted 5 = .ok (.bipush (-10), 2) := by decide +kernel
theorem dX3_faulted_7 : decode cX3_faulted 7 = .ok (.iload_n 1, 1) := by decide +kernel
theorem dX3_faulted_8 : decode cX3_faulted 8 = .ok (.isub, 1) := by decide +kernel
theorem dX3_faulted_9 : decode cX3_faulted 9 = .ok (.ireturn, 1) := by decide +kernel
theorem dX3_refusalOfLoad_0 : decode cX3_refusalOfLoad 0 = .ok (.aload_n 0, 1) := by decide +kernel
theorem dX3_refusalOfLoad_1 : decode cX3_refusalOfLoad 1 = .ok (.getfield 12, 3) := by decide +kernel
theorem dX3_refusalOfLoad_4 : decode cX3_refusalOfLoad 4 = .ok (.invokevirtual 80, 3) := by decide +kernel
theorem dX3_refusalOfLoad_7 : decode cX3_refusalOfLoad 7 = .ok (.ifCond .ne 6, 3) := by decide +kernel
theorem dX3_refusalOfLoad_10 : decode cX3_refusalOfLoad 10 = .ok (.bipush (-3), 2) := by decide +kernel
theorem dX3_refusalOfLoad_12 : decode cX3_refusalOfLoad 12 = .ok (.ireturn, 1) := by decide +kernel
theorem dX3_refusalOfLoad_13 : decode cX3_refusalOfLoad 13 = .ok (.aload_n 0, 1) := by decide +kernel
theorem dX3_refusalOfLoad_14 : decode cX3_refusalOfLoad 14 = .ok (.getfield 12, 3) := by decide +kernel
theorem dX3_refusalOfLoad_17 : decode cX3_refusalOfLoad 17 = .ok (.iload_n 1, 1) := by decide +kernel
theorem dX3_refusalOfLoad_18 : decode cX3_refusalOfLoad 18 = .ok (.invokevirtual 213, 3) := by decide +kernel
theorem dX3_refusalOfLoad_21 : decode cX3_refusalOfLoad 21 = .ok (.ifCond .eq 7, 3) := by decide +kernel
theorem dX3_refusalOfLoad_24 : decode cX3_refusalOfLoad 24 = .ok (.iconst 0, 1) := by decide +kernel
theorem dX3_refusalOfLoad_25 : decode cX3_refusalOfLoad 25 = .ok (.goto 5, 3) := by decide +kernel
theorem dX3_refusalOfLoad_28 : decode cX3_refusalOfLoad 28 = .ok (.bipush (-2), 2) := by decide +kernel
theorem dX3_refusalOfLoad_30 : decode cX3_refusalOfLoad 30 = .ok (.ireturn, 1) := by decide +kernel
theorem dX3_refusalOfOneIn_0 : decode cX3_refusalOfOneIn 0 = .ok (.aload_n 0, 1) := by decide +kernel
theorem dX3_refusalOfOneIn_1 : decode cX3_refusalOfOneIn 1 = .ok (.getfield 12, 3) := by decide +kernel
theorem dX3_refusalOfOneIn_4 : decode cX3_refusalOfOneIn 4 = .ok (.iload_n 1, 1) := by decide +kernel
theorem dX3_refusalOfOneIn_5 : decode cX3_refusalOfOneIn 5 = .ok (.invokevirtual 60, 3) := by decide +kernel
theorem dX3_refusalOfOneIn_8 : decode cX3_refusalOfOneIn 8 = .ok (.ifCond .ne 5, 3) := by decide +kernel
theorem dX3_refusalOfOneIn_11 : decode cX3_refusalOfOneIn 11 = .ok (.iconst (-1), 1) := by decide +kernel
theorem dX3_refusalOfOneIn_12 : decode cX3_refusalOfOneIn 12 = .ok (.ireturn, 1) := by decide +kernel
theorem dX3_refusalOfOneIn_13 : decode cX3_refusalOfOneIn 13 = .ok (.aload_n 0, 1) := by decide +kernel
theorem dX3_refusalOfOneIn_14 : decode cX3_refusalOfOneIn 14 = .ok (.getfield 12, 3) := by decide +kernel
theorem dX3_refusalOfOneIn_17 : decode cX3_refusalOfOneIn 17 = .ok (.iload_n 2, 1) := by decide +kernel
theorem dX3_refusalOfOneIn_18 : decode cX3_refusalOfOneIn 18 = .ok (.invokevirtual 213, 3) := by decide +kernel
theorem dX3_refusalOfOneIn_21 : decode cX3_refusalOfOneIn 21 = .ok (.ifCond .eq 7, 3) := by decide +kernel
theorem dX3_refusalOfOneIn_24 : decode cX3_refusalOfOneIn 24 = .ok (.iload_n 3, 1) := by decide +kernel
theorem dX3_refusalOfOneIn_25 : decode cX3_refusalOfOneIn 25 = .ok (.ifCond .ne 6, 3) := by decide +kernel
theorem dX3_refusalOfOneIn_28 : decode cX3_refusalOfOneIn 28 = .ok (.bipush (-2), 2) := by decide +kernel
theorem dX3_refusalOfOneIn_30 : decode cX3_refusalOfOneIn 30 = .ok (.ireturn, 1) := by decide +kernel
theorem dX3_refusalOfOneIn_31 : decode cX3_refusalOfOneIn 31 = .ok (.iload_n 2, 1) := by decide +kernel
theorem dX3_refusalOfOneIn_32 : decode cX3_refusalOfOneIn 32 = .ok (.iload_n 1, 1) := by decide +kernel
theorem dX3_refusalOfOneIn_33 : decode cX3_refusalOfOneIn 33 = .ok (.ishr, 1) := by decide +kernel
theorem dX3_refusalOfOneIn_34 : decode cX3_refusalOfOneIn 34 = .ok (.iconst 1, 1) := by decide +kernel
theorem dX3_refusalOfOneIn_35 : decode cX3_refusalOfOneIn 35 = .ok (.iand, 1) := by decide +kernel
theorem dX3_refusalOfOneIn_36 : decode cX3_refusalOfOneIn 36 = .ok (.iconst 1, 1) := by decide +kernel
theorem dX3_refusalOfOneIn_37 : decode cX3_refusalOfOneIn 37 = .ok (.if_icmp .ne 7, 3) := by decide +kernel
theorem dX3_refusalOfOneIn_40 : decode cX3_refusalOfOneIn 40 = .ok (.iconst 0, 1) := by decide +kernel
theorem dX3_refusalOfOneIn_41 : decode cX3_refusalOfOneIn 41 = .ok (.goto 5, 3) := by decide +kernel
theorem dX3_refusalOfOneIn_44 : decode cX3_refusalOfOneIn 44 = .ok (.bipush (-3), 2) := by decide +kernel
theorem dX3_refusalOfOneIn_46 : decode cX3_refusalOfOneIn 46 = .ok (.ireturn, 1) := by decide +kernel
theorem dX3_ofLoads_0 : decode cX3_ofLoads 0 = .ok (.iload 4, 2) := by decide +kernel
theorem dX3_ofLoads_2 : decode cX3_ofLoads 2 = .ok (.bipush 10, 2) := by decide +kernel
theorem dX3_ofLoads_4 : decode cX3_ofLoads 4 = .ok (.if_icmp .lt 21, 3) := by decide +kernel
theorem dX3_ofLoads_7 : decode cX3_ofLoads 7 = .ok (.aload_n 0, 1) := by decide +kernel
theorem dX3_ofLoads_8 : decode cX3_ofLoads 8 = .ok (.getfield 12, 3) := by decide +kernel
theorem dX3_ofLoads_11 : decode cX3_ofLoads 11 = .ok (.iload 4, 2) := by decide +kernel
theorem dX3_ofLoads_13 : decode cX3_ofLoads 13 = .ok (.bipush 10, 2) := by decide +kernel
theorem dX3_ofLoads_15 : decode cX3_ofLoads 15 = .ok (.isub, 1) := by decide +kernel
theorem dX3_ofLoads_16 : decode cX3_ofLoads 16 = .ok (.invokevirtual 60, 3) := by decide +kernel
theorem dX3_ofLoads_19 : decode cX3_ofLoads 19 = .ok (.ifCond .ne 6, 3) := by decide +kernel
theorem dX3_ofLoads_22 : decode cX3_ofLoads 22 = .ok (.bipush (-9), 2) := by decide +kernel
theorem dX3_ofLoads_24 : decode cX3_ofLoads 24 = .ok (.ireturn, 1) := by decide +kernel
theorem dX3_ofLoads_25 : decode cX3_ofLoads 25 = .ok (.iconst 0, 1) := by decide +kernel
theorem dX3_ofLoads_26 : decode cX3_ofLoads 26 = .ok (.istore 5, 2) := by decide +kernel
theorem dX3_ofLoads_28 : decode cX3_ofLoads 28 = .ok (.iconst 0, 1) := by decide +kernel
theorem dX3_ofLoads_29 : decode cX3_ofLoads 29 = .ok (.istore 6, 2) := by decide +kernel
theorem dX3_ofLoads_31 : decode cX3_ofLoads 31 = .ok (.iload 6, 2) := by decide +kernel
theorem dX3_ofLoads_33 : decode cX3_ofLoads 33 = .ok (.iload_n 3, 1) := by decide +kernel
theorem dX3_ofLoads_34 : decode cX3_ofLoads 34 = .ok (.if_icmp .ge 53, 3) := by decide +kernel
theorem dX3_ofLoads_37 : decode cX3_ofLoads 37 = .ok (.aload_n 1, 1) := by decide +kernel
theorem dX3_ofLoads_38 : decode cX3_ofLoads 38 = .ok (.getfield 183, 3) := by decide +kernel
theorem dX3_ofLoads_41 : decode cX3_ofLoads 41 = .ok (.iload_n 2, 1) := by decide +kernel
theorem dX3_ofLoads_42 : decode cX3_ofLoads 42 = .ok (.iload 6, 2) := by decide +kernel
theorem dX3_ofLoads_44 : decode cX3_ofLoads 44 = .ok (.iadd, 1) := by decide +kernel
theorem dX3_ofLoads_45 : decode cX3_ofLoads 45 = .ok (.iaload, 1) := by decide +kernel
theorem dX3_ofLoads_46 : decode cX3_ofLoads 46 = .ok (.istore 7, 2) := by decide +kernel
theorem dX3_ofLoads_48 : decode cX3_ofLoads 48 = .ok (.iload 4, 2) := by decide +kernel
theorem dX3_ofLoads_50 : decode cX3_ofLoads 50 = .ok (.iconst 2, 1) := by decide +kernel
theorem dX3_ofLoads_51 : decode cX3_ofLoads 51 = .ok (.if_icmp .ne 13, 3) := by decide +kernel
theorem dX3_ofLoads_54 : decode cX3_ofLoads 54 = .ok (.iload 5, 2) := by decide +kernel
theorem dX3_ofLoads_56 : decode cX3_ofLoads 56 = .ok (.iload 7, 2) := by decide +kernel
theorem dX3_ofLoads_58 : decode cX3_ofLoads 58 = .ok (.ior, 1) := by decide +kernel
theorem dX3_ofLoads_59 : decode cX3_ofLoads 59 = .ok (.istore 5, 2) := by decide +kernel
theorem dX3_ofLoads_61 : decode cX3_ofLoads 61 = .ok (.goto 20, 3) := by decide +kernel
theorem dX3_ofLoads_64 : decode cX3_ofLoads 64 = .ok (.aload_n 0, 1) := by decide +kernel
theorem dX3_ofLoads_65 : decode cX3_ofLoads 65 = .ok (.getfield 12, 3) := by decide +kernel
theorem dX3_ofLoads_68 : decode cX3_ofLoads 68 = .ok (.iload 7, 2) := by decide +kernel
theorem dX3_ofLoads_70 : decode cX3_ofLoads 70 = .ok (.iload 4, 2) := by decide +kernel
theorem dX3_ofLoads_72 : decode cX3_ofLoads 72 = .ok (.invokevirtual 216, 3) := by decide +kernel
theorem dX3_ofLoads_75 : decode cX3_ofLoads 75 = .ok (.ifCond .eq 6, 3) := by decide +kernel
theorem dX3_ofLoads_78 : decode cX3_ofLoads 78 = .ok (.iinc 5 1, 3) := by decide +kernel
theorem dX3_ofLoads_81 : decode cX3_ofLoads 81 = .ok (.iinc 6 1, 3) := by decide +kernel
theorem dX3_ofLoads_84 : decode cX3_ofLoads 84 = .ok (.goto (-53), 3) := by decide +kernel
theorem dX3_ofLoads_87 : decode cX3_ofLoads 87 = .ok (.iload 5, 2) := by decide +kernel
theorem dX3_ofLoads_89 : decode cX3_ofLoads 89 = .ok (.ireturn, 1) := by decide +kernel
theorem dX3_leaveTrace_0 : decode cX3_leaveTrace 0 = .ok (.aload_n 0, 1) := by decide +kernel
theorem dX3_leaveTrace_1 : decode cX3_leaveTrace 1 = .ok (.bipush 31, 2) := by decide +kernel
theorem dX3_leaveTrace_3 : decode cX3_leaveTrace 3 = .ok (.aload_n 0, 1) := by decide +kernel
theorem dX3_leaveTrace_4 : decode cX3_leaveTrace 4 = .ok (.getfield 210, 3) := by decide +kernel
theorem dX3_leaveTrace_7 : decode cX3_leaveTrace 7 = .ok (.imul, 1) := by decide +kernel
theorem dX3_leaveTrace_8 : decode cX3_leaveTrace 8 = .ok (.iload_n 1, 1) := by decide +kernel
theorem dX3_leaveTrace_9 : decode cX3_leaveTrace 9 = .ok (.iadd, 1) := by decide +kernel
theorem dX3_leaveTrace_10 : decode cX3_leaveTrace 10 = .ok (.putfield 210, 3) := by decide +kernel
theorem dX3_leaveTrace_13 : decode cX3_leaveTrace 13 = .ok (.return_, 1) := by decide +kernel
theorem dX3_riderTells_0 : decode cX3_riderTells 0 = .ok (.aload_n 0, 1) := by decide +kernel
theorem dX3_riderTells_1 : decode cX3_riderTells 1 = .ok (.iconst 1, 1) := by decide +kernel
theorem dX3_riderTells_2 : decode cX3_riderTells 2 = .ok (.invokevirtual 219, 3) := by decide +kernel
theorem dX3_riderTells_5 : decode cX3_riderTells 5 = .ok (.aload_n 0, 1) := by decide +kernel
theorem dX3_riderTells_6 : decode cX3_riderTells 6 = .ok (.getfield 12, 3) := by decide +kernel
theorem dX3_riderTells_9 : decode cX3_riderTells 9 = .ok (.iload_n 1, 1) := by decide +kernel
theorem dX3_riderTells_10 : decode cX3_riderTells 10 = .ok (.invokevirtual 70, 3) := by decide +kernel
theorem dX3_riderTells_13 : decode cX3_riderTells 13 = .ok (.ireturn, 1) := by decide +kernel
theorem dX3_friendTells_0 : decode cX3_friendTells 0 = .ok (.aload_n 0, 1) := by decide +kernel
theorem dX3_friendTells_1 : decode cX3_friendTells 1 = .ok (.iconst 2, 1) := by decide +kernel
theorem dX3_friendTells_2 : decode cX3_friendTells 2 = .ok (.invokevirtual 219, 3) := by decide +kernel
theorem dX3_friendTells_5 : decode cX3_friendTells 5 = .ok (.aload_n 0, 1) := by decide +kernel
theorem dX3_friendTells_6 : decode cX3_friendTells 6 = .ok (.iload_n 1, 1) := by decide +kernel
theorem dX3_friendTells_7 : decode cX3_friendTells 7 = .ok (.invokevirtual 201, 3) := by decide +kernel
theorem dX3_friendTells_10 : decode cX3_friendTells 10 = .ok (.bipush 100, 2) := by decide +kernel
theorem dX3_friendTells_12 : decode cX3_friendTells 12 = .ok (.iadd, 1) := by decide +kernel
theorem dX3_friendTells_13 : decode cX3_friendTells 13 = .ok (.ireturn, 1) := by decide +kernel
theorem dX3_bankerTells_0 : decode cX3_bankerTells 0 = .ok (.aload_n 0, 1) := by decide +kernel
theorem dX3_bankerTells_1 : decode cX3_bankerTells 1 = .ok (.iconst 3, 1) := by decide +kernel
theorem dX3_bankerTells_2 : decode cX3_bankerTells 2 = .ok (.invokevirtual 219, 3) := by decide +kernel
theorem dX3_bankerTells_5 : decode cX3_bankerTells 5 = .ok (.aload_n 0, 1) := by decide +kernel
theorem dX3_bankerTells_6 : decode cX3_bankerTells 6 = .ok (.iload_n 1, 1) := by decide +kernel
theorem dX3_bankerTells_7 : decode cX3_bankerTells 7 = .ok (.invokevirtual 198, 3) := by decide +kernel
theorem dX3_bankerTells_10 : decode cX3_bankerTells 10 = .ok (.istore_n 2, 1) := by decide +kernel
theorem dX3_bankerTells_11 : decode cX3_bankerTells 11 = .ok (.iload_n 2, 1) := by decide +kernel
theorem dX3_bankerTells_12 : decode cX3_bankerTells 12 = .ok (.aload_n 0, 1) := by decide +kernel
theorem dX3_bankerTells_13 : decode cX3_bankerTells 13 = .ok (.iload_n 1, 1) := by decide +kernel
theorem dX3_bankerTells_14 : decode cX3_bankerTells 14 = .ok (.invokevirtual 201, 3) := by decide +kernel
theorem dX3_bankerTells_17 : decode cX3_bankerTells 17 = .ok (.iadd, 1) := by decide +kernel
theorem dX3_bankerTells_18 : decode cX3_bankerTells 18 = .ok (.ireturn, 1) := by decide +kernel
theorem dX3_lentHail_0 : decode cX3_lentHail 0 = .ok (.aload_n 0, 1) := by decide +kernel
theorem dX3_lentHail_1 : decode cX3_lentHail 1 = .ok (.iconst 4, 1) := by decide +kernel
theorem dX3_lentHail_2 : decode cX3_lentHail 2 = .ok (.invokevirtual 219, 3) := by decide +kernel
theorem dX3_lentHail_5 : decode cX3_lentHail 5 = .ok (.iload_n 1, 1) := by decide +kernel
theorem dX3_lentHail_6 : decode cX3_lentHail 6 = .ok (.ireturn, 1) := by decide +kernel
theorem dX3_bankerIsHailed_0 : decode cX3_bankerIsHailed 0 = .ok (.aload_n 0, 1) := by decide +kernel
theorem dX3_bankerIsHailed_1 : decode cX3_bankerIsHailed 1 = .ok (.iconst 5, 1) := by decide +kernel
theorem dX3_bankerIsHailed_2 : decode cX3_bankerIsHailed 2 = .ok (.invokevirtual 219, 3) := by decide +kernel
theorem dX3_bankerIsHailed_5 : decode cX3_bankerIsHailed 5 = .ok (.bipush 40, 2) := by decide +kernel
theorem dX3_bankerIsHailed_7 : decode cX3_bankerIsHailed 7 = .ok (.ireturn, 1) := by decide +kernel
