theorem dX4_init_0 : decode cX4_init 0 = .ok (.aload_n 0, 1) := by decide +kernel
theorem dX4_init_1 : decode cX4_init 1 = .ok (.invokespecial 1, 3) := by decide +kernel
theorem dX4_init_4 : decode cX4_init 4 = .ok (.aload_n 0, 1) := by decide +kernel
theorem dX4_init_5 : decode cX4_init 5 = .ok (.iconst 4, 1) := by decide +kernel
theorem dX4_init_6 : decode cX4_init 6 = .ok (.newarray .int, 2) := by decide +kernel
theorem dX4_init_8 : decode cX4_init 8 = .ok (.dup, 1) := by decide +kernel
theorem dX4_init_9 : decode cX4_init 9 = .ok (.iconst 0, 1) := by decide +kernel
theorem dX4_init_10 : decode cX4_init 10 = .ok (.bipush (-9), 2) := by decide +kernel
theorem dX4_init_12 : decode cX4_init 12 = .ok (.iastore, 1) := by decide +kernel
theorem dX4_init_13 : decode cX4_init 13 = .ok (.dup, 1) := by decide +kernel
theorem dX4_init_14 : decode cX4_init 14 = .ok (.iconst 1, 1) := by decide +kernel
theorem dX4_init_15 : decode cX4_init 15 = .ok (.bipush (-9), 2) := by decide +kernel
theorem dX4_init_17 : decode cX4_init 17 = .ok (.iastore, 1) := by decide +kernel
theorem dX4_init_18 : decode cX4_init 18 = .ok (.dup, 1) := by decide +kernel
theorem dX4_init_19 : decode cX4_init 19 = .ok (.iconst 2, 1) := by decide +kernel
theorem dX4_init_20 : decode cX4_init 20 = .ok (.bipush (-9), 2) := by decide +kernel
theorem dX4_init_22 : decode cX4_init 22 = .ok (.iastore, 1) := by decide +kernel
theorem dX4_init_23 : decode cX4_init 23 = .ok (.dup, 1) := by decide +kernel
theorem dX4_init_24 : decode cX4_init 24 = .ok (.iconst 3, 1) := by decide +kernel
theorem dX4_init_25 : decode cX4_init 25 = .ok (.bipush (-9), 2) := by decide +kernel
theorem dX4_init_27 : decode cX4_init 27 = .ok (.iastore, 1) := by decide +kernel
theorem dX4_init_28 : decode cX4_init 28 = .ok (.putfield 9, 3) := by decide +kernel
theorem dX4_init_31 : decode cX4_init 31 = .ok (.aload_n 0, 1) := by decide +kernel
theorem dX4_init_32 : decode cX4_init 32 = .ok (.iconst 4, 1) := by decide +kernel
theorem dX4_init_33 : decode cX4_init 33 = .ok (.newarray .int, 2) := by decide +kernel
theorem dX4_init_35 : decode cX4_init 35 = .ok (.putfield 13, 3) := by decide +kernel
theorem dX4_init_38 : decode cX4_init 38 = .ok (.aload_n 0, 1) := by decide +kernel
theorem dX4_init_39 : decode cX4_init 39 = .ok (.sipush 240, 3) := by decide +kernel
theorem dX4_init_42 : decode cX4_init 42 = .ok (.newarray .int, 2) := by decide +kernel
theorem dX4_init_44 : decode cX4_init 44 = .ok (.putfield 16, 3) := by decide +kernel
theorem dX4_init_47 : decode cX4_init 47 = .ok (.aload_n 0, 1) := by decide +kernel
theorem dX4_init_48 : decode cX4_init 48 = .ok (.iconst 5, 1) := by decide +kernel
theorem dX4_init_49 : decode cX4_init 49 = .ok (.newarray .int, 2) := by decide +kernel
theorem dX4_init_51 : decode cX4_init 51 = .ok (.putfield 19, 3) := by decide +kernel
theorem dX4_init_54 : decode cX4_init 54 = .ok (.aload_n 0, 1) := by decide +kernel
theorem dX4_init_55 : decode cX4_init 55 = .ok (.iconst 5, 1) := by decide +kernel
theorem dX4_init_56 : decode cX4_init 56 = .ok (.newarray .int, 2) := by decide +kernel
theorem dX4_init_58 : decode cX4_init 58 = .ok (.putfield 22, 3) := by decide +kernel
theorem dX4_init_61 : decode cX4_init 61 = .ok (.aload_n 0, 1) := by decide +kernel
theorem dX4_init_62 : decode cX4_init 62 = .ok (.bipush 25, 2) := by decide +kernel
theorem dX4_init_64 : decode cX4_init 64 = .ok (.newarray .int, 2) := by decide +kernel
theorem dX4_init_66 : decode cX4_init 66 = .ok (.putfield 25, 3) := by decide +kernel
theorem dX4_init_69 : decode cX4_init 69 = .ok (.aload_n 0, 1) := by decide +kernel
theorem dX4_init_70 : decode cX4_init 70 = .ok (.iconst 5, 1) := by decide +kernel
theorem dX4_init_71 : decode cX4_init 71 = .ok (.newarray .int, 2) := by decide +kernel
theorem dX4_init_73 : decode cX4_init 73 = .ok (.putfield 28, 3) := by decide +kernel
theorem dX4_init_76 : decode cX4_init 76 = .ok (.aload_n 0, 1) := by decide +kernel
theorem dX4_init_77 : decode cX4_init 77 = .ok (.iconst 5, 1) := by decide +kernel
theorem dX4_init_78 : decode cX4_init 78 = .ok (.newarray .int, 2) := by decide +kernel
theorem dX4_init_80 : decode cX4_init 80 = .ok (.putfield 31, 3) := by decide +kernel
theorem dX4_init_83 : decode cX4_init 83 = .ok (.aload_n 0, 1) := by decide +kernel
theorem dX4_init_84 : decode cX4_init 84 = .ok (.bipush 25, 2) := by decide +kernel
theorem dX4_init_86 : decode cX4_init 86 = .ok (.newarray .int, 2) := by decide +kernel
theorem dX4_init_88 : decode cX4_init 88 = .ok (.putfield 34, 3) := by decide +kernel
theorem dX4_init_91 : decode cX4_init 91 = .ok (.aload_n 0, 1) := by decide +kernel
theorem dX4_init_92 : decode cX4_init 92 = .ok (.iconst 5, 1) := by decide +kernel
theorem dX4_init_93 : decode cX4_init 93 = .ok (.newarray .int, 2) := by decide +kernel
theorem dX4_init_95 : decode cX4_init 95 = .ok (.putfield 37, 3) := by decide +kernel
theorem dX4_init_98 : decode cX4_init 98 = .ok (.aload_n 0, 1) := by decide +kernel
theorem dX4_init_99 : decode cX4_init 99 = .ok (.bipush 32, 2) := by decide +kernel
theorem dX4_init_101 : decode cX4_init 101 = .ok (.newarray .int, 2) := by decide +kernel
theorem dX4_init_103 : decode cX4_init 103 = .ok (.putfield 40, 3) := by decide +kernel
theorem dX4_init_106 : decode cX4_init 106 = .ok (.aload_n 0, 1) := by decide +kernel
theorem dX4_init_107 : decode cX4_init 107 = .ok (.bipush 8, 2) := by decide +kernel
theorem dX4_init_109 : decode cX4_init 109 = .ok (.newarray .int, 2) := by decide +kernel
theorem dX4_init_111 : decode cX4_init 111 = .ok (.putfield 43, 3) := by decide +kernel
theorem dX4_init_114 : decode cX4_init 114 = .ok (.aload_n 0, 1) := by decide +kernel
theorem dX4_init_115 : decode cX4_init 115 = .ok (.bipush 8, 2) := by decide +kernel
theorem dX4_init_117 : decode cX4_init 117 = .ok (.newarray .int, 2) := by decide +kernel
theorem dX4_init_119 : decode cX4_init 119 = .ok (.putfield 46, 3) := by decide +kernel
theorem dX4_init_122 : decode cX4_init 122 = .ok (.return_, 1) := by decide +kernel
theorem dX4_fails_0 : decode cX4_fails 0 = .ok (.aload_n 0, 1) := by decide +kernel
theorem dX4_fails_1 : decode cX4_fails 1 = .ok (.iload_n 1, 1) := by decide +kernel
theorem dX4_fails_2 : decode cX4_fails 2 = .ok (.putfield 49, 3) := by decide +kernel
theorem dX4_fails_5 : decode cX4_fails 5 = .ok (.bipush (-10), 2) := by decide +kernel
theorem dX4_fails_7 : decode cX4_fails 7 = .ok (.iload_n 1, 1) := by decide +kernel
theorem dX4_fails_8 : decode cX4_fails 8 = .ok (.isub, 1) := by decide +kernel
theorem dX4_fails_9 : decode cX4_fails 9 = .ok (.ireturn, 1) := by decide +kernel
theorem dX4_lost_0 : decode cX4_lost 0 = .ok (.aload_n 0, 1) := by decide +kernel
theorem dX4_lost_1 : decode cX4_lost 1 = .ok (.iload_n 1, 1) := by decide +kernel
theorem dX4_lost_2 : decode cX4_lost 2 = .ok (.putfield 49, 3) := by decide +kernel
theorem dX4_lost_5 : decode cX4_lost 5 = .ok (.ldc2_w 53, 3) := by decide +kernel
theorem dX4_lost_8 : decode cX4_lost 8 = .ok (.lreturn, 1) := by decide +kernel
theorem dX4_within_0 : decode cX4_within 0 = .ok (.iload_n 0, 1) := by decide +kernel
theorem dX4_within_1 : decode cX4_within 1 = .ok (.iload_n 1, 1) := by decide +kernel
theorem dX4_within_2 : decode cX4_within 2 = .ok (.if_icmp .lt 12, 3) := by decide +kernel
theorem dX4_within_5 : decode cX4_within 5 = .ok (.iload_n 0, 1) := by decide +kernel
theorem dX4_within_6 : decode cX4_within 6 = .ok (.iload_n 2, 1) := by decide +kernel
theorem dX4_within_7 : decode cX4_within 7 = .ok (.if_icmp .gt 7, 3) := by decide +kernel
theorem dX4_within_10 : decode cX4_within 10 = .ok (.iconst 1, 1) := by decide +kernel
theorem dX4_within_11 : decode cX4_within 11 = .ok (.goto 4, 3) := by decide +kernel
theorem dX4_within_14 : decode cX4_within 14 = .ok (.iconst 0, 1) := by decide +kernel
theorem dX4_within_15 : decode cX4_within 15 = .ok (.ireturn, 1) := by decide +kernel
theorem dX4_isSheet_0 : decode cX4_isSheet 0 = .ok (.iload_n 0, 1) := by decide +kernel
theorem dX4_isSheet_1 : decode cX4_isSheet 1 = .ok (.iconst 0, 1) := by decide +kernel
theorem dX4_isSheet_2 : decode cX4_isSheet 2 = .ok (.iconst 3, 1) := by decide +kernel
theorem dX4_isSheet_3 : decode cX4_isSheet 3 = .ok (.invokestatic 55, 3) := by decide +kernel
theorem dX4_isSheet_6 : decode cX4_isSheet 6 = .ok (.ireturn, 1) := by decide +kernel
theorem dX4_isSort_0 : decode cX4_isSort 0 = .ok (.iload_n 0, 1) := by decide +kernel
theorem dX4_isSort_1 : decode cX4_isSort 1 = .ok (.iconst 0, 1) := by decide +kernel
theorem dX4_isSort_2 : decode cX4_isSort 2 = .ok (.iconst 2, 1) := by decide +kernel
theorem dX4_isSort_3 : decode cX4_isSort 3 = .ok (.invokestatic 55, 3) := by decide +kernel
theorem dX4_isSort_6 : decode cX4_isSort 6 = .ok (.ireturn, 1) := by decide +kernel
theorem dX4_against_0 : decode cX4_against 0 = .ok (.aload_n 0, 1) := by decide +kernel
theorem dX4_against_1 : decode cX4_against 1 = .ok (.getfield 9, 3) := by decide +kernel
theorem dX4_against_4 : decode cX4_against 4 = .ok (.iload_n 1, 1) := by decide +kernel
theorem dX4_against_5 : decode cX4_against 5 = .ok (.iaload, 1) := by decide +kernel
theorem dX4_against_6 : decode cX4_against 6 = .ok (.bipush (-9), 2) := by decide +kernel
theorem dX4_against_8 : decode cX4_against 8 = .ok (.if_icmp .eq 15, 3) := by decide +kernel
theorem dX4_against_11 : decode cX4_against 11 = .ok (.aload_n 0, 1) := by decide +kernel
theorem dX4_against_12 : decode cX4_against 12 = .ok (.getfield 9, 3) := by decide +kernel
theorem dX4_against_15 : decode cX4_against 15 = .ok (.iload_n 1, 1) := by decide +kernel
theorem dX4_against_16 : decode cX4_against 16 = .ok (.iaload, 1) := by decide +kernel
theorem dX4_against_17 : decode cX4_against 17 = .ok (.iload_n 2, 1) := by decide +kernel
theorem dX4_against_18 : decode cX4_against 18 = .ok (.if_icmp .eq 5, 3) := by decide +kernel
theorem dX4_against_21 : decode cX4_against 21 = .ok (.iconst 2, 1) := by decide +kernel
theorem dX4_against_22 : decode cX4_against 22 = .ok (.ireturn, 1) := by decide +kernel
theorem dX4_against_23 : decode cX4_against 23 = .ok (.aload_n 0, 1) := by decide +kernel
theorem dX4_against_24 : decode cX4_against 24 = .ok (.getfield 9, 3) := by decide +kernel
theorem dX4_against_27 : decode cX4_against 27 = .ok (.iload_n 1, 1) := by decide +kernel
theorem dX4_against_28 : decode cX4_against 28 = .ok (.iaload, 1) := by decide +kernel
theorem dX4_against_29 : decode cX4_against 29 = .ok (.bipush (-9), 2) := by decide +kernel
theorem dX4_against_31 : decode cX4_against 31 = .ok (.if_icmp .ne 5, 3) := by decide +kernel
theorem dX4_against_34 : decode cX4_against 34 = .ok (.iconst 1, 1) := by decide +kernel
theorem dX4_against_35 : decode cX4_against 35 = .ok (.ireturn, 1) := by decide +kernel
theorem dX4_against_36 : decode cX4_against 36 = .ok (.iload 4, 2) := by decide +kernel
theorem dX4_against_38 : decode cX4_against 38 = .ok (.ifCond .ge 5, 3) := by decide +kernel
theorem dX4_against_41 : decode cX4_against 41 = .ok (.iconst 4, 1) := by decide +kernel
theorem dX4_against_42 : decode cX4_against 42 = .ok (.ireturn, 1) := by decide +kernel
theorem dX4_against_43 : decode cX4_against 43 = .ok (.iload_n 3, 1) := by decide +kernel
theorem dX4_against_44 : decode cX4_against 44 = .ok (.ifCond .lt 26, 3) := by decide +kernel
theorem dX4_against_47 : decode cX4_against 47 = .ok (.iload_n 3, 1) := by decide +kernel
theorem dX4_against_48 : decode cX4_against 48 = .ok (.aload_n 0, 1) := by decide +kernel
theorem dX4_against_49 : decode cX4_against 49 = .ok (.getfield 13, 3) := by decide +kernel
theorem dX4_against_52 : decode cX4_against 52 = .ok (.iload_n 1, 1) := by decide +kernel
theorem dX4_against_53 : decode cX4_against 53 = .ok (.iaload, 1) := by decide +kernel
theorem dX4_against_54 : decode cX4_against 54 = .ok (.if_icmp .gt 16, 3) := by decide +kernel
theorem dX4_against_57 : decode cX4_against 57 = .ok (.iload 4, 2) := by decide +kernel
theorem dX4_against_59 : decode cX4_against 59 = .ok (.aload_n 0, 1) := by decide +kernel
theorem dX4_against_60 : decode cX4_against 60 = .ok (.getfield 13, 3) := by decide +kernel
theorem dX4_against_63 : decode cX4_against 63 = .ok (.iload_n 1, 1) := by decide +kernel
theorem dX4_against_64 : decode cX4_against 64 = .ok (.iaload, 1) := by decide +kernel
theorem dX4_against_65 : decode cX4_against 65 = .ok (.iload_n 3, 1) := by decide +kernel
theorem dX4_against_66 : decode cX4_against 66 = .ok (.isub, 1) := by decide +kernel
theorem dX4_against_67 : decode cX4_against 67 = .ok (.if_icmp .le 7, 3) := by decide +kernel
theorem dX4_against_70 : decode cX4_against 70 = .ok (.iconst 3, 1) := by decide +kernel
theorem dX4_against_71 : decode cX4_against 71 = .ok (.goto 4, 3) := by decide +kernel
theorem dX4_against_74 : decode cX4_against 74 = .ok (.iconst 0, 1) := by decide +kernel
theorem dX4_against_75 : decode cX4_against 75 = .ok (.ireturn, 1) := by decide +kernel
theorem dX4_isPerson_0 : decode cX4_isPerson 0 = .ok (.iload_n 1, 1) := by decide +kernel
theorem dX4_isPerson_1 : decode cX4_isPerson 1 = .ok (.ifCond .lt 15, 3) := by decide +kernel
theorem dX4_isPerson_4 : decode cX4_isPerson 4 = .ok (.iload_n 1, 1) := by decide +kernel
theorem dX4_isPerson_5 : decode cX4_isPerson 5 = .ok (.aload_n 0, 1) := by decide +kernel
theorem dX4_isPerson_6 : decode cX4_isPerson 6 = .ok (.getfield 59, 3) := by decide +kernel
theorem dX4_isPerson_9 : decode cX4_isPerson 9 = .ok (.if_icmp .ge 7, 3) := by decide +kernel
theorem dX4_isPerson_12 : decode cX4_isPerson 12 = .ok (.iconst 1, 1) := by decide +kernel
theorem dX4_isPerson_13 : decode cX4_isPerson 13 = .ok (.goto 4, 3) := by decide +kernel
theorem dX4_isPerson_16 : decode cX4_isPerson 16 = .ok (.iconst 0, 1) := by decide +kernel
theorem dX4_isPerson_17 : decode cX4_isPerson 17 = .ok (.ireturn, 1) := by decide +kernel
theorem dX4_isSet_0 : decode cX4_isSet 0 = .ok (.iload_n 1, 1) := by decide +kernel
theorem dX4_isSet_1 : decode cX4_isSet 1 = .ok (.ifCond .lt 17, 3) := by decide +kernel
theorem dX4_isSet_4 : decode cX4_isSet 4 = .ok (.iload_n 1, 1) := by decide +kernel
theorem dX4_isSet_5 : decode cX4_isSet 5 = .ok (.iconst 1, 1) := by decide +kernel
theorem dX4_isSet_6 : decode cX4_isSet 6 = .ok (.aload_n 0, 1) := by decide +kernel
theorem dX4_isSet_7 : decode cX4_isSet 7 = .ok (.getfield 59, 3) := by decide +kernel
theorem dX4_isSet_10 : decode cX4_isSet 10 = .ok (.ishl, 1) := by decide +kernel
theorem dX4_isSet_11 : decode cX4_isSet 11 = .ok (.if_icmp .ge 7, 3) := by decide +kernel
theorem dX4_isSet_14 : decode cX4_isSet 14 = .ok (.iconst 1, 1) := by decide +kernel
theorem dX4_isSet_15 : decode cX4_isSet 15 = .ok (.goto 4, 3) := by decide +kernel
theorem dX4_isSet_18 : decode cX4_isSet 18 = .ok (.iconst 0, 1) := by decide +kernel
theorem dX4_isSet_19 : decode cX4_isSet 19 = .ok (.ireturn, 1) := by decide +kernel
theorem dX4_isOf_0 : decode cX4_isOf 0 = .ok (.iload_n 0, 1) := by decide +kernel
theorem dX4_isOf_1 : decode cX4_isOf 1 = .ok (.iload_n 1, 1) := by decide +kernel
theorem dX4_isOf_2 : decode cX4_isOf 2 = .ok (.ishr, 1) := by decide +kernel
theorem dX4_isOf_3 : decode cX4_isOf 3 = .ok (.iconst 1, 1) := by decide +kernel
theorem dX4_isOf_4 : decode cX4_isOf 4 = .ok (.iand, 1) := by decide +kernel
theorem dX4_isOf_5 : decode cX4_isOf 5 = .ok (.iconst 1, 1) := by decide +kernel
theorem dX4_isOf_6 : decode cX4_isOf 6 = .ok (.if_icmp .ne 7, 3) := by decide +kernel
theorem dX4_isOf_9 : decode cX4_isOf 9 = .ok (.iconst 1, 1) := by decide +kernel
theorem dX4_isOf_10 : decode cX4_isOf 10 = .ok (.goto 4, 3) := by decide +kernel
theorem dX4_isOf_13 : decode cX4_isOf 13 = .ok (.iconst 0, 1) := by decide +kernel
theorem dX4_isOf_14 : decode cX4_isOf 14 = .ok (.ireturn, 1) := by decide +kernel
theorem dX4_digit_0 : decode cX4_digit 0 = .ok (.aload_n 0, 1) := by decide +kernel
theorem dX4_digit_1 : decode cX4_digit 1 = .ok (.getfield 62, 3) := by decide +kernel
theorem dX4_digit_4 : decode cX4_digit 4 = .ok (.iload_n 1, 1) := by decide +kernel
theorem dX4_digit_5 : decode cX4_digit 5 = .ok (.if_icmp .ge 26, 3) := by decide +kernel
theorem dX4_digit_8 : decode cX4_digit 8 = .ok (.aload_n 0, 1) := by decide +kernel
theorem dX4_digit_9 : decode cX4_digit 9 = .ok (.getfield 16, 3) := by decide +kernel
theorem dX4_digit_12 : decode cX4_digit 12 = .ok (.aload_n 0, 1) := by decide +kernel
theorem dX4_digit_13 : decode cX4_digit 13 = .ok (.getfield 62, 3) := by decide +kernel
theorem dX4_digit_16 : decode cX4_digit 16 = .ok (.iaload, 1) := by decide +kernel
theorem dX4_digit_17 : decode cX4_digit 17 = .ok (.bipush 48, 2) := by decide +kernel
theorem dX4_digit_19 : decode cX4_digit 19 = .ok (.iload_n 2, 1) := by decide +kernel
theorem dX4_digit_20 : decode cX4_digit 20 = .ok (.iadd, 1) := by decide +kernel
theorem dX4_digit_21 : decode cX4_digit 21 = .ok (.bipush 48, 2) := by decide +kernel
theorem dX4_digit_23 : decode cX4_digit 23 = .ok (.iload_n 3, 1) := by decide +kernel
theorem dX4_digit_24 : decode cX4_digit 24 = .ok (.iadd, 1) := by decide +kernel
theorem dX4_digit_25 : decode cX4_digit 25 = .ok (.invokestatic 55, 3) := by decide +kernel
theorem dX4_digit_28 : decode cX4_digit 28 = .ok (.ifCond .ne 6, 3) := by decide +kernel
theorem dX4_digit_31 : decode cX4_digit 31 = .ok (.bipush (-9), 2) := by decide +kernel
theorem dX4_digit_33 : decode cX4_digit 33 = .ok (.ireturn, 1) := by decide +kernel
theorem dX4_digit_34 : decode cX4_digit 34 = .ok (.aload_n 0, 1) := by decide +kernel
theorem dX4_digit_35 : decode cX4_digit 35 = .ok (.dup, 1) := by decide +kernel
theorem dX4_digit_36 : decode cX4_digit 36 = .ok (.getfield 62, 3) := by decide +kernel
theorem dX4_digit_39 : decode cX4_digit 39 = .ok (.iconst 1, 1) := by decide +kernel
theorem dX4_digit_40 : decode cX4_digit 40 = .ok (.iadd, 1) := by decide +kernel
theorem dX4_digit_41 : decode cX4_digit 41 = .ok (.putfield 62, 3) := by decide +kernel
theorem dX4_digit_44 : decode cX4_digit 44 = .ok (.aload_n 0, 1) := by decide +kernel
theorem dX4_digit_45 : decode cX4_digit 45 = .ok (.getfield 16, 3) := by decide +kernel
theorem dX4_digit_48 : decode cX4_digit 48 = .ok (.aload_n 0, 1) := by decide +kernel
theorem dX4_digit_49 : decode cX4_digit 49 = .ok (.getfield 62, 3) := by decide +kernel
theorem dX4_digit_52 : decode cX4_digit 52 = .ok (.iconst 1, 1) := by decide +kernel
theorem dX4_digit_53 : decode cX4_digit 53 = .ok (.isub, 1) := by decide +kernel
theorem dX4_digit_54 : decode cX4_digit 54 = .ok (.iaload, 1) := by decide +kernel
theorem dX4_digit_55 : decode cX4_digit 55 = .ok (.bipush 48, 2) := by decide +kernel
theorem dX4_digit_57 : decode cX4_digit 57 = .ok (.isub, 1) := by decide +kernel
theorem dX4_digit_58 : decode cX4_digit 58 = .ok (.ireturn, 1) := by decide +kernel
theorem dX4_isSign_0 : decode cX4_isSign 0 = .ok (.aload_n 0, 1) := by decide +kernel
theorem dX4_isSign_1 : decode cX4_isSign 1 = .ok (.getfield 62, 3) := by decide +kernel
theorem dX4_isSign_4 : decode cX4_isSign 4 = .ok (.iload_n 1, 1) := by decide +kernel
theorem dX4_isSign_5 : decode cX4_isSign 5 = .ok (.if_icmp .ge 16, 3) := by decide +kernel
theorem dX4_isSign_8 : decode cX4_isSign 8 = .ok (.aload_n 0, 1) := by decide +kernel
theorem dX4_isSign_9 : decode cX4_isSign 9 = .ok (.getfield 16, 3) := by decide +kernel
theorem dX4_isSign_12 : decode cX4_isSign 12 = .ok (.aload_n 0, 1) := by decide +kernel
theorem dX4_isSign_13 : decode cX4_isSign 13 = .ok (.getfield 62, 3) := by decide +kernel
theorem dX4_isSign_16 : decode cX4_isSign 16 = .ok (.iaload, 1) := by decide +kernel
theorem dX4_isSign_17 : decode cX4_isSign 17 = .ok (.iload_n 2, 1) := by decide +kernel
theorem dX4_isSign_18 : decode cX4_isSign 18 = .ok (.if_icmp .eq 5, 3) := by decide +kernel
theorem dX4_isSign_21 : decode cX4_isSign 21 = .ok (.iconst 0, 1) := by decide +kernel
theorem dX4_isSign_22 : decode cX4_isSign 22 = .ok (.ireturn, 1) := by decide +kernel
theorem dX4_isSign_23 : decode cX4_isSign 23 = .ok (.aload_n 0, 1) := by decide +kernel
theorem dX4_isSign_24 : decode cX4_isSign 24 = .ok (.dup, 1) := by decide +kernel
theorem dX4_isSign_25 : decode cX4_isSign 25 = .ok (.getfield 62, 3) := by decide +kernel
theorem dX4_isSign_28 : decode cX4_isSign 28 = .ok (.iconst 1, 1) := by decide +kernel
theorem dX4_isSign_29 : decode cX4_isSign 29 = .ok (.iadd, 1) := by decide +kernel
theorem dX4_isSign_30 : decode cX4_isSign 30 = .ok (.putfield 62, 3) := by decide +kernel
theorem dX4_isSign_33 : decode cX4_isSign 33 = .ok (.iconst 1, 1) := by decide +kernel
theorem dX4_isSign_34 : decode cX4_isSign 34 = .ok (.ireturn, 1) := by decide +kernel
theorem dX4_river_0 : decode cX4_river 0 = .ok (.aload_n 0, 1) := by decide +kernel
theorem dX4_river_1 : decode cX4_river 1 = .ok (.iconst 0, 1) := by decide +kernel
theorem dX4_river_2 : decode cX4_river 2 = .ok (.putfield 49, 3) := by decide +kernel
theorem dX4_river_5 : decode cX4_river 5 = .ok (.iload_n 1, 1) := by decide +kernel
theorem dX4_river_6 : decode cX4_river 6 = .ok (.invokestatic 65, 3) := by decide +kernel
theorem dX4_river_9 : decode cX4_river 9 = .ok (.ifCond .ne 5, 3) := by decide +kernel
theorem dX4_river_12 : decode cX4_river 12 = .ok (.iconst (-1), 1) := by decide +kernel
theorem dX4_river_13 : decode cX4_river 13 = .ok (.ireturn, 1) := by decide +kernel
theorem dX4_river_14 : decode cX4_river 14 = .ok (.iload_n 2, 1) := by decide +kernel
theorem dX4_river_15 : decode cX4_river 15 = .ok (.invokestatic 69, 3) := by decide +kernel
theorem dX4_river_18 : decode cX4_river 18 = .ok (.ifCond .ne 6, 3) := by decide +kernel
theorem dX4_river_21 : decode cX4_river 21 = .ok (.bipush (-2), 2) := by decide +kernel
theorem dX4_river_23 : decode cX4_river 23 = .ok (.ireturn, 1) := by decide +kernel
theorem dX4_river_24 : decode cX4_river 24 = .ok (.aload_n 0, 1) := by decide +kernel
theorem dX4_river_25 : decode cX4_river 25 = .ok (.iload_n 1, 1) := by decide +kernel
theorem dX4_river_26 : decode cX4_river 26 = .ok (.iload_n 2, 1) := by decide +kernel
theorem dX4_river_27 : decode cX4_river 27 = .ok (.iload_n 3, 1) := by decide +kernel
theorem dX4_river_28 : decode cX4_river 28 = .ok (.iload 4, 2) := by decide +kernel
theorem dX4_river_30 : decode cX4_river 30 = .ok (.invokevirtual 72, 3) := by decide +kernel
theorem dX4_river_33 : decode cX4_river 33 = .ok (.istore 5, 2) := by decide +kernel
theorem dX4_river_35 : decode cX4_river 35 = .ok (.iload 5, 2) := by decide +kernel
theorem dX4_river_37 : decode cX4_river 37 = .ok (.ifCond .eq 10, 3) := by decide +kernel
theorem dX4_river_40 : decode cX4_river 40 = .ok (.aload_n 0, 1) := by decide +kernel
theorem dX4_river_41 : decode cX4_river 41 = .ok (.iload 5, 2) := by decide +kernel
theorem dX4_river_43 : decode cX4_river 43 = .ok (.invokevirtual 76, 3) := by decide +kernel
theorem dX4_river_46 : decode cX4_river 46 = .ok (.ireturn, 1) := by decide +kernel
theorem dX4_river_47 : decode cX4_river 47 = .ok (.bipush 60, 2) := by decide +kernel
theorem dX4_river_49 : decode cX4_river 49 = .ok (.iload_n 1, 1) := by decide +kernel
theorem dX4_river_50 : decode cX4_river 50 = .ok (.imul, 1) := by decide +kernel
theorem dX4_river_51 : decode cX4_river 51 = .ok (.iload_n 3, 1) := by decide +kernel
theorem dX4_river_52 : decode cX4_river 52 = .ok (.iadd, 1) := by decide +kernel
theorem dX4_river_53 : decode cX4_river 53 = .ok (.istore 6, 2) := by decide +kernel
theorem dX4_river_55 : decode cX4_river 55 = .ok (.aload_n 0, 1) := by decide +kernel
theorem dX4_river_56 : decode cX4_river 56 = .ok (.iload 6, 2) := by decide +kernel
theorem dX4_river_58 : decode cX4_river 58 = .ok (.putfield 62, 3) := by decide +kernel
theorem dX4_river_61 : decode cX4_river 61 = .ok (.aload_n 0, 1) := by decide +kernel
theorem dX4_river_62 : decode cX4_river 62 = .ok (.iload 6, 2) := by decide +kernel
theorem dX4_river_64 : decode cX4_river 64 = .ok (.iload 4, 2) := by decide +kernel
theorem dX4_river_66 : decode cX4_river 66 = .ok (.iadd, 1) := by decide +kernel
theorem dX4_river_67 : decode cX4_river 67 = .ok (.invokevirtual 80, 3) := by decide +kernel
theorem dX4_river_70 : decode cX4_river 70 = .ok (.ifCond .ne 14, 3) := by decide +kernel
theorem dX4_river_73 : decode cX4_river 73 = .ok (.bipush (-100), 2) := by decide +kernel
theorem dX4_river_75 : decode cX4_river 75 = .ok (.aload_n 0, 1) := by decide +kernel
theorem dX4_river_76 : decode cX4_river 76 = .ok (.getfield 62, 3) := by decide +kernel
theorem dX4_river_79 : decode cX4_river 79 = .ok (.iload 6, 2) := by decide +kernel
theorem dX4_river_81 : decode cX4_river 81 = .ok (.isub, 1) := by decide +kernel
theorem dX4_river_82 : decode cX4_river 82 = .ok (.isub, 1) := by decide +kernel
theorem dX4_river_83 : decode cX4_river 83 = .ok (.ireturn, 1) := by decide +kernel
theorem dX4_river_84 : decode cX4_river 84 = .ok (.aload_n 0, 1) := by decide +kernel
theorem dX4_river_85 : decode cX4_river 85 = .ok (.invokevirtual 83, 3) := by decide +kernel
theorem dX4_river_88 : decode cX4_river 88 = .ok (.aload_n 0, 1) := by decide +kernel
theorem dX4_river_89 : decode cX4_river 89 = .ok (.getfield 59, 3) := by decide +kernel
theorem dX4_river_92 : decode cX4_river 92 = .ok (.ireturn, 1) := by decide +kernel
theorem dX4_takeRiver_0 : decode cX4_takeRiver 0 = .ok (.aload_n 0, 1) := by decide +kernel
theorem dX4_takeRiver_1 : decode cX4_takeRiver 1 = .ok (.aload_n 0, 1) := by decide +kernel
theorem dX4_takeRiver_2 : decode cX4_takeRiver 2 = .ok (.getfield 86, 3) := by decide +kernel
theorem dX4_takeRiver_5 : decode cX4_takeRiver 5 = .ok (.putfield 59, 3) := by decide +kernel
theorem dX4_takeRiver_8 : decode cX4_takeRiver 8 = .ok (.aload_n 0, 1) := by decide +kernel
theorem dX4_takeRiver_9 : decode cX4_takeRiver 9 = .ok (.aload_n 0, 1) := by decide +kernel
theorem dX4_takeRiver_10 : decode cX4_takeRiver 10 = .ok (.getfield 89, 3) := by decide +kernel
theorem dX4_takeRiver_13 : decode cX4_takeRiver 13 = .ok (.putfield 92, 3) := by decide +kernel
theorem dX4_takeRiver_16 : decode cX4_takeRiver 16 = .ok (.aload_n 0, 1) := by decide +kernel
theorem dX4_takeRiver_17 : decode cX4_takeRiver 17 = .ok (.aload_n 0, 1) := by decide +kernel
theorem dX4_takeRiver_18 : decode cX4_takeRiver 18 = .ok (.getfield 95, 3) := by decide +kernel
theorem dX4_takeRiver_21 : decode cX4_takeRiver 21 = .ok (.putfield 98, 3) := by decide +kernel
theorem dX4_takeRiver_24 : decode cX4_takeRiver 24 = .ok (.iconst 0, 1) := by decide +kernel
theorem dX4_takeRiver_25 : decode cX4_takeRiver 25 = .ok (.istore_n 1, 1) := by decide +kernel
theorem dX4_takeRiver_26 : decode cX4_takeRiver 26 = .ok (.iload_n 1, 1) := by decide +kernel
theorem dX4_takeRiver_27 : decode cX4_takeRiver 27 = .ok (.aload_n 0, 1) := by decide +kernel
theorem dX4_takeRiver_28 : decode cX4_takeRiver 28 = .ok (.getfield 59, 3) := by decide +kernel
theorem dX4_takeRiver_31 : decode cX4_takeRiver 31 = .ok (.if_icmp .ge 69, 3) := by decide +kernel
theorem dX4_takeRiver_34 : decode cX4_takeRiver 34 = .ok (.aload_n 0, 1) := by decide +kernel
theorem dX4_takeRiver_35 : decode cX4_takeRiver 35 = .ok (.getfield 19, 3) := by decide +kernel
theorem dX4_takeRiver_38 : decode cX4_takeRiver 38 = .ok (.iload_n 1, 1) := by decide +kernel
theorem dX4_takeRiver_39 : decode cX4_takeRiver 39 = .ok (.aload_n 0, 1) := by decide +kernel
theorem dX4_takeRiver_40 : decode cX4_takeRiver 40 = .ok (.getfield 28, 3) := by decide +kernel
theorem dX4_takeRiver_43 : decode cX4_takeRiver 43 = .ok (.iload_n 1, 1) := by decide +kernel
theorem dX4_takeRiver_44 : decode cX4_takeRiver 44 = .ok (.iaload, 1) := by decide +kernel
theorem dX4_takeRiver_45 : decode cX4_takeRiver 45 = .ok (.iastore, 1) := by decide +kernel
theorem dX4_takeRiver_46 : decode cX4_takeRiver 46 = .ok (.aload_n 0, 1) := by decide +kernel
theorem dX4_takeRiver_47 : decode cX4_takeRiver 47 = .ok (.getfield 22, 3) := by decide +kernel
theorem dX4_takeRiver_50 : decode cX4_takeRiver 50 = .ok (.iload_n 1, 1) := by decide +kernel
theorem dX4_takeRiver_51 : decode cX4_takeRiver 51 = .ok (.aload_n 0, 1) := by decide +kernel
theorem dX4_takeRiver_52 : decode cX4_takeRiver 52 = .ok (.getfield 31, 3) := by decide +kernel
theorem dX4_takeRiver_55 : decode cX4_takeRiver 55 = .ok (.iload_n 1, 1) := by decide +kernel
theorem dX4_takeRiver_56 : decode cX4_takeRiver 56 = .ok (.iaload, 1) := by decide +kernel
theorem dX4_takeRiver_57 : decode cX4_takeRiver 57 = .ok (.iastore, 1) := by decide +kernel
theorem dX4_takeRiver_58 : decode cX4_takeRiver 58 = .ok (.iconst 0, 1) := by decide +kernel
theorem dX4_takeRiver_59 : decode cX4_takeRiver 59 = .ok (.istore_n 2, 1) := by decide +kernel
theorem dX4_takeRiver_60 : decode cX4_takeRiver 60 = .ok (.iload_n 2, 1) := by decide +kernel
theorem dX4_takeRiver_61 : decode cX4_takeRiver 61 = .ok (.aload_n 0, 1) := by decide +kernel
theorem dX4_takeRiver_62 : decode cX4_takeRiver 62 = .ok (.getfield 59, 3) := by decide +kernel
theorem dX4_takeRiver_65 : decode cX4_takeRiver 65 = .ok (.if_icmp .ge 29, 3) := by decide +kernel
theorem dX4_takeRiver_68 : decode cX4_takeRiver 68 = .ok (.aload_n 0, 1) := by decide +kernel
theorem dX4_takeRiver_69 : decode cX4_takeRiver 69 = .ok (.getfield 25, 3) := by decide +kernel
theorem dX4_takeRiver_72 : decode cX4_takeRiver 72 = .ok (.iconst 5, 1) := by decide +kernel
theorem dX4_takeRiver_73 : decode cX4_takeRiver 73 = .ok (.iload_n 1, 1) := by decide +kernel
theorem dX4_takeRiver_74 : decode cX4_takeRiver 74 = .ok (.imul, 1) := by decide +kernel
theorem dX4_takeRiver_75 : decode cX4_takeRiver 75 = .ok (.iload_n 2, 1) := by decide +kernel
theorem dX4_takeRiver_76 : decode cX4_takeRiver 76 = .ok (.iadd, 1) := by decide +kernel
theorem dX4_takeRiver_77 : decode cX4_takeRiver 77 = .ok (.aload_n 0, 1) := by decide +kernel
theorem dX4_takeRiver_78 : decode cX4_takeRiver 78 = .ok (.getfield 34, 3) := by decide +kernel
theorem dX4_takeRiver_81 : decode cX4_takeRiver 81 = .ok (.iconst 5, 1) := by decide +kernel
theorem dX4_takeRiver_82 : decode cX4_takeRiver 82 = .ok (.iload_n 1, 1) := by decide +kernel
theorem dX4_takeRiver_83 : decode cX4_takeRiver 83 = .ok (.imul, 1) := by decide +kernel
theorem dX4_takeRiver_84 : decode cX4_takeRiver 84 = .ok (.iload_n 2, 1) := by decide +kernel
theorem dX4_takeRiver_85 : decode cX4_takeRiver 85 = .ok (.iadd, 1) := by decide +kernel
theorem dX4_takeRiver_86 : decode cX4_takeRiver 86 = .ok (.iaload, 1) := by decide +kernel
theorem dX4_takeRiver_87 : decode cX4_takeRiver 87 = .ok (.iastore, 1) := by decide +kernel
theorem dX4_takeRiver_88 : decode cX4_takeRiver 88 = .ok (.iinc 2 1, 3) := by decide +kernel
theorem dX4_takeRiver_91 : decode cX4_takeRiver 91 = .ok (.goto (-31), 3) := by decide +kernel
theorem dX4_takeRiver_94 : decode cX4_takeRiver 94 = .ok (.iinc 1 1, 3) := by decide +kernel
theorem dX4_takeRiver_97 : decode cX4_takeRiver 97 = .ok (.goto (-71), 3) := by decide +kernel
theorem dX4_takeRiver_100 : decode cX4_takeRiver 100 = .ok (.aload_n 0, 1) := by decide +kernel
theorem dX4_takeRiver_101 : decode cX4_takeRiver 101 = .ok (.iconst 0, 1) := by decide +kernel
theorem dX4_takeRiver_102 : decode cX4_takeRiver 102 = .ok (.putfield 101, 3) := by decide +kernel
theorem dX4_takeRiver_105 : decode cX4_takeRiver 105 = .ok (.return_, 1) := by decide +kernel
theorem dX4_readRiver_0 : decode cX4_readRiver 0 = .ok (.aload_n 0, 1) := by decide +kernel
theorem dX4_readRiver_1 : decode cX4_readRiver 1 = .ok (.iload_n 1, 1) := by decide +kernel
theorem dX4_readRiver_2 : decode cX4_readRiver 2 = .ok (.bipush 111, 2) := by decide +kernel
theorem dX4_readRiver_4 : decode cX4_readRiver 4 = .ok (.invokevirtual 104, 3) := by decide +kernel
theorem dX4_readRiver_7 : decode cX4_readRiver 7 = .ok (.ifCond .ne 5, 3) := by decide +kernel
theorem dX4_readRiver_10 : decode cX4_readRiver 10 = .ok (.iconst 0, 1) := by decide +kernel
theorem dX4_readRiver_11 : decode cX4_readRiver 11 = .ok (.ireturn, 1) := by decide +kernel
theorem dX4_readRiver_12 : decode cX4_readRiver 12 = .ok (.aload_n 0, 1) := by decide +kernel
theorem dX4_readRiver_13 : decode cX4_readRiver 13 = .ok (.aload_n 0, 1) := by decide +kernel
theorem dX4_readRiver_14 : decode cX4_readRiver 14 = .ok (.iload_n 1, 1) := by decide +kernel
theorem dX4_readRiver_15 : decode cX4_readRiver 15 = .ok (.iconst 1, 1) := by decide +kernel
theorem dX4_readRiver_16 : decode cX4_readRiver 16 = .ok (.iconst 3, 1) := by decide +kernel
theorem dX4_readRiver_17 : decode cX4_readRiver 17 = .ok (.invokevirtual 108, 3) := by decide +kernel
theorem dX4_readRiver_20 : decode cX4_readRiver 20 = .ok (.putfield 89, 3) := by decide +kernel
theorem dX4_readRiver_23 : decode cX4_readRiver 23 = .ok (.aload_n 0, 1) := by decide +kernel
theorem dX4_readRiver_24 : decode cX4_readRiver 24 = .ok (.getfield 89, 3) := by decide +kernel
theorem dX4_readRiver_27 : decode cX4_readRiver 27 = .ok (.bipush (-9), 2) := by decide +kernel
theorem dX4_readRiver_29 : decode cX4_readRiver 29 = .ok (.if_icmp .ne 5, 3) := by decide +kernel
theorem dX4_readRiver_32 : decode cX4_readRiver 32 = .ok (.iconst 0, 1) := by decide +kernel
theorem dX4_readRiver_33 : decode cX4_readRiver 33 = .ok (.ireturn, 1) := by decide +kernel
theorem dX4_readRiver_34 : decode cX4_readRiver 34 = .ok (.aload_n 0, 1) := by decide +kernel
theorem dX4_readRiver_35 : decode cX4_readRiver 35 = .ok (.aload_n 0, 1) := by decide +kernel
theorem dX4_readRiver_36 : decode cX4_readRiver 36 = .ok (.iload_n 1, 1) := by decide +kernel
theorem dX4_readRiver_37 : decode cX4_readRiver 37 = .ok (.iconst 1, 1) := by decide +kernel
theorem dX4_readRiver_38 : decode cX4_readRiver 38 = .ok (.iconst 3, 1) := by decide +kernel
theorem dX4_readRiver_39 : decode cX4_readRiver 39 = .ok (.invokevirtual 108, 3) := by decide +kernel
theorem dX4_readRiver_42 : decode cX4_readRiver 42 = .ok (.putfield 95, 3) := by decide +kernel
theorem dX4_readRiver_45 : decode cX4_readRiver 45 = .ok (.aload_n 0, 1) := by decide +kernel
theorem dX4_readRiver_46 : decode cX4_readRiver 46 = .ok (.getfield 95, 3) := by decide +kernel
theorem dX4_readRiver_49 : decode cX4_readRiver 49 = .ok (.bipush (-9), 2) := by decide +kernel
theorem dX4_readRiver_51 : decode cX4_readRiver 51 = .ok (.if_icmp .ne 5, 3) := by decide +kernel
theorem dX4_readRiver_54 : decode cX4_readRiver 54 = .ok (.iconst 0, 1) := by decide +kernel
theorem dX4_readRiver_55 : decode cX4_readRiver 55 = .ok (.ireturn, 1) := by decide +kernel
theorem dX4_readRiver_56 : decode cX4_readRiver 56 = .ok (.aload_n 0, 1) := by decide +kernel
theorem dX4_readRiver_57 : decode cX4_readRiver 57 = .ok (.aload_n 0, 1) := by decide +kernel
theorem dX4_readRiver_58 : decode cX4_readRiver 58 = .ok (.iload_n 1, 1) := by decide +kernel
theorem dX4_readRiver_59 : decode cX4_readRiver 59 = .ok (.iconst 2, 1) := by decide +kernel
theorem dX4_readRiver_60 : decode cX4_readRiver 60 = .ok (.iconst 5, 1) := by decide +kernel
theorem dX4_readRiver_61 : decode cX4_readRiver 61 = .ok (.invokevirtual 108, 3) := by decide +kernel
theorem dX4_readRiver_64 : decode cX4_readRiver 64 = .ok (.putfield 86, 3) := by decide +kernel
theorem dX4_readRiver_67 : decode cX4_readRiver 67 = .ok (.aload_n 0, 1) := by decide +kernel
theorem dX4_readRiver_68 : decode cX4_readRiver 68 = .ok (.getfield 86, 3) := by decide +kernel
theorem dX4_readRiver_71 : decode cX4_readRiver 71 = .ok (.bipush (-9), 2) := by decide +kernel
theorem dX4_readRiver_73 : decode cX4_readRiver 73 = .ok (.if_icmp .ne 5, 3) := by decide +kernel
theorem dX4_readRiver_76 : decode cX4_readRiver 76 = .ok (.iconst 0, 1) := by decide +kernel
theorem dX4_readRiver_77 : decode cX4_readRiver 77 = .ok (.ireturn, 1) := by decide +kernel
theorem dX4_readRiver_78 : decode cX4_readRiver 78 = .ok (.iconst 0, 1) := by decide +kernel
theorem dX4_readRiver_79 : decode cX4_readRiver 79 = .ok (.istore_n 2, 1) := by decide +kernel
theorem dX4_readRiver_80 : decode cX4_readRiver 80 = .ok (.iload_n 2, 1) := by decide +kernel
theorem dX4_readRiver_81 : decode cX4_readRiver 81 = .ok (.aload_n 0, 1) := by decide +kernel
theorem dX4_readRiver_82 : decode cX4_readRiver 82 = .ok (.getfield 86, 3) := by decide +kernel
theorem dX4_readRiver_85 : decode cX4_readRiver 85 = .ok (.if_icmp .ge 30, 3) := by decide +kernel
theorem dX4_readRiver_88 : decode cX4_readRiver 88 = .ok (.aload_n 0, 1) := by decide +kernel
theorem dX4_readRiver_89 : decode cX4_readRiver 89 = .ok (.iload_n 1, 1) := by decide +kernel
theorem dX4_readRiver_90 : decode cX4_readRiver 90 = .ok (.bipush 44, 2) := by decide +kernel
theorem dX4_readRiver_92 : decode cX4_readRiver 92 = .ok (.invokevirtual 104, 3) := by decide +kernel
theorem dX4_readRiver_95 : decode cX4_readRiver 95 = .ok (.ifCond .eq 12, 3) := by decide +kernel
theorem dX4_readRiver_98 : decode cX4_readRiver 98 = .ok (.aload_n 0, 1) := by decide +kernel
theorem dX4_readRiver_99 : decode cX4_readRiver 99 = .ok (.iload_n 1, 1) := by decide +kernel
theorem dX4_readRiver_100 : decode cX4_readRiver 100 = .ok (.iload_n 2, 1) := by decide +kernel
theorem dX4_readRiver_101 : decode cX4_readRiver 101 = .ok (.invokevirtual 112, 3) := by decide +kernel
theorem dX4_readRiver_104 : decode cX4_readRiver 104 = .ok (.ifCond .ne 5, 3) := by decide +kernel
theorem dX4_readRiver_107 : decode cX4_readRiver 107 = .ok (.iconst 0, 1) := by decide +kernel
theorem dX4_readRiver_108 : decode cX4_readRiver 108 = .ok (.ireturn, 1) := by decide +kernel
theorem dX4_readRiver_109 : decode cX4_readRiver 109 = .ok (.iinc 2 1, 3) := by decide +kernel
theorem dX4_readRiver_112 : decode cX4_readRiver 112 = .ok (.goto (-32), 3) := by decide +kernel
theorem dX4_readRiver_115 : decode cX4_readRiver 115 = .ok (.aload_n 0, 1) := by decide +kernel
theorem dX4_readRiver_116 : decode cX4_readRiver 116 = .ok (.getfield 62, 3) := by decide +kernel
theorem dX4_readRiver_119 : decode cX4_readRiver 119 = .ok (.iload_n 1, 1) := by decide +kernel
theorem dX4_readRiver_120 : decode cX4_readRiver 120 = .ok (.if_icmp .ne 7, 3) := by decide +kernel
theorem dX4_readRiver_123 : decode cX4_readRiver 123 = .ok (.iconst 1, 1) := by decide +kernel
theorem dX4_readRiver_124 : decode cX4_readRiver 124 = .ok (.goto 4, 3) := by decide +kernel
theorem dX4_readRiver_127 : decode cX4_readRiver 127 = .ok (.iconst 0, 1) := by decide +kernel
theorem dX4_readRiver_128 : decode cX4_readRiver 128 = .ok (.ireturn, 1) := by decide +kernel
theorem dX4_readPerson_0 : decode cX4_readPerson 0 = .ok (.aload_n 0, 1) := by decide +kernel
theorem dX4_readPerson_1 : decode cX4_readPerson 1 = .ok (.getfield 62, 3) := by decide +kernel
theorem dX4_readPerson_4 : decode cX4_readPerson 4 = .ok (.iload_n 1, 1) := by decide +kernel
theorem dX4_readPerson_5 : decode cX4_readPerson 5 = .ok (.if_icmp .ge 15, 3) := by decide +kernel
theorem dX4_readPerson_8 : decode cX4_readPerson 8 = .ok (.aload_n 0, 1) := by decide +kernel
theorem dX4_readPerson_9 : decode cX4_readPerson 9 = .ok (.getfield 16, 3) := by decide +kernel
theorem dX4_readPerson_12 : decode cX4_readPerson 12 = .ok (.aload_n 0, 1) := by decide +kernel
theorem dX4_readPerson_13 : decode cX4_readPerson 13 = .ok (.getfield 62, 3) := by decide +kernel
theorem dX4_readPerson_16 : decode cX4_readPerson 16 = .ok (.iaload, 1) := by decide +kernel
theorem dX4_readPerson_17 : decode cX4_readPerson 17 = .ok (.goto 4, 3) := by decide +kernel
theorem dX4_readPerson_20 : decode cX4_readPerson 20 = .ok (.iconst 0, 1) := by decide +kernel
theorem dX4_readPerson_21 : decode cX4_readPerson 21 = .ok (.istore_n 3, 1) := by decide +kernel
theorem dX4_readPerson_22 : decode cX4_readPerson 22 = .ok (.aload_n 0, 1) := by decide +kernel
theorem dX4_readPerson_23 : decode cX4_readPerson 23 = .ok (.getfield 28, 3) := by decide +kernel
theorem dX4_readPerson_26 : decode cX4_readPerson 26 = .ok (.iload_n 2, 1) := by decide +kernel
theorem dX4_readPerson_27 : decode cX4_readPerson 27 = .ok (.iload_n 3, 1) := by decide +kernel
theorem dX4_readPerson_28 : decode cX4_readPerson 28 = .ok (.bipush 114, 2) := by decide +kernel
theorem dX4_readPerson_30 : decode cX4_readPerson 30 = .ok (.if_icmp .ne 7, 3) := by decide +kernel
theorem dX4_readPerson_33 : decode cX4_readPerson 33 = .ok (.iconst 0, 1) := by decide +kernel
theorem dX4_readPerson_34 : decode cX4_readPerson 34 = .ok (.goto 25, 3) := by decide +kernel
theorem dX4_readPerson_37 : decode cX4_readPerson 37 = .ok (.iload_n 3, 1) := by decide +kernel
theorem dX4_readPerson_38 : decode cX4_readPerson 38 = .ok (.bipush 102, 2) := by decide +kernel
theorem dX4_readPerson_40 : decode cX4_readPerson 40 = .ok (.if_icmp .ne 7, 3) := by decide +kernel
theorem dX4_readPerson_43 : decode cX4_readPerson 43 = .ok (.iconst 1, 1) := by decide +kernel
theorem dX4_readPerson_44 : decode cX4_readPerson 44 = .ok (.goto 15, 3) := by decide +kernel
theorem dX4_readPerson_47 : decode cX4_readPerson 47 = .ok (.iload_n 3, 1) := by decide +kernel
theorem dX4_readPerson_48 : decode cX4_readPerson 48 = .ok (.bipush 98, 2) := by decide +kernel
theorem dX4_readPerson_50 : decode cX4_readPerson 50 = .ok (.if_icmp .ne 7, 3) := by decide +kernel
theorem dX4_readPerson_53 : decode cX4_readPerson 53 = .ok (.iconst 2, 1) := by decide +kernel
theorem dX4_readPerson_54 : decode cX4_readPerson 54 = .ok (.goto 5, 3) := by decide +kernel
theorem dX4_readPerson_57 : decode cX4_readPerson 57 = .ok (.bipush (-9), 2) := by decide +kernel
theorem dX4_readPerson_59 : decode cX4_readPerson 59 = .ok (.iastore, 1) := by decide +kernel
theorem dX4_readPerson_60 : decode cX4_readPerson 60 = .ok (.aload_n 0, 1) := by decide +kernel
theorem dX4_readPerson_61 : decode cX4_readPerson 61 = .ok (.getfield 28, 3) := by decide +kernel
theorem dX4_readPerson_64 : decode cX4_readPerson 64 = .ok (.iload_n 2, 1) := by decide +kernel
theorem dX4_readPerson_65 : decode cX4_readPerson 65 = .ok (.iaload, 1) := by decide +kernel
theorem dX4_readPerson_66 : decode cX4_readPerson 66 = .ok (.bipush (-9), 2) := by decide +kernel
theorem dX4_readPerson_68 : decode cX4_readPerson 68 = .ok (.if_icmp .ne 5, 3) := by decide +kernel
theorem dX4_readPerson_71 : decode cX4_readPerson 71 = .ok (.iconst 0, 1) := by decide +kernel
theorem dX4_readPerson_72 : decode cX4_readPerson 72 = .ok (.ireturn, 1) := by decide +kernel
theorem dX4_readPerson_73 : decode cX4_readPerson 73 = .ok (.aload_n 0, 1) := by decide +kernel
theorem dX4_readPerson_74 : decode cX4_readPerson 74 = .ok (.dup, 1) := by decide +kernel
theorem dX4_readPerson_75 : decode cX4_readPerson 75 = .ok (.getfield 62, 3) := by decide +kernel
theorem dX4_readPerson_78 : decode cX4_readPerson 78 = .ok (.iconst 1, 1) := by decide +kernel
theorem dX4_readPerson_79 : decode cX4_readPerson 79 = .ok (.iadd, 1) := by decide +kernel
theorem dX4_readPerson_80 : decode cX4_readPerson 80 = .ok (.putfield 62, 3) := by decide +kernel
theorem dX4_readPerson_83 : decode cX4_readPerson 83 = .ok (.aload_n 0, 1) := by decide +kernel
theorem dX4_readPerson_84 : decode cX4_readPerson 84 = .ok (.getfield 31, 3) := by decide +kernel
theorem dX4_readPerson_87 : decode cX4_readPerson 87 = .ok (.iload_n 2, 1) := by decide +kernel
theorem dX4_readPerson_88 : decode cX4_readPerson 88 = .ok (.aload_n 0, 1) := by decide +kernel
theorem dX4_readPerson_89 : decode cX4_readPerson 89 = .ok (.iload_n 1, 1) := by decide +kernel
theorem dX4_readPerson_90 : decode cX4_readPerson 90 = .ok (.iconst 0, 1) := by decide +kernel
theorem dX4_readPerson_91 : decode cX4_readPerson 91 = .ok (.iconst 1, 1) := by decide +kernel
theorem dX4_readPerson_92 : decode cX4_readPerson 92 = .ok (.invokevirtual 108, 3) := by decide +kernel
theorem dX4_readPerson_95 : decode cX4_readPerson 95 = .ok (.iastore, 1) := by decide +kernel
theorem dX4_readPerson_96 : decode cX4_readPerson 96 = .ok (.aload_n 0, 1) := by decide +kernel
theorem dX4_readPerson_97 : decode cX4_readPerson 97 = .ok (.getfield 31, 3) := by decide +kernel
theorem dX4_readPerson_100 : decode cX4_readPerson 100 = .ok (.iload_n 2, 1) := by decide +kernel
theorem dX4_readPerson_101 : decode cX4_readPerson 101 = .ok (.iaload, 1) := by decide +kernel
theorem dX4_readPerson_102 : decode cX4_readPerson 102 = .ok (.bipush (-9), 2) := by decide +kernel
theorem dX4_readPerson_104 : decode cX4_readPerson 104 = .ok (.if_icmp .ne 5, 3) := by decide +kernel
theorem dX4_readPerson_107 : decode cX4_readPerson 107 = .ok (.iconst 0, 1) := by decide +kernel
theorem dX4_readPerson_108 : decode cX4_readPerson 108 = .ok (.ireturn, 1) := by decide +kernel
theorem dX4_readPerson_109 : decode cX4_readPerson 109 = .ok (.iconst 0, 1) := by decide +kernel
theorem dX4_readPerson_110 : decode cX4_readPerson 110 = .ok (.istore 4, 2) := by decide +kernel
theorem dX4_readPerson_112 : decode cX4_readPerson 112 = .ok (.iload 4, 2) := by decide +kernel
theorem dX4_readPerson_114 : decode cX4_readPerson 114 = .ok (.aload_n 0, 1) := by decide +kernel
theorem dX4_readPerson_115 : decode cX4_readPerson 115 = .ok (.getfield 86, 3) := by decide +kernel
theorem dX4_readPerson_118 : decode cX4_readPerson 118 = .ok (.if_icmp .ge 56, 3) := by decide +kernel
theorem dX4_readPerson_121 : decode cX4_readPerson 121 = .ok (.aload_n 0, 1) := by decide +kernel
theorem dX4_readPerson_122 : decode cX4_readPerson 122 = .ok (.getfield 34, 3) := by decide +kernel
theorem dX4_readPerson_125 : decode cX4_readPerson 125 = .ok (.iconst 5, 1) := by decide +kernel
theorem dX4_readPerson_126 : decode cX4_readPerson 126 = .ok (.iload_n 2, 1) := by decide +kernel
theorem dX4_readPerson_127 : decode cX4_readPerson 127 = .ok (.imul, 1) := by decide +kernel
theorem dX4_readPerson_128 : decode cX4_readPerson 128 = .ok (.iload 4, 2) := by decide +kernel
theorem dX4_readPerson_130 : decode cX4_readPerson 130 = .ok (.iadd, 1) := by decide +kernel
theorem dX4_readPerson_131 : decode cX4_readPerson 131 = .ok (.aload_n 0, 1) := by decide +kernel
theorem dX4_readPerson_132 : decode cX4_readPerson 132 = .ok (.iload_n 1, 1) := by decide +kernel
theorem dX4_readPerson_133 : decode cX4_readPerson 133 = .ok (.iconst 0, 1) := by decide +kernel
theorem dX4_readPerson_134 : decode cX4_readPerson 134 = .ok (.iload 4, 2) := by decide +kernel
theorem dX4_readPerson_136 : decode cX4_readPerson 136 = .ok (.iload_n 2, 1) := by decide +kernel
theorem dX4_readPerson_137 : decode cX4_readPerson 137 = .ok (.if_icmp .ne 7, 3) := by decide +kernel
theorem dX4_readPerson_140 : decode cX4_readPerson 140 = .ok (.iconst 0, 1) := by decide +kernel
theorem dX4_readPerson_141 : decode cX4_readPerson 141 = .ok (.goto 5, 3) := by decide +kernel
theorem dX4_readPerson_144 : decode cX4_readPerson 144 = .ok (.bipush 9, 2) := by decide +kernel
theorem dX4_readPerson_146 : decode cX4_readPerson 146 = .ok (.invokevirtual 108, 3) := by decide +kernel
theorem dX4_readPerson_149 : decode cX4_readPerson 149 = .ok (.iastore, 1) := by decide +kernel
theorem dX4_readPerson_150 : decode cX4_readPerson 150 = .ok (.aload_n 0, 1) := by decide +kernel
theorem dX4_readPerson_151 : decode cX4_readPerson 151 = .ok (.getfield 34, 3) := by decide +kernel
theorem dX4_readPerson_154 : decode cX4_readPerson 154 = .ok (.iconst 5, 1) := by decide +kernel
theorem dX4_readPerson_155 : decode cX4_readPerson 155 = .ok (.iload_n 2, 1) := by decide +kernel
theorem dX4_readPerson_156 : decode cX4_readPerson 156 = .ok (.imul, 1) := by decide +kernel
theorem dX4_readPerson_157 : decode cX4_readPerson 157 = .ok (.iload 4, 2) := by decide +kernel
theorem dX4_readPerson_159 : decode cX4_readPerson 159 = .ok (.iadd, 1) := by decide +kernel
theorem dX4_readPerson_160 : decode cX4_readPerson 160 = .ok (.iaload, 1) := by decide +kernel
theorem dX4_readPerson_161 : decode cX4_readPerson 161 = .ok (.bipush (-9), 2) := by decide +kernel
theorem dX4_readPerson_163 : decode cX4_readPerson 163 = .ok (.if_icmp .ne 5, 3) := by decide +kernel
theorem dX4_readPerson_166 : decode cX4_readPerson 166 = .ok (.iconst 0, 1) := by decide +kernel
theorem dX4_readPerson_167 : decode cX4_readPerson 167 = .ok (.ireturn, 1) := by decide +kernel
theorem dX4_readPerson_168 : decode cX4_readPerson 168 = .ok (.iinc 4 1, 3) := by decide +kernel
theorem dX4_readPerson_171 : decode cX4_readPerson 171 = .ok (.goto (-59), 3) := by decide +kernel
theorem dX4_readPerson_174 : decode cX4_readPerson 174 = .ok (.iconst 1, 1) := by decide +kernel
theorem dX4_readPerson_175 : decode cX4_readPerson 175 = .ok (.ireturn, 1) := by decide +kernel
theorem dX4_allOf_0 : decode cX4_allOf 0 = .ok (.iconst 0, 1) := by decide +kernel
theorem dX4_allOf_1 : decode cX4_allOf 1 = .ok (.istore_n 2, 1) := by decide +kernel
theorem dX4_allOf_2 : decode cX4_allOf 2 = .ok (.iconst 0, 1) := by decide +kernel
theorem dX4_allOf_3 : decode cX4_allOf 3 = .ok (.istore_n 3, 1) := by decide +kernel
theorem dX4_allOf_4 : decode cX4_allOf 4 = .ok (.iload_n 3, 1) := by decide +kernel
theorem dX4_allOf_5 : decode cX4_allOf 5 = .ok (.aload_n 0, 1) := by decide +kernel
theorem dX4_allOf_6 : decode cX4_allOf 6 = .ok (.getfield 59, 3) := by decide +kernel
theorem dX4_allOf_9 : decode cX4_allOf 9 = .ok (.if_icmp .ge 22, 3) := by decide +kernel
theorem dX4_allOf_12 : decode cX4_allOf 12 = .ok (.iload_n 2, 1) := by decide +kernel
theorem dX4_allOf_13 : decode cX4_allOf 13 = .ok (.aload_n 0, 1) := by decide +kernel
theorem dX4_allOf_14 : decode cX4_allOf 14 = .ok (.getfield 25, 3) := by decide +kernel
theorem dX4_allOf_17 : decode cX4_allOf 17 = .ok (.iconst 5, 1) := by decide +kernel
theorem dX4_allOf_18 : decode cX4_allOf 18 = .ok (.iload_n 1, 1) := by decide +kernel
theorem dX4_allOf_19 : decode cX4_allOf 19 = .ok (.imul, 1) := by decide +kernel
theorem dX4_allOf_20 : decode cX4_allOf 20 = .ok (.iload_n 3, 1) := by decide +kernel
theorem dX4_allOf_21 : decode cX4_allOf 21 = .ok (.iadd, 1) := by decide +kernel
theorem dX4_allOf_22 : decode cX4_allOf 22 = .ok (.iaload, 1) := by decide +kernel
theorem dX4_allOf_23 : decode cX4_allOf 23 = .ok (.iadd, 1) := by decide +kernel
theorem dX4_allOf_24 : decode cX4_allOf 24 = .ok (.istore_n 2, 1) := by decide +kernel
theorem dX4_allOf_25 : decode cX4_allOf 25 = .ok (.iinc 3 1, 3) := by decide +kernel
theorem dX4_allOf_28 : decode cX4_allOf 28 = .ok (.goto (-24), 3) := by decide +kernel
theorem dX4_allOf_31 : decode cX4_allOf 31 = .ok (.iload_n 2, 1) := by decide +kernel
theorem dX4_allOf_32 : decode cX4_allOf 32 = .ok (.ireturn, 1) := by decide +kernel
theorem dX4_ofPerson_0 : decode cX4_ofPerson 0 = .ok (.aload_n 0, 1) := by decide +kernel
theorem dX4_ofPerson_1 : decode cX4_ofPerson 1 = .ok (.iload_n 1, 1) := by decide +kernel
theorem dX4_ofPerson_2 : decode cX4_ofPerson 2 = .ok (.invokevirtual 115, 3) := by decide +kernel
theorem dX4_ofPerson_5 : decode cX4_ofPerson 5 = .ok (.ifCond .ne 5, 3) := by decide +kernel
theorem dX4_ofPerson_8 : decode cX4_ofPerson 8 = .ok (.iconst (-1), 1) := by decide +kernel
theorem dX4_ofPerson_9 : decode cX4_ofPerson 9 = .ok (.ireturn, 1) := by decide +kernel
theorem dX4_ofPerson_10 : decode cX4_ofPerson 10 = .ok (.iload_n 2, 1) := by decide +kernel
theorem dX4_ofPerson_11 : decode cX4_ofPerson 11 = .ok (.ifCond .ne 12, 3) := by decide +kernel
theorem dX4_ofPerson_14 : decode cX4_ofPerson 14 = .ok (.aload_n 0, 1) := by decide +kernel
theorem dX4_ofPerson_15 : decode cX4_ofPerson 15 = .ok (.getfield 19, 3) := by decide +kernel
theorem dX4_ofPerson_18 : decode cX4_ofPerson 18 = .ok (.iload_n 1, 1) := by decide +kernel
theorem dX4_ofPerson_19 : decode cX4_ofPerson 19 = .ok (.iaload, 1) := by decide +kernel
theorem dX4_ofPerson_20 : decode cX4_ofPerson 20 = .ok (.goto 32, 3) := by decide +kernel
theorem dX4_ofPerson_23 : decode cX4_ofPerson 23 = .ok (.iload_n 2, 1) := by decide +kernel
theorem dX4_ofPerson_24 : decode cX4_ofPerson 24 = .ok (.iconst 1, 1) := by decide +kernel
theorem dX4_ofPerson_25 : decode cX4_ofPerson 25 = .ok (.if_icmp .ne 12, 3) := by decide +kernel
theorem dX4_ofPerson_28 : decode cX4_ofPerson 28 = .ok (.aload_n 0, 1) := by decide +kernel
theorem dX4_ofPerson_29 : decode cX4_ofPerson 29 = .ok (.getfield 22, 3) := by decide +kernel
theorem dX4_ofPerson_32 : decode cX4_ofPerson 32 = .ok (.iload_n 1, 1) := by decide +kernel
theorem dX4_ofPerson_33 : decode cX4_ofPerson 33 = .ok (.iaload, 1) := by decide +kernel
theorem dX4_ofPerson_34 : decode cX4_ofPerson 34 = .ok (.goto 18, 3) := by decide +kernel
theorem dX4_ofPerson_37 : decode cX4_ofPerson 37 = .ok (.iload_n 2, 1) := by decide +kernel
theorem dX4_ofPerson_38 : decode cX4_ofPerson 38 = .ok (.iconst 2, 1) := by decide +kernel
theorem dX4_ofPerson_39 : decode cX4_ofPerson 39 = .ok (.if_icmp .ne 11, 3) := by decide +kernel
theorem dX4_ofPerson_42 : decode cX4_ofPerson 42 = .ok (.aload_n 0, 1) := by decide +kernel
theorem dX4_ofPerson_43 : decode cX4_ofPerson 43 = .ok (.iload_n 1, 1) := by decide +kernel
theorem dX4_ofPerson_44 : decode cX4_ofPerson 44 = .ok (.invokevirtual 118, 3) := by decide +kernel
theorem dX4_ofPerson_47 : decode cX4_ofPerson 47 = .ok (.goto 5, 3) := by decide +kernel
theorem dX4_ofPerson_50 : decode cX4_ofPerson 50 = .ok (.bipush (-2), 2) := by decide +kernel
theorem dX4_ofPerson_52 : decode cX4_ofPerson 52 = .ok (.ireturn, 1) := by decide +kernel
theorem dX4_owes_0 : decode cX4_owes 0 = .ok (.aload_n 0, 1) := by decide +kernel
theorem dX4_owes_1 : decode cX4_owes 1 = .ok (.iload_n 1, 1) := by decide +kernel
theorem dX4_owes_2 : decode cX4_owes 2 = .ok (.invokevirtual 115, 3) := by decide +kernel
theorem dX4_owes_5 : decode cX4_owes 5 = .ok (.ifCond .eq 24, 3) := by decide +kernel
theorem dX4_owes_8 : decode cX4_owes 8 = .ok (.aload_n 0, 1) := by decide +kernel
theorem dX4_owes_9 : decode cX4_owes 9 = .ok (.iload_n 2, 1) := by decide +kernel
theorem dX4_owes_10 : decode cX4_owes 10 = .ok (.invokevirtual 115, 3) := by decide +kernel
theorem dX4_owes_13 : decode cX4_owes 13 = .ok (.ifCond .eq 16, 3) := by decide +kernel
theorem dX4_owes_16 : decode cX4_owes 16 = .ok (.aload_n 0, 1) := by decide +kernel
theorem dX4_owes_17 : decode cX4_owes 17 = .ok (.getfield 25, 3) := by decide +kernel
theorem dX4_owes_20 : decode cX4_owes 20 = .ok (.iconst 5, 1) := by decide +kernel
theorem dX4_owes_21 : decode cX4_owes 21 = .ok (.iload_n 1, 1) := by decide +kernel
theorem dX4_owes_22 : decode cX4_owes 22 = .ok (.imul, 1) := by decide +kernel
theorem dX4_owes_23 : decode cX4_owes 23 = .ok (.iload_n 2, 1) := by decide +kernel
theorem dX4_owes_24 : decode cX4_owes 24 = .ok (.iadd, 1) := by decide +kernel
theorem dX4_owes_25 : decode cX4_owes 25 = .ok (.iaload, 1) := by decide +kernel
theorem dX4_owes_26 : decode cX4_owes 26 = .ok (.goto 4, 3) := by decide +kernel
theorem dX4_owes_29 : decode cX4_owes 29 = .ok (.iconst (-1), 1) := by decide +kernel
theorem dX4_owes_30 : decode cX4_owes 30 = .ok (.ireturn, 1) := by decide +kernel
theorem dX4_isNote_0 : decode cX4_isNote 0 = .ok (.aload_n 0, 1) := by decide +kernel
theorem dX4_isNote_1 : decode cX4_isNote 1 = .ok (.iload_n 1, 1) := by decide +kernel
theorem dX4_isNote_2 : decode cX4_isNote 2 = .ok (.invokevirtual 115, 3) := by decide +kernel
theorem dX4_isNote_5 : decode cX4_isNote 5 = .ok (.ifCond .eq 20, 3) := by decide +kernel
theorem dX4_isNote_8 : decode cX4_isNote 8 = .ok (.aload_n 0, 1) := by decide +kernel
theorem dX4_isNote_9 : decode cX4_isNote 9 = .ok (.iload_n 2, 1) := by decide +kernel
theorem dX4_isNote_10 : decode cX4_isNote 10 = .ok (.invokevirtual 115, 3) := by decide +kernel
theorem dX4_isNote_13 : decode cX4_isNote 13 = .ok (.ifCond .eq 12, 3) := by decide +kernel
theorem dX4_isNote_16 : decode cX4_isNote 16 = .ok (.iload_n 1, 1) := by decide +kernel
theorem dX4_isNote_17 : decode cX4_isNote 17 = .ok (.iload_n 2, 1) := by decide +kernel
theorem dX4_isNote_18 : decode cX4_isNote 18 = .ok (.if_icmp .eq 7, 3) := by decide +kernel
theorem dX4_isNote_21 : decode cX4_isNote 21 = .ok (.iconst 1, 1) := by decide +kernel
theorem dX4_isNote_22 : decode cX4_isNote 22 = .ok (.goto 4, 3) := by decide +kernel
theorem dX4_isNote_25 : decode cX4_isNote 25 = .ok (.iconst 0, 1) := by decide +kernel
theorem dX4_isNote_26 : decode cX4_isNote 26 = .ok (.ireturn, 1) := by decide +kernel
theorem dX4_lend_0 : decode cX4_lend 0 = .ok (.aload_n 0, 1) := by decide +kernel
theorem dX4_lend_1 : decode cX4_lend 1 = .ok (.iload_n 1, 1) := by decide +kernel
theorem dX4_lend_2 : decode cX4_lend 2 = .ok (.iload_n 2, 1) := by decide +kernel
theorem dX4_lend_3 : decode cX4_lend 3 = .ok (.invokevirtual 121, 3) := by decide +kernel
theorem dX4_lend_6 : decode cX4_lend 6 = .ok (.ifCond .ne 5, 3) := by decide +kernel
theorem dX4_lend_9 : decode cX4_lend 9 = .ok (.iconst (-1), 1) := by decide +kernel
theorem dX4_lend_10 : decode cX4_lend 10 = .ok (.ireturn, 1) := by decide +kernel
theorem dX4_lend_11 : decode cX4_lend 11 = .ok (.iload_n 3, 1) := by decide +kernel
theorem dX4_lend_12 : decode cX4_lend 12 = .ok (.iconst 0, 1) := by decide +kernel
theorem dX4_lend_13 : decode cX4_lend 13 = .ok (.bipush 9, 2) := by decide +kernel
theorem dX4_lend_15 : decode cX4_lend 15 = .ok (.invokestatic 55, 3) := by decide +kernel
theorem dX4_lend_18 : decode cX4_lend 18 = .ok (.ifCond .ne 6, 3) := by decide +kernel
theorem dX4_lend_21 : decode cX4_lend 21 = .ok (.bipush (-2), 2) := by decide +kernel
theorem dX4_lend_23 : decode cX4_lend 23 = .ok (.ireturn, 1) := by decide +kernel
theorem dX4_lend_24 : decode cX4_lend 24 = .ok (.aload_n 0, 1) := by decide +kernel
theorem dX4_lend_25 : decode cX4_lend 25 = .ok (.getfield 25, 3) := by decide +kernel
theorem dX4_lend_28 : decode cX4_lend 28 = .ok (.iconst 5, 1) := by decide +kernel
theorem dX4_lend_29 : decode cX4_lend 29 = .ok (.iload_n 1, 1) := by decide +kernel
theorem dX4_lend_30 : decode cX4_lend 30 = .ok (.imul, 1) := by decide +kernel
theorem dX4_lend_31 : decode cX4_lend 31 = .ok (.iload_n 2, 1) := by decide +kernel
theorem dX4_lend_32 : decode cX4_lend 32 = .ok (.iadd, 1) := by decide +kernel
theorem dX4_lend_33 : decode cX4_lend 33 = .ok (.iaload, 1) := by decide +kernel
theorem dX4_lend_34 : decode cX4_lend 34 = .ok (.istore 4, 2) := by decide +kernel
theorem dX4_lend_36 : decode cX4_lend 36 = .ok (.aload_n 0, 1) := by decide +kernel
theorem dX4_lend_37 : decode cX4_lend 37 = .ok (.getfield 25, 3) := by decide +kernel
theorem dX4_lend_40 : decode cX4_lend 40 = .ok (.iconst 5, 1) := by decide +kernel
theorem dX4_lend_41 : decode cX4_lend 41 = .ok (.iload_n 1, 1) := by decide +kernel
theorem dX4_lend_42 : decode cX4_lend 42 = .ok (.imul, 1) := by decide +kernel
theorem dX4_lend_43 : decode cX4_lend 43 = .ok (.iload_n 2, 1) := by decide +kernel
theorem dX4_lend_44 : decode cX4_lend 44 = .ok (.iadd, 1) := by decide +kernel
theorem dX4_lend_45 : decode cX4_lend 45 = .ok (.iload_n 3, 1) := by decide +kernel
theorem dX4_lend_46 : decode cX4_lend 46 = .ok (.iastore, 1) := by decide +kernel
theorem dX4_lend_47 : decode cX4_lend 47 = .ok (.iload 4, 2) := by decide +kernel
theorem dX4_lend_49 : decode cX4_lend 49 = .ok (.ireturn, 1) := by decide +kernel
theorem dX4_count_0 : decode cX4_count 0 = .ok (.iload_n 1, 1) := by decide +kernel
theorem dX4_count_1 : decode cX4_count 1 = .ok (.iconst 1, 1) := by decide +kernel
theorem dX4_count_2 : decode cX4_count 2 = .ok (.iconst 3, 1) := by decide +kernel
theorem dX4_count_3 : decode cX4_count 3 = .ok (.invokestatic 55, 3) := by decide +kernel
theorem dX4_count_6 : decode cX4_count 6 = .ok (.ifCond .ne 6, 3) := by decide +kernel
theorem dX4_count_9 : decode cX4_count 9 = .ok (.bipush (-2), 2) := by decide +kernel
theorem dX4_count_11 : decode cX4_count 11 = .ok (.ireturn, 1) := by decide +kernel
theorem dX4_count_12 : decode cX4_count 12 = .ok (.aload_n 0, 1) := by decide +kernel
theorem dX4_count_13 : decode cX4_count 13 = .ok (.getfield 59, 3) := by decide +kernel
theorem dX4_count_16 : decode cX4_count 16 = .ok (.ifCond .ne 6, 3) := by decide +kernel
theorem dX4_count_19 : decode cX4_count 19 = .ok (.bipush (-3), 2) := by decide +kernel
theorem dX4_count_21 : decode cX4_count 21 = .ok (.ireturn, 1) := by decide +kernel
theorem dX4_count_22 : decode cX4_count 22 = .ok (.aload_n 0, 1) := by decide +kernel
theorem dX4_count_23 : decode cX4_count 23 = .ok (.getfield 98, 3) := by decide +kernel
theorem dX4_count_26 : decode cX4_count 26 = .ok (.istore_n 2, 1) := by decide +kernel
theorem dX4_count_27 : decode cX4_count 27 = .ok (.aload_n 0, 1) := by decide +kernel
theorem dX4_count_28 : decode cX4_count 28 = .ok (.iload_n 1, 1) := by decide +kernel
theorem dX4_count_29 : decode cX4_count 29 = .ok (.putfield 98, 3) := by decide +kernel
theorem dX4_count_32 : decode cX4_count 32 = .ok (.iload_n 2, 1) := by decide +kernel
theorem dX4_count_33 : decode cX4_count 33 = .ok (.ireturn, 1) := by decide +kernel
theorem dX4_build_0 : decode cX4_build 0 = .ok (.iload_n 1, 1) := by decide +kernel
theorem dX4_build_1 : decode cX4_build 1 = .ok (.iconst 1, 1) := by decide +kernel
theorem dX4_build_2 : decode cX4_build 2 = .ok (.iconst 3, 1) := by decide +kernel
theorem dX4_build_3 : decode cX4_build 3 = .ok (.invokestatic 55, 3) := by decide +kernel
theorem dX4_build_6 : decode cX4_build 6 = .ok (.ifCond .ne 6, 3) := by decide +kernel
theorem dX4_build_9 : decode cX4_build 9 = .ok (.bipush (-2), 2) := by decide +kernel
theorem dX4_build_11 : decode cX4_build 11 = .ok (.ireturn, 1) := by decide +kernel
theorem dX4_build_12 : decode cX4_build 12 = .ok (.aload_n 0, 1) := by decide +kernel
theorem dX4_build_13 : decode cX4_build 13 = .ok (.getfield 59, 3) := by decide +kernel
theorem dX4_build_16 : decode cX4_build 16 = .ok (.ifCond .ne 6, 3) := by decide +kernel
theorem dX4_build_19 : decode cX4_build 19 = .ok (.bipush (-3), 2) := by decide +kernel
theorem dX4_build_21 : decode cX4_build 21 = .ok (.ireturn, 1) := by decide +kernel
theorem dX4_build_22 : decode cX4_build 22 = .ok (.aload_n 0, 1) := by decide +kernel
theorem dX4_build_23 : decode cX4_build 23 = .ok (.getfield 92, 3) := by decide +kernel
theorem dX4_build_26 : decode cX4_build 26 = .ok (.istore_n 2, 1) := by decide +kernel
theorem dX4_build_27 : decode cX4_build 27 = .ok (.aload_n 0, 1) := by decide +kernel
theorem dX4_build_28 : decode cX4_build 28 = .ok (.iload_n 1, 1) := by decide +kernel
theorem dX4_build_29 : decode cX4_build 29 = .ok (.putfield 92, 3) := by decide +kernel
theorem dX4_build_32 : decode cX4_build 32 = .ok (.iload_n 2, 1) := by decide +kernel
theorem dX4_build_33 : decode cX4_build 33 = .ok (.ireturn, 1) := by decide +kernel
theorem dX4_debtOf_0 : decode cX4_debtOf 0 = .ok (.iconst 0, 1) := by decide +kernel
theorem dX4_debtOf_1 : decode cX4_debtOf 1 = .ok (.istore_n 3, 1) := by decide +kernel
theorem dX4_debtOf_2 : decode cX4_debtOf 2 = .ok (.iconst 0, 1) := by decide +kernel
theorem dX4_debtOf_3 : decode cX4_debtOf 3 = .ok (.istore 4, 2) := by decide +kernel
theorem dX4_debtOf_5 : decode cX4_debtOf 5 = .ok (.iload 4, 2) := by decide +kernel
theorem dX4_debtOf_7 : decode cX4_debtOf 7 = .ok (.aload_n 0, 1) := by decide +kernel
theorem dX4_debtOf_8 : decode cX4_debtOf 8 = .ok (.getfield 59, 3) := by decide +kernel
theorem dX4_debtOf_11 : decode cX4_debtOf 11 = .ok (.if_icmp .ge 73, 3) := by decide +kernel
theorem dX4_debtOf_14 : decode cX4_debtOf 14 = .ok (.aload_n 0, 1) := by decide +kernel
theorem dX4_debtOf_15 : decode cX4_debtOf 15 = .ok (.getfield 124, 3) := by decide +kernel
theorem dX4_debtOf_18 : decode cX4_debtOf 18 = .ok (.iload_n 1, 1) := by decide +kernel
theorem dX4_debtOf_19 : decode cX4_debtOf 19 = .ok (.invokestatic 127, 3) := by decide +kernel
theorem dX4_debtOf_22 : decode cX4_debtOf 22 = .ok (.ifCond .ne 15, 3) := by decide +kernel
theorem dX4_debtOf_25 : decode cX4_debtOf 25 = .ok (.aload_n 0, 1) := by decide +kernel
theorem dX4_debtOf_26 : decode cX4_debtOf 26 = .ok (.getfield 130, 3) := by decide +kernel
theorem dX4_debtOf_29 : decode cX4_debtOf 29 = .ok (.iload 4, 2) := by decide +kernel
theorem dX4_debtOf_31 : decode cX4_debtOf 31 = .ok (.invokestatic 127, 3) := by decide +kernel
theorem dX4_debtOf_34 : decode cX4_debtOf 34 = .ok (.ifCond .eq 7, 3) := by decide +kernel
theorem dX4_debtOf_37 : decode cX4_debtOf 37 = .ok (.iconst 0, 1) := by decide +kernel
theorem dX4_debtOf_38 : decode cX4_debtOf 38 = .ok (.goto 14, 3) := by decide +kernel
theorem dX4_debtOf_41 : decode cX4_debtOf 41 = .ok (.aload_n 0, 1) := by decide +kernel
theorem dX4_debtOf_42 : decode cX4_debtOf 42 = .ok (.getfield 25, 3) := by decide +kernel
theorem dX4_debtOf_45 : decode cX4_debtOf 45 = .ok (.iconst 5, 1) := by decide +kernel
theorem dX4_debtOf_46 : decode cX4_debtOf 46 = .ok (.iload_n 1, 1) := by decide +kernel
theorem dX4_debtOf_47 : decode cX4_debtOf 47 = .ok (.imul, 1) := by decide +kernel
theorem dX4_debtOf_48 : decode cX4_debtOf 48 = .ok (.iload 4, 2) := by decide +kernel
theorem dX4_debtOf_50 : decode cX4_debtOf 50 = .ok (.iadd, 1) := by decide +kernel
theorem dX4_debtOf_51 : decode cX4_debtOf 51 = .ok (.iaload, 1) := by decide +kernel
theorem dX4_debtOf_52 : decode cX4_debtOf 52 = .ok (.istore 5, 2) := by decide +kernel
theorem dX4_debtOf_54 : decode cX4_debtOf 54 = .ok (.iload_n 3, 1) := by decide +kernel
theorem dX4_debtOf_55 : decode cX4_debtOf 55 = .ok (.iload_n 2, 1) := by decide +kernel
theorem dX4_debtOf_56 : decode cX4_debtOf 56 = .ok (.iload 4, 2) := by decide +kernel
theorem dX4_debtOf_58 : decode cX4_debtOf 58 = .ok (.invokestatic 127, 3) := by decide +kernel
theorem dX4_debtOf_61 : decode cX4_debtOf 61 = .ok (.ifCond .eq 13, 3) := by decide +kernel
theorem dX4_debtOf_64 : decode cX4_debtOf 64 = .ok (.aload_n 0, 1) := by decide +kernel
theorem dX4_debtOf_65 : decode cX4_debtOf 65 = .ok (.getfield 98, 3) := by decide +kernel
theorem dX4_debtOf_68 : decode cX4_debtOf 68 = .ok (.iload 5, 2) := by decide +kernel
theorem dX4_debtOf_70 : decode cX4_debtOf 70 = .ok (.imul, 1) := by decide +kernel
theorem dX4_debtOf_71 : decode cX4_debtOf 71 = .ok (.goto 5, 3) := by decide +kernel
theorem dX4_debtOf_74 : decode cX4_debtOf 74 = .ok (.iload 5, 2) := by decide +kernel
theorem dX4_debtOf_76 : decode cX4_debtOf 76 = .ok (.iadd, 1) := by decide +kernel
theorem dX4_debtOf_77 : decode cX4_debtOf 77 = .ok (.istore_n 3, 1) := by decide +kernel
theorem dX4_debtOf_78 : decode cX4_debtOf 78 = .ok (.iinc 4 1, 3) := by decide +kernel
theorem dX4_debtOf_81 : decode cX4_debtOf 81 = .ok (.goto (-76), 3) := by decide +kernel
theorem dX4_debtOf_84 : decode cX4_debtOf 84 = .ok (.aload_n 0, 1) := by decide +kernel
theorem dX4_debtOf_85 : decode cX4_debtOf 85 = .ok (.getfield 19, 3) := by decide +kernel
theorem dX4_debtOf_88 : decode cX4_debtOf 88 = .ok (.iload_n 1, 1) := by decide +kernel
theorem dX4_debtOf_89 : decode cX4_debtOf 89 = .ok (.iaload, 1) := by decide +kernel
theorem dX4_debtOf_90 : decode cX4_debtOf 90 = .ok (.iconst 1, 1) := by decide +kernel
theorem dX4_debtOf_91 : decode cX4_debtOf 91 = .ok (.if_icmp .ne 15, 3) := by decide +kernel
theorem dX4_debtOf_94 : decode cX4_debtOf 94 = .ok (.iload_n 3, 1) := by decide +kernel
theorem dX4_debtOf_95 : decode cX4_debtOf 95 = .ok (.ifCond .le 9, 3) := by decide +kernel
theorem dX4_debtOf_98 : decode cX4_debtOf 98 = .ok (.iload_n 3, 1) := by decide +kernel
theorem dX4_debtOf_99 : decode cX4_debtOf 99 = .ok (.iconst 1, 1) := by decide +kernel
theorem dX4_debtOf_100 : decode cX4_debtOf 100 = .ok (.isub, 1) := by decide +kernel
theorem dX4_debtOf_101 : decode cX4_debtOf 101 = .ok (.goto 4, 3) := by decide +kernel
theorem dX4_debtOf_104 : decode cX4_debtOf 104 = .ok (.iconst 0, 1) := by decide +kernel
theorem dX4_debtOf_105 : decode cX4_debtOf 105 = .ok (.ireturn, 1) := by decide +kernel
theorem dX4_debtOf_106 : decode cX4_debtOf 106 = .ok (.aload_n 0, 1) := by decide +kernel
theorem dX4_debtOf_107 : decode cX4_debtOf 107 = .ok (.getfield 19, 3) := by decide +kernel
theorem dX4_debtOf_110 : decode cX4_debtOf 110 = .ok (.iload_n 1, 1) := by decide +kernel
theorem dX4_debtOf_111 : decode cX4_debtOf 111 = .ok (.iaload, 1) := by decide +kernel
theorem dX4_debtOf_112 : decode cX4_debtOf 112 = .ok (.ifCond .ne 7, 3) := by decide +kernel
theorem dX4_debtOf_115 : decode cX4_debtOf 115 = .ok (.iload_n 3, 1) := by decide +kernel
theorem dX4_debtOf_116 : decode cX4_debtOf 116 = .ok (.goto 6, 3) := by decide +kernel
theorem dX4_debtOf_119 : decode cX4_debtOf 119 = .ok (.iload_n 3, 1) := by decide +kernel
theorem dX4_debtOf_120 : decode cX4_debtOf 120 = .ok (.iconst 2, 1) := by decide +kernel
theorem dX4_debtOf_121 : decode cX4_debtOf 121 = .ok (.idiv, 1) := by decide +kernel
theorem dX4_debtOf_122 : decode cX4_debtOf 122 = .ok (.ireturn, 1) := by decide +kernel
theorem dX4_pullersOf_0 : decode cX4_pullersOf 0 = .ok (.iconst 1, 1) := by decide +kernel
theorem dX4_pullersOf_1 : decode cX4_pullersOf 1 = .ok (.istore_n 2, 1) := by decide +kernel
theorem dX4_pullersOf_2 : decode cX4_pullersOf 2 = .ok (.iconst 0, 1) := by decide +kernel
theorem dX4_pullersOf_3 : decode cX4_pullersOf 3 = .ok (.istore_n 3, 1) := by decide +kernel
theorem dX4_pullersOf_4 : decode cX4_pullersOf 4 = .ok (.iconst 0, 1) := by decide +kernel
theorem dX4_pullersOf_5 : decode cX4_pullersOf 5 = .ok (.istore 4, 2) := by decide +kernel
theorem dX4_pullersOf_7 : decode cX4_pullersOf 7 = .ok (.iload 4, 2) := by decide +kernel
theorem dX4_pullersOf_9 : decode cX4_pullersOf 9 = .ok (.aload_n 0, 1) := by decide +kernel
theorem dX4_pullersOf_10 : decode cX4_pullersOf 10 = .ok (.getfield 59, 3) := by decide +kernel
theorem dX4_pullersOf_13 : decode cX4_pullersOf 13 = .ok (.if_icmp .ge 59, 3) := by decide +kernel
theorem dX4_pullersOf_16 : decode cX4_pullersOf 16 = .ok (.iload_n 1, 1) := by decide +kernel
theorem dX4_pullersOf_17 : decode cX4_pullersOf 17 = .ok (.iload 4, 2) := by decide +kernel
theorem dX4_pullersOf_19 : decode cX4_pullersOf 19 = .ok (.invokestatic 127, 3) := by decide +kernel
theorem dX4_pullersOf_22 : decode cX4_pullersOf 22 = .ok (.ifCond .eq 13, 3) := by decide +kernel
theorem dX4_pullersOf_25 : decode cX4_pullersOf 25 = .ok (.aload_n 0, 1) := by decide +kernel
theorem dX4_pullersOf_26 : decode cX4_pullersOf 26 = .ok (.iload 4, 2) := by decide +kernel
theorem dX4_pullersOf_28 : decode cX4_pullersOf 28 = .ok (.iload_n 1, 1) := by decide +kernel
theorem dX4_pullersOf_29 : decode cX4_pullersOf 29 = .ok (.invokevirtual 133, 3) := by decide +kernel
theorem dX4_pullersOf_32 : decode cX4_pullersOf 32 = .ok (.goto 4, 3) := by decide +kernel
theorem dX4_pullersOf_35 : decode cX4_pullersOf 35 = .ok (.iconst 0, 1) := by decide +kernel
theorem dX4_pullersOf_36 : decode cX4_pullersOf 36 = .ok (.istore 5, 2) := by decide +kernel
theorem dX4_pullersOf_38 : decode cX4_pullersOf 38 = .ok (.iload 5, 2) := by decide +kernel
theorem dX4_pullersOf_40 : decode cX4_pullersOf 40 = .ok (.iload_n 2, 1) := by decide +kernel
theorem dX4_pullersOf_41 : decode cX4_pullersOf 41 = .ok (.if_icmp .le 8, 3) := by decide +kernel
theorem dX4_pullersOf_44 : decode cX4_pullersOf 44 = .ok (.iload 5, 2) := by decide +kernel
theorem dX4_pullersOf_46 : decode cX4_pullersOf 46 = .ok (.istore_n 2, 1) := by decide +kernel
theorem dX4_pullersOf_47 : decode cX4_pullersOf 47 = .ok (.iconst 0, 1) := by decide +kernel
theorem dX4_pullersOf_48 : decode cX4_pullersOf 48 = .ok (.istore_n 3, 1) := by decide +kernel
theorem dX4_pullersOf_49 : decode cX4_pullersOf 49 = .ok (.iload_n 3, 1) := by decide +kernel
theorem dX4_pullersOf_50 : decode cX4_pullersOf 50 = .ok (.iload 5, 2) := by decide +kernel
theorem dX4_pullersOf_52 : decode cX4_pullersOf 52 = .ok (.iload_n 2, 1) := by decide +kernel
theorem dX4_pullersOf_53 : decode cX4_pullersOf 53 = .ok (.if_icmp .ne 10, 3) := by decide +kernel
theorem dX4_pullersOf_56 : decode cX4_pullersOf 56 = .ok (.iconst 1, 1) := by decide +kernel
theorem dX4_pullersOf_57 : decode cX4_pullersOf 57 = .ok (.iload 4, 2) := by decide +kernel
theorem dX4_pullersOf_59 : decode cX4_pullersOf 59 = .ok (.ishl, 1) := by decide +kernel
theorem dX4_pullersOf_60 : decode cX4_pullersOf 60 = .ok (.goto 4, 3) := by decide +kernel
theorem dX4_pullersOf_63 : decode cX4_pullersOf 63 = .ok (.iconst 0, 1) := by decide +kernel
theorem dX4_pullersOf_64 : decode cX4_pullersOf 64 = .ok (.ior, 1) := by decide +kernel
theorem dX4_pullersOf_65 : decode cX4_pullersOf 65 = .ok (.istore_n 3, 1) := by decide +kernel
theorem dX4_pullersOf_66 : decode cX4_pullersOf 66 = .ok (.iinc 4 1, 3) := by decide +kernel
theorem dX4_pullersOf_69 : decode cX4_pullersOf 69 = .ok (.goto (-62), 3) := by decide +kernel
theorem dX4_pullersOf_72 : decode cX4_pullersOf 72 = .ok (.iload_n 3, 1) := by decide +kernel
theorem dX4_pullersOf_73 : decode cX4_pullersOf 73 = .ok (.ireturn, 1) := by decide +kernel
theorem dX4_size_0 : decode cX4_size 0 = .ok (.iconst 0, 1) := by decide +kernel
theorem dX4_size_1 : decode cX4_size 1 = .ok (.istore_n 1, 1) := by decide +kernel
theorem dX4_size_2 : decode cX4_size 2 = .ok (.iload_n 0, 1) := by decide +kernel
theorem dX4_size_3 : decode cX4_size 3 = .ok (.istore_n 2, 1) := by decide +kernel
theorem dX4_size_4 : decode cX4_size 4 = .ok (.iload_n 2, 1) := by decide +kernel
theorem dX4_size_5 : decode cX4_size 5 = .ok (.ifCond .le 16, 3) := by decide +kernel
theorem dX4_size_8 : decode cX4_size 8 = .ok (.iload_n 1, 1) := by decide +kernel
theorem dX4_size_9 : decode cX4_size 9 = .ok (.iload_n 2, 1) := by decide +kernel
theorem dX4_size_10 : decode cX4_size 10 = .ok (.iconst 1, 1) := by decide +kernel
theorem dX4_size_11 : decode cX4_size 11 = .ok (.iand, 1) := by decide +kernel
theorem dX4_size_12 : decode cX4_size 12 = .ok (.iadd, 1) := by decide +kernel
theorem dX4_size_13 : decode cX4_size 13 = .ok (.istore_n 1, 1) := by decide +kernel
theorem dX4_size_14 : decode cX4_size 14 = .ok (.iload_n 2, 1) := by decide +kernel
theorem dX4_size_15 : decode cX4_size 15 = .ok (.iconst 1, 1) := by decide +kernel
theorem dX4_size_16 : decode cX4_size 16 = .ok (.ishr, 1) := by decide +kernel
theorem dX4_size_17 : decode cX4_size 17 = .ok (.istore_n 2, 1) := by decide +kernel
theorem dX4_size_18 : decode cX4_size 18 = .ok (.goto (-14), 3) := by decide +kernel
theorem dX4_size_21 : decode cX4_size 21 = .ok (.iload_n 1, 1) := by decide +kernel
theorem dX4_size_22 : decode cX4_size 22 = .ok (.ireturn, 1) := by decide +kernel
theorem dX4_isFair_0 : decode cX4_isFair 0 = .ok (.aload_n 0, 1) := by decide +kernel
theorem dX4_isFair_1 : decode cX4_isFair 1 = .ok (.iload_n 1, 1) := by decide +kernel
theorem dX4_isFair_2 : decode cX4_isFair 2 = .ok (.invokevirtual 137, 3) := by decide +kernel
theorem dX4_isFair_5 : decode cX4_isFair 5 = .ok (.istore_n 2, 1) := by decide +kernel
theorem dX4_isFair_6 : decode cX4_isFair 6 = .ok (.iload_n 1, 1) := by decide +kernel
theorem dX4_isFair_7 : decode cX4_isFair 7 = .ok (.ifCond .eq 22, 3) := by decide +kernel
theorem dX4_isFair_10 : decode cX4_isFair 10 = .ok (.iload_n 1, 1) := by decide +kernel
theorem dX4_isFair_11 : decode cX4_isFair 11 = .ok (.invokestatic 140, 3) := by decide +kernel
theorem dX4_isFair_14 : decode cX4_isFair 14 = .ok (.aload_n 0, 1) := by decide +kernel
theorem dX4_isFair_15 : decode cX4_isFair 15 = .ok (.getfield 92, 3) := by decide +kernel
theorem dX4_isFair_18 : decode cX4_isFair 18 = .ok (.if_icmp .gt 11, 3) := by decide +kernel
theorem dX4_isFair_21 : decode cX4_isFair 21 = .ok (.iload_n 2, 1) := by decide +kernel
theorem dX4_isFair_22 : decode cX4_isFair 22 = .ok (.invokestatic 140, 3) := by decide +kernel
theorem dX4_isFair_25 : decode cX4_isFair 25 = .ok (.iconst 1, 1) := by decide +kernel
theorem dX4_isFair_26 : decode cX4_isFair 26 = .ok (.if_icmp .eq 5, 3) := by decide +kernel
theorem dX4_isFair_29 : decode cX4_isFair 29 = .ok (.iconst 0, 1) := by decide +kernel
theorem dX4_isFair_30 : decode cX4_isFair 30 = .ok (.ireturn, 1) := by decide +kernel
theorem dX4_isFair_31 : decode cX4_isFair 31 = .ok (.iconst 0, 1) := by decide +kernel
theorem dX4_isFair_32 : decode cX4_isFair 32 = .ok (.istore_n 3, 1) := by decide +kernel
theorem dX4_isFair_33 : decode cX4_isFair 33 = .ok (.iload_n 3, 1) := by decide +kernel
theorem dX4_isFair_34 : decode cX4_isFair 34 = .ok (.aload_n 0, 1) := by decide +kernel
theorem dX4_isFair_35 : decode cX4_isFair 35 = .ok (.getfield 59, 3) := by decide +kernel
theorem dX4_isFair_38 : decode cX4_isFair 38 = .ok (.if_icmp .ge 29, 3) := by decide +kernel
theorem dX4_isFair_41 : decode cX4_isFair 41 = .ok (.iload_n 2, 1) := by decide +kernel
theorem dX4_isFair_42 : decode cX4_isFair 42 = .ok (.iload_n 3, 1) := by decide +kernel
theorem dX4_isFair_43 : decode cX4_isFair 43 = .ok (.invokestatic 127, 3) := by decide +kernel
theorem dX4_isFair_46 : decode cX4_isFair 46 = .ok (.ifCond .eq 15, 3) := by decide +kernel
theorem dX4_isFair_49 : decode cX4_isFair 49 = .ok (.aload_n 0, 1) := by decide +kernel
theorem dX4_isFair_50 : decode cX4_isFair 50 = .ok (.getfield 22, 3) := by decide +kernel
theorem dX4_isFair_53 : decode cX4_isFair 53 = .ok (.iload_n 3, 1) := by decide +kernel
theorem dX4_isFair_54 : decode cX4_isFair 54 = .ok (.iaload, 1) := by decide +kernel
theorem dX4_isFair_55 : decode cX4_isFair 55 = .ok (.iconst 1, 1) := by decide +kernel
theorem dX4_isFair_56 : decode cX4_isFair 56 = .ok (.if_icmp .ne 5, 3) := by decide +kernel
theorem dX4_isFair_59 : decode cX4_isFair 59 = .ok (.iconst 0, 1) := by decide +kernel
theorem dX4_isFair_60 : decode cX4_isFair 60 = .ok (.ireturn, 1) := by decide +kernel
theorem dX4_isFair_61 : decode cX4_isFair 61 = .ok (.iinc 3 1, 3) := by decide +kernel
theorem dX4_isFair_64 : decode cX4_isFair 64 = .ok (.goto (-31), 3) := by decide +kernel
theorem dX4_isFair_67 : decode cX4_isFair 67 = .ok (.iconst 1, 1) := by decide +kernel
theorem dX4_isFair_68 : decode cX4_isFair 68 = .ok (.ireturn, 1) := by decide +kernel
theorem dX4_debt_0 : decode cX4_debt 0 = .ok (.aload_n 0, 1) := by decide +kernel
theorem dX4_debt_1 : decode cX4_debt 1 = .ok (.iload_n 1, 1) := by decide +kernel
theorem dX4_debt_2 : decode cX4_debt 2 = .ok (.invokevirtual 115, 3) := by decide +kernel
theorem dX4_debt_5 : decode cX4_debt 5 = .ok (.ifCond .ne 5, 3) := by decide +kernel
theorem dX4_debt_8 : decode cX4_debt 8 = .ok (.iconst (-1), 1) := by decide +kernel
theorem dX4_debt_9 : decode cX4_debt 9 = .ok (.ireturn, 1) := by decide +kernel
theorem dX4_debt_10 : decode cX4_debt 10 = .ok (.aload_n 0, 1) := by decide +kernel
theorem dX4_debt_11 : decode cX4_debt 11 = .ok (.iload_n 2, 1) := by decide +kernel
theorem dX4_debt_12 : decode cX4_debt 12 = .ok (.invokevirtual 143, 3) := by decide +kernel
theorem dX4_debt_15 : decode cX4_debt 15 = .ok (.ifCond .ne 6, 3) := by decide +kernel
theorem dX4_debt_18 : decode cX4_debt 18 = .ok (.bipush (-2), 2) := by decide +kernel
theorem dX4_debt_20 : decode cX4_debt 20 = .ok (.ireturn, 1) := by decide +kernel
theorem dX4_debt_21 : decode cX4_debt 21 = .ok (.iload_n 2, 1) := by decide +kernel
theorem dX4_debt_22 : decode cX4_debt 22 = .ok (.iload_n 1, 1) := by decide +kernel
theorem dX4_debt_23 : decode cX4_debt 23 = .ok (.invokestatic 127, 3) := by decide +kernel
theorem dX4_debt_26 : decode cX4_debt 26 = .ok (.ifCond .eq 12, 3) := by decide +kernel
theorem dX4_debt_29 : decode cX4_debt 29 = .ok (.aload_n 0, 1) := by decide +kernel
theorem dX4_debt_30 : decode cX4_debt 30 = .ok (.iload_n 1, 1) := by decide +kernel
theorem dX4_debt_31 : decode cX4_debt 31 = .ok (.iload_n 2, 1) := by decide +kernel
theorem dX4_debt_32 : decode cX4_debt 32 = .ok (.invokevirtual 133, 3) := by decide +kernel
theorem dX4_debt_35 : decode cX4_debt 35 = .ok (.goto 5, 3) := by decide +kernel
theorem dX4_debt_38 : decode cX4_debt 38 = .ok (.bipush (-3), 2) := by decide +kernel
theorem dX4_debt_40 : decode cX4_debt 40 = .ok (.ireturn, 1) := by decide +kernel
theorem dX4_pullers_0 : decode cX4_pullers 0 = .ok (.aload_n 0, 1) := by decide +kernel
theorem dX4_pullers_1 : decode cX4_pullers 1 = .ok (.getfield 59, 3) := by decide +kernel
theorem dX4_pullers_4 : decode cX4_pullers 4 = .ok (.ifCond .ne 6, 3) := by decide +kernel
theorem dX4_pullers_7 : decode cX4_pullers 7 = .ok (.bipush (-3), 2) := by decide +kernel
theorem dX4_pullers_9 : decode cX4_pullers 9 = .ok (.ireturn, 1) := by decide +kernel
theorem dX4_pullers_10 : decode cX4_pullers 10 = .ok (.aload_n 0, 1) := by decide +kernel
theorem dX4_pullers_11 : decode cX4_pullers 11 = .ok (.iload_n 1, 1) := by decide +kernel
theorem dX4_pullers_12 : decode cX4_pullers 12 = .ok (.invokevirtual 143, 3) := by decide +kernel
theorem dX4_pullers_15 : decode cX4_pullers 15 = .ok (.ifCond .eq 11, 3) := by decide +kernel
theorem dX4_pullers_18 : decode cX4_pullers 18 = .ok (.aload_n 0, 1) := by decide +kernel
theorem dX4_pullers_19 : decode cX4_pullers 19 = .ok (.iload_n 1, 1) := by decide +kernel
theorem dX4_pullers_20 : decode cX4_pullers 20 = .ok (.invokevirtual 137, 3) := by decide +kernel
theorem dX4_pullers_23 : decode cX4_pullers 23 = .ok (.goto 5, 3) := by decide +kernel
theorem dX4_pullers_26 : decode cX4_pullers 26 = .ok (.bipush (-2), 2) := by decide +kernel
theorem dX4_pullers_28 : decode cX4_pullers 28 = .ok (.ireturn, 1) := by decide +kernel
theorem dX4_fair_0 : decode cX4_fair 0 = .ok (.aload_n 0, 1) := by decide +kernel
theorem dX4_fair_1 : decode cX4_fair 1 = .ok (.getfield 59, 3) := by decide +kernel
theorem dX4_fair_4 : decode cX4_fair 4 = .ok (.ifCond .ne 6, 3) := by decide +kernel
theorem dX4_fair_7 : decode cX4_fair 7 = .ok (.bipush (-3), 2) := by decide +kernel
theorem dX4_fair_9 : decode cX4_fair 9 = .ok (.ireturn, 1) := by decide +kernel
theorem dX4_fair_10 : decode cX4_fair 10 = .ok (.aload_n 0, 1) := by decide +kernel
theorem dX4_fair_11 : decode cX4_fair 11 = .ok (.iload_n 1, 1) := by decide +kernel
theorem dX4_fair_12 : decode cX4_fair 12 = .ok (.invokevirtual 143, 3) := by decide +kernel
theorem dX4_fair_15 : decode cX4_fair 15 = .ok (.ifCond .ne 8, 3) := by decide +kernel
theorem dX4_fair_18 : decode cX4_fair 18 = .ok (.bipush (-2), 2) := by decide +kernel
theorem dX4_fair_20 : decode cX4_fair 20 = .ok (.goto 16, 3) := by decide +kernel
theorem dX4_fair_23 : decode cX4_fair 23 = .ok (.aload_n 0, 1) := by decide +kernel
theorem dX4_fair_24 : decode cX4_fair 24 = .ok (.iload_n 1, 1) := by decide +kernel
theorem dX4_fair_25 : decode cX4_fair 25 = .ok (.invokevirtual 146, 3) := by decide +kernel
theorem dX4_fair_28 : decode cX4_fair 28 = .ok (.ifCond .eq 7, 3) := by decide +kernel
theorem dX4_fair_31 : decode cX4_fair 31 = .ok (.iconst 1, 1) := by decide +kernel
theorem dX4_fair_32 : decode cX4_fair 32 = .ok (.goto 4, 3) := by decide +kernel
theorem dX4_fair_35 : decode cX4_fair 35 = .ok (.iconst 0, 1) := by decide +kernel
theorem dX4_fair_36 : decode cX4_fair 36 = .ok (.ireturn, 1) := by decide +kernel
theorem dX4_goLoads_0 : decode cX4_goLoads 0 = .ok (.aload_n 0, 1) := by decide +kernel
theorem dX4_goLoads_1 : decode cX4_goLoads 1 = .ok (.iconst 0, 1) := by decide +kernel
theorem dX4_goLoads_2 : decode cX4_goLoads 2 = .ok (.putfield 149, 3) := by decide +kernel
theorem dX4_goLoads_5 : decode cX4_goLoads 5 = .ok (.aload_n 0, 1) := by decide +kernel
theorem dX4_goLoads_6 : decode cX4_goLoads 6 = .ok (.iconst 0, 1) := by decide +kernel
theorem dX4_goLoads_7 : decode cX4_goLoads 7 = .ok (.putfield 152, 3) := by decide +kernel
theorem dX4_goLoads_10 : decode cX4_goLoads 10 = .ok (.aload_n 0, 1) := by decide +kernel
theorem dX4_goLoads_11 : decode cX4_goLoads 11 = .ok (.iconst 0, 1) := by decide +kernel
theorem dX4_goLoads_12 : decode cX4_goLoads 12 = .ok (.putfield 155, 3) := by decide +kernel
theorem dX4_goLoads_15 : decode cX4_goLoads 15 = .ok (.aload_n 0, 1) := by decide +kernel
theorem dX4_goLoads_16 : decode cX4_goLoads 16 = .ok (.iconst 0, 1) := by decide +kernel
theorem dX4_goLoads_17 : decode cX4_goLoads 17 = .ok (.putfield 158, 3) := by decide +kernel
theorem dX4_goLoads_20 : decode cX4_goLoads 20 = .ok (.iconst 0, 1) := by decide +kernel
theorem dX4_goLoads_21 : decode cX4_goLoads 21 = .ok (.istore_n 3, 1) := by decide +kernel
theorem dX4_goLoads_22 : decode cX4_goLoads 22 = .ok (.iload_n 3, 1) := by decide +kernel
theorem dX4_goLoads_23 : decode cX4_goLoads 23 = .ok (.iconst 5, 1) := by decide +kernel
theorem dX4_goLoads_24 : decode cX4_goLoads 24 = .ok (.if_icmp .ge 16, 3) := by decide +kernel
theorem dX4_goLoads_27 : decode cX4_goLoads 27 = .ok (.aload_n 0, 1) := by decide +kernel
theorem dX4_goLoads_28 : decode cX4_goLoads 28 = .ok (.getfield 37, 3) := by decide +kernel
theorem dX4_goLoads_31 : decode cX4_goLoads 31 = .ok (.iload_n 3, 1) := by decide +kernel
theorem dX4_goLoads_32 : decode cX4_goLoads 32 = .ok (.iconst 0, 1) := by decide +kernel
theorem dX4_goLoads_33 : decode cX4_goLoads 33 = .ok (.iastore, 1) := by decide +kernel
theorem dX4_goLoads_34 : decode cX4_goLoads 34 = .ok (.iinc 3 1, 3) := by decide +kernel
theorem dX4_goLoads_37 : decode cX4_goLoads 37 = .ok (.goto (-15), 3) := by decide +kernel
theorem dX4_goLoads_40 : decode cX4_goLoads 40 = .ok (.iconst 0, 1) := by decide +kernel
theorem dX4_goLoads_41 : decode cX4_goLoads 41 = .ok (.istore_n 3, 1) := by decide +kernel
theorem dX4_goLoads_42 : decode cX4_goLoads 42 = .ok (.iload_n 3, 1) := by decide +kernel
theorem dX4_goLoads_43 : decode cX4_goLoads 43 = .ok (.iload_n 2, 1) := by decide +kernel
theorem dX4_goLoads_44 : decode cX4_goLoads 44 = .ok (.if_icmp .ge 175, 3) := by decide +kernel
theorem dX4_goLoads_47 : decode cX4_goLoads 47 = .ok (.aload_n 0, 1) := by decide +kernel
theorem dX4_goLoads_48 : decode cX4_goLoads 48 = .ok (.getfield 16, 3) := by decide +kernel
theorem dX4_goLoads_51 : decode cX4_goLoads 51 = .ok (.iload_n 1, 1) := by decide +kernel
theorem dX4_goLoads_52 : decode cX4_goLoads 52 = .ok (.iload_n 3, 1) := by decide +kernel
theorem dX4_goLoads_53 : decode cX4_goLoads 53 = .ok (.iadd, 1) := by decide +kernel
theorem dX4_goLoads_54 : decode cX4_goLoads 54 = .ok (.iaload, 1) := by decide +kernel
theorem dX4_goLoads_55 : decode cX4_goLoads 55 = .ok (.istore 4, 2) := by decide +kernel
theorem dX4_goLoads_57 : decode cX4_goLoads 57 = .ok (.iload 4, 2) := by decide +kernel
theorem dX4_goLoads_59 : decode cX4_goLoads 59 = .ok (.ifCond .eq 25, 3) := by decide +kernel
theorem dX4_goLoads_62 : decode cX4_goLoads 62 = .ok (.iload 4, 2) := by decide +kernel
theorem dX4_goLoads_64 : decode cX4_goLoads 64 = .ok (.invokestatic 140, 3) := by decide +kernel
theorem dX4_goLoads_67 : decode cX4_goLoads 67 = .ok (.aload_n 0, 1) := by decide +kernel
theorem dX4_goLoads_68 : decode cX4_goLoads 68 = .ok (.getfield 92, 3) := by decide +kernel
theorem dX4_goLoads_71 : decode cX4_goLoads 71 = .ok (.if_icmp .gt 13, 3) := by decide +kernel
theorem dX4_goLoads_74 : decode cX4_goLoads 74 = .ok (.iload 4, 2) := by decide +kernel
theorem dX4_goLoads_76 : decode cX4_goLoads 76 = .ok (.aload_n 0, 1) := by decide +kernel
theorem dX4_goLoads_77 : decode cX4_goLoads 77 = .ok (.getfield 158, 3) := by decide +kernel
theorem dX4_goLoads_80 : decode cX4_goLoads 80 = .ok (.iand, 1) := by decide +kernel
theorem dX4_goLoads_81 : decode cX4_goLoads 81 = .ok (.ifCond .eq 5, 3) := by decide +kernel
theorem dX4_goLoads_84 : decode cX4_goLoads 84 = .ok (.iload_n 3, 1) := by decide +kernel
theorem dX4_goLoads_85 : decode cX4_goLoads 85 = .ok (.ireturn, 1) := by decide +kernel
theorem dX4_goLoads_86 : decode cX4_goLoads 86 = .ok (.aload_n 0, 1) := by decide +kernel
theorem dX4_goLoads_87 : decode cX4_goLoads 87 = .ok (.iload 4, 2) := by decide +kernel
theorem dX4_goLoads_89 : decode cX4_goLoads 89 = .ok (.invokevirtual 137, 3) := by decide +kernel
theorem dX4_goLoads_92 : decode cX4_goLoads 92 = .ok (.istore 5, 2) := by decide +kernel
theorem dX4_goLoads_94 : decode cX4_goLoads 94 = .ok (.aload_n 0, 1) := by decide +kernel
theorem dX4_goLoads_95 : decode cX4_goLoads 95 = .ok (.dup, 1) := by decide +kernel
theorem dX4_goLoads_96 : decode cX4_goLoads 96 = .ok (.getfield 158, 3) := by decide +kernel
theorem dX4_goLoads_99 : decode cX4_goLoads 99 = .ok (.iload 4, 2) := by decide +kernel
theorem dX4_goLoads_101 : decode cX4_goLoads 101 = .ok (.ior, 1) := by decide +kernel
theorem dX4_goLoads_102 : decode cX4_goLoads 102 = .ok (.putfield 158, 3) := by decide +kernel
theorem dX4_goLoads_105 : decode cX4_goLoads 105 = .ok (.aload_n 0, 1) := by decide +kernel
theorem dX4_goLoads_106 : decode cX4_goLoads 106 = .ok (.dup, 1) := by decide +kernel
theorem dX4_goLoads_107 : decode cX4_goLoads 107 = .ok (.getfield 149, 3) := by decide +kernel
theorem dX4_goLoads_110 : decode cX4_goLoads 110 = .ok (.aload_n 0, 1) := by decide +kernel
theorem dX4_goLoads_111 : decode cX4_goLoads 111 = .ok (.iload 4, 2) := by decide +kernel
theorem dX4_goLoads_113 : decode cX4_goLoads 113 = .ok (.invokevirtual 146, 3) := by decide +kernel
theorem dX4_goLoads_116 : decode cX4_goLoads 116 = .ok (.ifCond .eq 7, 3) := by decide +kernel
theorem dX4_goLoads_119 : decode cX4_goLoads 119 = .ok (.iconst 1, 1) := by decide +kernel
theorem dX4_goLoads_120 : decode cX4_goLoads 120 = .ok (.goto 4, 3) := by decide +kernel
theorem dX4_goLoads_123 : decode cX4_goLoads 123 = .ok (.iconst 0, 1) := by decide +kernel
theorem dX4_goLoads_124 : decode cX4_goLoads 124 = .ok (.iadd, 1) := by decide +kernel
theorem dX4_goLoads_125 : decode cX4_goLoads 125 = .ok (.putfield 149, 3) := by decide +kernel
theorem dX4_goLoads_128 : decode cX4_goLoads 128 = .ok (.aload_n 0, 1) := by decide +kernel
theorem dX4_goLoads_129 : decode cX4_goLoads 129 = .ok (.dup, 1) := by decide +kernel
theorem dX4_goLoads_130 : decode cX4_goLoads 130 = .ok (.getfield 152, 3) := by decide +kernel
theorem dX4_goLoads_133 : decode cX4_goLoads 133 = .ok (.iload 5, 2) := by decide +kernel
theorem dX4_goLoads_135 : decode cX4_goLoads 135 = .ok (.invokestatic 140, 3) := by decide +kernel
theorem dX4_goLoads_138 : decode cX4_goLoads 138 = .ok (.iconst 1, 1) := by decide +kernel
theorem dX4_goLoads_139 : decode cX4_goLoads 139 = .ok (.if_icmp .le 7, 3) := by decide +kernel
theorem dX4_goLoads_142 : decode cX4_goLoads 142 = .ok (.iconst 1, 1) := by decide +kernel
theorem dX4_goLoads_143 : decode cX4_goLoads 143 = .ok (.goto 4, 3) := by decide +kernel
theorem dX4_goLoads_146 : decode cX4_goLoads 146 = .ok (.iconst 0, 1) := by decide +kernel
theorem dX4_goLoads_147 : decode cX4_goLoads 147 = .ok (.iadd, 1) := by decide +kernel
theorem dX4_goLoads_148 : decode cX4_goLoads 148 = .ok (.putfield 152, 3) := by decide +kernel
theorem dX4_goLoads_151 : decode cX4_goLoads 151 = .ok (.aload_n 0, 1) := by decide +kernel
theorem dX4_goLoads_152 : decode cX4_goLoads 152 = .ok (.dup, 1) := by decide +kernel
theorem dX4_goLoads_153 : decode cX4_goLoads 153 = .ok (.getfield 155, 3) := by decide +kernel
theorem dX4_goLoads_156 : decode cX4_goLoads 156 = .ok (.iload 5, 2) := by decide +kernel
theorem dX4_goLoads_158 : decode cX4_goLoads 158 = .ok (.ifCond .ne 7, 3) := by decide +kernel
theorem dX4_goLoads_161 : decode cX4_goLoads 161 = .ok (.iconst 1, 1) := by decide +kernel
theorem dX4_goLoads_162 : decode cX4_goLoads 162 = .ok (.goto 4, 3) := by decide +kernel
theorem dX4_goLoads_165 : decode cX4_goLoads 165 = .ok (.iconst 0, 1) := by decide +kernel
theorem dX4_goLoads_166 : decode cX4_goLoads 166 = .ok (.iadd, 1) := by decide +kernel
theorem dX4_goLoads_167 : decode cX4_goLoads 167 = .ok (.putfield 155, 3) := by decide +kernel
theorem dX4_goLoads_170 : decode cX4_goLoads 170 = .ok (.iconst 0, 1) := by decide +kernel
theorem dX4_goLoads_171 : decode cX4_goLoads 171 = .ok (.istore 6, 2) := by decide +kernel
theorem dX4_goLoads_173 : decode cX4_goLoads 173 = .ok (.iload 6, 2) := by decide +kernel
theorem dX4_goLoads_175 : decode cX4_goLoads 175 = .ok (.aload_n 0, 1) := by decide +kernel
theorem dX4_goLoads_176 : decode cX4_goLoads 176 = .ok (.getfield 59, 3) := by decide +kernel
theorem dX4_goLoads_179 : decode cX4_goLoads 179 = .ok (.if_icmp .ge 34, 3) := by decide +kernel
theorem dX4_goLoads_182 : decode cX4_goLoads 182 = .ok (.aload_n 0, 1) := by decide +kernel
theorem dX4_goLoads_183 : decode cX4_goLoads 183 = .ok (.getfield 37, 3) := by decide +kernel
theorem dX4_goLoads_186 : decode cX4_goLoads 186 = .ok (.iload 6, 2) := by decide +kernel
theorem dX4_goLoads_188 : decode cX4_goLoads 188 = .ok (.dup2, 1) := by decide +kernel
theorem dX4_goLoads_189 : decode cX4_goLoads 189 = .ok (.iaload, 1) := by decide +kernel
theorem dX4_goLoads_190 : decode cX4_goLoads 190 = .ok (.iload 5, 2) := by decide +kernel
theorem dX4_goLoads_192 : decode cX4_goLoads 192 = .ok (.iload 6, 2) := by decide +kernel
theorem dX4_goLoads_194 : decode cX4_goLoads 194 = .ok (.invokestatic 127, 3) := by decide +kernel
theorem dX4_goLoads_197 : decode cX4_goLoads 197 = .ok (.ifCond .eq 7, 3) := by decide +kernel
theorem dX4_goLoads_200 : decode cX4_goLoads 200 = .ok (.iconst 1, 1) := by decide +kernel
theorem dX4_goLoads_201 : decode cX4_goLoads 201 = .ok (.goto 4, 3) := by decide +kernel
theorem dX4_goLoads_204 : decode cX4_goLoads 204 = .ok (.iconst 0, 1) := by decide +kernel
theorem dX4_goLoads_205 : decode cX4_goLoads 205 = .ok (.iadd, 1) := by decide +kernel
theorem dX4_goLoads_206 : decode cX4_goLoads 206 = .ok (.iastore, 1) := by decide +kernel
theorem dX4_goLoads_207 : decode cX4_goLoads 207 = .ok (.iinc 6 1, 3) := by decide +kernel
theorem dX4_goLoads_210 : decode cX4_goLoads 210 = .ok (.goto (-37), 3) := by decide +kernel
theorem dX4_goLoads_213 : decode cX4_goLoads 213 = .ok (.iinc 3 1, 3) := by decide +kernel
theorem dX4_goLoads_216 : decode cX4_goLoads 216 = .ok (.goto (-174), 3) := by decide +kernel
theorem dX4_goLoads_219 : decode cX4_goLoads 219 = .ok (.bipush (-9), 2) := by decide +kernel
theorem dX4_goLoads_221 : decode cX4_goLoads 221 = .ok (.ireturn, 1) := by decide +kernel
theorem dX4_loads_0 : decode cX4_loads 0 = .ok (.aload_n 0, 1) := by decide +kernel
theorem dX4_loads_1 : decode cX4_loads 1 = .ok (.iconst 0, 1) := by decide +kernel
theorem dX4_loads_2 : decode cX4_loads 2 = .ok (.putfield 49, 3) := by decide +kernel
theorem dX4_loads_5 : decode cX4_loads 5 = .ok (.iload_n 1, 1) := by decide +kernel
theorem dX4_loads_6 : decode cX4_loads 6 = .ok (.invokestatic 65, 3) := by decide +kernel
theorem dX4_loads_9 : decode cX4_loads 9 = .ok (.ifCond .ne 5, 3) := by decide +kernel
theorem dX4_loads_12 : decode cX4_loads 12 = .ok (.iconst (-1), 1) := by decide +kernel
theorem dX4_loads_13 : decode cX4_loads 13 = .ok (.ireturn, 1) := by decide +kernel
theorem dX4_loads_14 : decode cX4_loads 14 = .ok (.iload_n 2, 1) := by decide +kernel
theorem dX4_loads_15 : decode cX4_loads 15 = .ok (.invokestatic 69, 3) := by decide +kernel
theorem dX4_loads_18 : decode cX4_loads 18 = .ok (.ifCond .eq 36, 3) := by decide +kernel
theorem dX4_loads_21 : decode cX4_loads 21 = .ok (.iload 4, 2) := by decide +kernel
theorem dX4_loads_23 : decode cX4_loads 23 = .ok (.iconst 0, 1) := by decide +kernel
theorem dX4_loads_24 : decode cX4_loads 24 = .ok (.bipush 20, 2) := by decide +kernel
theorem dX4_loads_26 : decode cX4_loads 26 = .ok (.invokestatic 55, 3) := by decide +kernel
theorem dX4_loads_29 : decode cX4_loads 29 = .ok (.ifCond .eq 25, 3) := by decide +kernel
theorem dX4_loads_32 : decode cX4_loads 32 = .ok (.iload 5, 2) := by decide +kernel
theorem dX4_loads_34 : decode cX4_loads 34 = .ok (.iconst 0, 1) := by decide +kernel
theorem dX4_loads_35 : decode cX4_loads 35 = .ok (.iconst 4, 1) := by decide +kernel
theorem dX4_loads_36 : decode cX4_loads 36 = .ok (.invokestatic 55, 3) := by decide +kernel
theorem dX4_loads_39 : decode cX4_loads 39 = .ok (.ifCond .ne 18, 3) := by decide +kernel
theorem dX4_loads_42 : decode cX4_loads 42 = .ok (.iload 5, 2) := by decide +kernel
theorem dX4_loads_44 : decode cX4_loads 44 = .ok (.bipush 10, 2) := by decide +kernel
theorem dX4_loads_46 : decode cX4_loads 46 = .ok (.bipush 14, 2) := by decide +kernel
theorem dX4_loads_48 : decode cX4_loads 48 = .ok (.invokestatic 55, 3) := by decide +kernel
theorem dX4_loads_51 : decode cX4_loads 51 = .ok (.ifCond .ne 6, 3) := by decide +kernel
theorem dX4_loads_54 : decode cX4_loads 54 = .ok (.bipush (-2), 2) := by decide +kernel
theorem dX4_loads_56 : decode cX4_loads 56 = .ok (.ireturn, 1) := by decide +kernel
theorem dX4_loads_57 : decode cX4_loads 57 = .ok (.aload_n 0, 1) := by decide +kernel
theorem dX4_loads_58 : decode cX4_loads 58 = .ok (.iload_n 1, 1) := by decide +kernel
theorem dX4_loads_59 : decode cX4_loads 59 = .ok (.iload_n 2, 1) := by decide +kernel
theorem dX4_loads_60 : decode cX4_loads 60 = .ok (.iload_n 3, 1) := by decide +kernel
theorem dX4_loads_61 : decode cX4_loads 61 = .ok (.iload 4, 2) := by decide +kernel
theorem dX4_loads_63 : decode cX4_loads 63 = .ok (.invokevirtual 72, 3) := by decide +kernel
theorem dX4_loads_66 : decode cX4_loads 66 = .ok (.istore 6, 2) := by decide +kernel
theorem dX4_loads_68 : decode cX4_loads 68 = .ok (.iload 6, 2) := by decide +kernel
theorem dX4_loads_70 : decode cX4_loads 70 = .ok (.ifCond .eq 10, 3) := by decide +kernel
theorem dX4_loads_73 : decode cX4_loads 73 = .ok (.aload_n 0, 1) := by decide +kernel
theorem dX4_loads_74 : decode cX4_loads 74 = .ok (.iload 6, 2) := by decide +kernel
theorem dX4_loads_76 : decode cX4_loads 76 = .ok (.invokevirtual 76, 3) := by decide +kernel
theorem dX4_loads_79 : decode cX4_loads 79 = .ok (.ireturn, 1) := by decide +kernel
theorem dX4_loads_80 : decode cX4_loads 80 = .ok (.aload_n 0, 1) := by decide +kernel
theorem dX4_loads_81 : decode cX4_loads 81 = .ok (.getfield 59, 3) := by decide +kernel
theorem dX4_loads_84 : decode cX4_loads 84 = .ok (.ifCond .ne 6, 3) := by decide +kernel
theorem dX4_loads_87 : decode cX4_loads 87 = .ok (.bipush (-3), 2) := by decide +kernel
theorem dX4_loads_89 : decode cX4_loads 89 = .ok (.ireturn, 1) := by decide +kernel
theorem dX4_loads_90 : decode cX4_loads 90 = .ok (.bipush 60, 2) := by decide +kernel
theorem dX4_loads_92 : decode cX4_loads 92 = .ok (.iload_n 1, 1) := by decide +kernel
theorem dX4_loads_93 : decode cX4_loads 93 = .ok (.imul, 1) := by decide +kernel
theorem dX4_loads_94 : decode cX4_loads 94 = .ok (.iload_n 3, 1) := by decide +kernel
theorem dX4_loads_95 : decode cX4_loads 95 = .ok (.iadd, 1) := by decide +kernel
theorem dX4_loads_96 : decode cX4_loads 96 = .ok (.istore 7, 2) := by decide +kernel
theorem dX4_loads_98 : decode cX4_loads 98 = .ok (.iconst 0, 1) := by decide +kernel
theorem dX4_loads_99 : decode cX4_loads 99 = .ok (.istore 8, 2) := by decide +kernel
theorem dX4_loads_101 : decode cX4_loads 101 = .ok (.iload 8, 2) := by decide +kernel
theorem dX4_loads_103 : decode cX4_loads 103 = .ok (.iload 4, 2) := by decide +kernel
theorem dX4_loads_105 : decode cX4_loads 105 = .ok (.if_icmp .ge 29, 3) := by decide +kernel
theorem dX4_loads_108 : decode cX4_loads 108 = .ok (.aload_n 0, 1) := by decide +kernel
theorem dX4_loads_109 : decode cX4_loads 109 = .ok (.aload_n 0, 1) := by decide +kernel
theorem dX4_loads_110 : decode cX4_loads 110 = .ok (.getfield 16, 3) := by decide +kernel
theorem dX4_loads_113 : decode cX4_loads 113 = .ok (.iload 7, 2) := by decide +kernel
theorem dX4_loads_115 : decode cX4_loads 115 = .ok (.iload 8, 2) := by decide +kernel
theorem dX4_loads_117 : decode cX4_loads 117 = .ok (.iadd, 1) := by decide +kernel
theorem dX4_loads_118 : decode cX4_loads 118 = .ok (.iaload, 1) := by decide +kernel
theorem dX4_loads_119 : decode cX4_loads 119 = .ok (.invokevirtual 143, 3) := by decide +kernel
theorem dX4_loads_122 : decode cX4_loads 122 = .ok (.ifCond .ne 6, 3) := by decide +kernel
theorem dX4_loads_125 : decode cX4_loads 125 = .ok (.bipush (-2), 2) := by decide +kernel
theorem dX4_loads_127 : decode cX4_loads 127 = .ok (.ireturn, 1) := by decide +kernel
theorem dX4_loads_128 : decode cX4_loads 128 = .ok (.iinc 8 1, 3) := by decide +kernel
theorem dX4_loads_131 : decode cX4_loads 131 = .ok (.goto (-30), 3) := by decide +kernel
theorem dX4_loads_134 : decode cX4_loads 134 = .ok (.aload_n 0, 1) := by decide +kernel
theorem dX4_loads_135 : decode cX4_loads 135 = .ok (.iload 7, 2) := by decide +kernel
theorem dX4_loads_137 : decode cX4_loads 137 = .ok (.iload 4, 2) := by decide +kernel
theorem dX4_loads_139 : decode cX4_loads 139 = .ok (.invokevirtual 161, 3) := by decide +kernel
theorem dX4_loads_142 : decode cX4_loads 142 = .ok (.istore 8, 2) := by decide +kernel
theorem dX4_loads_144 : decode cX4_loads 144 = .ok (.iload 5, 2) := by decide +kernel
theorem dX4_loads_146 : decode cX4_loads 146 = .ok (.iconst 1, 1) := by decide +kernel
theorem dX4_loads_147 : decode cX4_loads 147 = .ok (.if_icmp .ne 6, 3) := by decide +kernel
theorem dX4_loads_150 : decode cX4_loads 150 = .ok (.iload 8, 2) := by decide +kernel
theorem dX4_loads_152 : decode cX4_loads 152 = .ok (.ireturn, 1) := by decide +kernel
theorem dX4_loads_153 : decode cX4_loads 153 = .ok (.iload 8, 2) := by decide +kernel
theorem dX4_loads_155 : decode cX4_loads 155 = .ok (.bipush (-9), 2) := by decide +kernel
theorem dX4_loads_157 : decode cX4_loads 157 = .ok (.if_icmp .ne 12, 3) := by decide +kernel
theorem dX4_loads_160 : decode cX4_loads 160 = .ok (.aload_n 0, 1) := by decide +kernel
theorem dX4_loads_161 : decode cX4_loads 161 = .ok (.iload 5, 2) := by decide +kernel
theorem dX4_loads_163 : decode cX4_loads 163 = .ok (.invokevirtual 164, 3) := by decide +kernel
theorem dX4_loads_166 : decode cX4_loads 166 = .ok (.goto 8, 3) := by decide +kernel
theorem dX4_loads_169 : decode cX4_loads 169 = .ok (.bipush (-100), 2) := by decide +kernel
theorem dX4_loads_171 : decode cX4_loads 171 = .ok (.iload 8, 2) := by decide +kernel
theorem dX4_loads_173 : decode cX4_loads 173 = .ok (.isub, 1) := by decide +kernel
theorem dX4_loads_174 : decode cX4_loads 174 = .ok (.ireturn, 1) := by decide +kernel
theorem dX4_tellLoads_0 : decode cX4_tellLoads 0 = .ok (.iload_n 1, 1) := by decide +kernel
theorem dX4_tellLoads_1 : decode cX4_tellLoads 1 = .ok (.tableswitch 55 0 4 #[35, 55, 40, 45, 50], 35) := by decide +kernel
theorem dX4_tellLoads_36 : decode cX4_tellLoads 36 = .ok (.aload_n 0, 1) := by decide +kernel
theorem dX4_tellLoads_37 : decode cX4_tellLoads 37 = .ok (.getfield 149, 3) := by decide +kernel
theorem dX4_tellLoads_40 : decode cX4_tellLoads 40 = .ok (.ireturn, 1) := by decide +kernel
theorem dX4_tellLoads_41 : decode cX4_tellLoads 41 = .ok (.aload_n 0, 1) := by decide +kernel
theorem dX4_tellLoads_42 : decode cX4_tellLoads 42 = .ok (.getfield 158, 3) := by decide +kernel
theorem dX4_tellLoads_45 : decode cX4_tellLoads 45 = .ok (.ireturn, 1) := by decide +kernel
theorem dX4_tellLoads_46 : decode cX4_tellLoads 46 = .ok (.aload_n 0, 1) := by decide +kernel
theorem dX4_tellLoads_47 : decode cX4_tellLoads 47 = .ok (.getfield 152, 3) := by decide +kernel
theorem dX4_tellLoads_50 : decode cX4_tellLoads 50 = .ok (.ireturn, 1) := by decide +kernel
theorem dX4_tellLoads_51 : decode cX4_tellLoads 51 = .ok (.aload_n 0, 1) := by decide +kernel
theorem dX4_tellLoads_52 : decode cX4_tellLoads 52 = .ok (.getfield 155, 3) := by decide +kernel
theorem dX4_tellLoads_55 : decode cX4_tellLoads 55 = .ok (.ireturn, 1) := by decide +kernel
theorem dX4_tellLoads_56 : decode cX4_tellLoads 56 = .ok (.aload_n 0, 1) := by decide +kernel
theorem dX4_tellLoads_57 : decode cX4_tellLoads 57 = .ok (.iload_n 1, 1) := by decide +kernel
theorem dX4_tellLoads_58 : decode cX4_tellLoads 58 = .ok (.bipush 10, 2) := by decide +kernel
theorem dX4_tellLoads_60 : decode cX4_tellLoads 60 = .ok (.isub, 1) := by decide +kernel
theorem dX4_tellLoads_61 : decode cX4_tellLoads 61 = .ok (.invokevirtual 115, 3) := by decide +kernel
theorem dX4_tellLoads_64 : decode cX4_tellLoads 64 = .ok (.ifCond .eq 15, 3) := by decide +kernel
theorem dX4_tellLoads_67 : decode cX4_tellLoads 67 = .ok (.aload_n 0, 1) := by decide +kernel
theorem dX4_tellLoads_68 : decode cX4_tellLoads 68 = .ok (.getfield 37, 3) := by decide +kernel
theorem dX4_tellLoads_71 : decode cX4_tellLoads 71 = .ok (.iload_n 1, 1) := by decide +kernel
theorem dX4_tellLoads_72 : decode cX4_tellLoads 72 = .ok (.bipush 10, 2) := by decide +kernel
theorem dX4_tellLoads_74 : decode cX4_tellLoads 74 = .ok (.isub, 1) := by decide +kernel
theorem dX4_tellLoads_75 : decode cX4_tellLoads 75 = .ok (.iaload, 1) := by decide +kernel
theorem dX4_tellLoads_76 : decode cX4_tellLoads 76 = .ok (.goto 5, 3) := by decide +kernel
theorem dX4_tellLoads_79 : decode cX4_tellLoads 79 = .ok (.bipush (-9), 2) := by decide +kernel
theorem dX4_tellLoads_81 : decode cX4_tellLoads 81 = .ok (.ireturn, 1) := by decide +kernel
theorem dX4_findFewest_0 : decode cX4_findFewest 0 = .ok (.aload_n 0, 1) := by decide +kernel
theorem dX4_findFewest_1 : decode cX4_findFewest 1 = .ok (.getfield 40, 3) := by decide +kernel
theorem dX4_findFewest_4 : decode cX4_findFewest 4 = .ok (.iconst 0, 1) := by decide +kernel
theorem dX4_findFewest_5 : decode cX4_findFewest 5 = .ok (.iconst 0, 1) := by decide +kernel
theorem dX4_findFewest_6 : decode cX4_findFewest 6 = .ok (.iastore, 1) := by decide +kernel
theorem dX4_findFewest_7 : decode cX4_findFewest 7 = .ok (.iconst 1, 1) := by decide +kernel
theorem dX4_findFewest_8 : decode cX4_findFewest 8 = .ok (.istore_n 1, 1) := by decide +kernel
theorem dX4_findFewest_9 : decode cX4_findFewest 9 = .ok (.iload_n 1, 1) := by decide +kernel
theorem dX4_findFewest_10 : decode cX4_findFewest 10 = .ok (.iconst 1, 1) := by decide +kernel
theorem dX4_findFewest_11 : decode cX4_findFewest 11 = .ok (.aload_n 0, 1) := by decide +kernel
theorem dX4_findFewest_12 : decode cX4_findFewest 12 = .ok (.getfield 59, 3) := by decide +kernel
theorem dX4_findFewest_15 : decode cX4_findFewest 15 = .ok (.ishl, 1) := by decide +kernel
theorem dX4_findFewest_16 : decode cX4_findFewest 16 = .ok (.if_icmp .ge 95, 3) := by decide +kernel
theorem dX4_findFewest_19 : decode cX4_findFewest 19 = .ok (.aload_n 0, 1) := by decide +kernel
theorem dX4_findFewest_20 : decode cX4_findFewest 20 = .ok (.getfield 40, 3) := by decide +kernel
theorem dX4_findFewest_23 : decode cX4_findFewest 23 = .ok (.iload_n 1, 1) := by decide +kernel
theorem dX4_findFewest_24 : decode cX4_findFewest 24 = .ok (.bipush (-9), 2) := by decide +kernel
theorem dX4_findFewest_26 : decode cX4_findFewest 26 = .ok (.iastore, 1) := by decide +kernel
theorem dX4_findFewest_27 : decode cX4_findFewest 27 = .ok (.iconst 1, 1) := by decide +kernel
theorem dX4_findFewest_28 : decode cX4_findFewest 28 = .ok (.istore_n 2, 1) := by decide +kernel
theorem dX4_findFewest_29 : decode cX4_findFewest 29 = .ok (.iload_n 2, 1) := by decide +kernel
theorem dX4_findFewest_30 : decode cX4_findFewest 30 = .ok (.iload_n 1, 1) := by decide +kernel
theorem dX4_findFewest_31 : decode cX4_findFewest 31 = .ok (.if_icmp .gt 74, 3) := by decide +kernel
theorem dX4_findFewest_34 : decode cX4_findFewest 34 = .ok (.iload_n 2, 1) := by decide +kernel
theorem dX4_findFewest_35 : decode cX4_findFewest 35 = .ok (.iload_n 1, 1) := by decide +kernel
theorem dX4_findFewest_36 : decode cX4_findFewest 36 = .ok (.iconst (-1), 1) := by decide +kernel
theorem dX4_findFewest_37 : decode cX4_findFewest 37 = .ok (.ixor, 1) := by decide +kernel
theorem dX4_findFewest_38 : decode cX4_findFewest 38 = .ok (.iand, 1) := by decide +kernel
theorem dX4_findFewest_39 : decode cX4_findFewest 39 = .ok (.ifCond .ne 60, 3) := by decide +kernel
theorem dX4_findFewest_42 : decode cX4_findFewest 42 = .ok (.aload_n 0, 1) := by decide +kernel
theorem dX4_findFewest_43 : decode cX4_findFewest 43 = .ok (.iload_n 2, 1) := by decide +kernel
theorem dX4_findFewest_44 : decode cX4_findFewest 44 = .ok (.invokevirtual 146, 3) := by decide +kernel
theorem dX4_findFewest_47 : decode cX4_findFewest 47 = .ok (.ifCond .eq 52, 3) := by decide +kernel
theorem dX4_findFewest_50 : decode cX4_findFewest 50 = .ok (.aload_n 0, 1) := by decide +kernel
theorem dX4_findFewest_51 : decode cX4_findFewest 51 = .ok (.getfield 40, 3) := by decide +kernel
theorem dX4_findFewest_54 : decode cX4_findFewest 54 = .ok (.iload_n 1, 1) := by decide +kernel
theorem dX4_findFewest_55 : decode cX4_findFewest 55 = .ok (.iload_n 2, 1) := by decide +kernel
theorem dX4_findFewest_56 : decode cX4_findFewest 56 = .ok (.iconst (-1), 1) := by decide +kernel
theorem dX4_findFewest_57 : decode cX4_findFewest 57 = .ok (.ixor, 1) := by decide +kernel
theorem dX4_findFewest_58 : decode cX4_findFewest 58 = .ok (.iand, 1) := by decide +kernel
