theorem dX1_init_0 : decode cX1_init 0 = .ok (.aload_n 0, 1) := by decide +kernel
theorem dX1_init_1 : decode cX1_init 1 = .ok (.invokespecial 3, 3) := by decide +kernel
theorem dX1_init_4 : decode cX1_init 4 = .ok (.aload_n 0, 1) := by decide +kernel
theorem dX1_init_5 : decode cX1_init 5 = .ok (.bipush 60, 2) := by decide +kernel
theorem dX1_init_7 : decode cX1_init 7 = .ok (.newarray .int, 2) := by decide +kernel
theorem dX1_init_9 : decode cX1_init 9 = .ok (.putfield 9, 3) := by decide +kernel
theorem dX1_init_12 : decode cX1_init 12 = .ok (.return_, 1) := by decide +kernel
theorem dX1_startRow_0 : decode cX1_startRow 0 = .ok (.aload_n 0, 1) := by decide +kernel
theorem dX1_startRow_1 : decode cX1_startRow 1 = .ok (.iconst 1, 1) := by decide +kernel
theorem dX1_startRow_2 : decode cX1_startRow 2 = .ok (.putfield 15, 3) := by decide +kernel
theorem dX1_startRow_5 : decode cX1_startRow 5 = .ok (.aload_n 0, 1) := by decide +kernel
theorem dX1_startRow_6 : decode cX1_startRow 6 = .ok (.iload_n 1, 1) := by decide +kernel
theorem dX1_startRow_7 : decode cX1_startRow 7 = .ok (.putfield 19, 3) := by decide +kernel
theorem dX1_startRow_10 : decode cX1_startRow 10 = .ok (.aload_n 0, 1) := by decide +kernel
theorem dX1_startRow_11 : decode cX1_startRow 11 = .ok (.iload_n 2, 1) := by decide +kernel
theorem dX1_startRow_12 : decode cX1_startRow 12 = .ok (.putfield 23, 3) := by decide +kernel
theorem dX1_startRow_15 : decode cX1_startRow 15 = .ok (.iconst 0, 1) := by decide +kernel
theorem dX1_startRow_16 : decode cX1_startRow 16 = .ok (.istore_n 3, 1) := by decide +kernel
theorem dX1_startRow_17 : decode cX1_startRow 17 = .ok (.iload_n 3, 1) := by decide +kernel
theorem dX1_startRow_18 : decode cX1_startRow 18 = .ok (.bipush 60, 2) := by decide +kernel
theorem dX1_startRow_20 : decode cX1_startRow 20 = .ok (.if_icmp .ge 16, 3) := by decide +kernel
theorem dX1_startRow_23 : decode cX1_startRow 23 = .ok (.aload_n 0, 1) := by decide +kernel
theorem dX1_startRow_24 : decode cX1_startRow 24 = .ok (.getfield 9, 3) := by decide +kernel
theorem dX1_startRow_27 : decode cX1_startRow 27 = .ok (.iload_n 3, 1) := by decide +kernel
theorem dX1_startRow_28 : decode cX1_startRow 28 = .ok (.iconst 0, 1) := by decide +kernel
theorem dX1_startRow_29 : decode cX1_startRow 29 = .ok (.iastore, 1) := by decide +kernel
theorem dX1_startRow_30 : decode cX1_startRow 30 = .ok (.iinc 3 1, 3) := by decide +kernel
theorem dX1_startRow_33 : decode cX1_startRow 33 = .ok (.goto (-16), 3) := by decide +kernel
theorem dX1_startRow_36 : decode cX1_startRow 36 = .ok (.return_, 1) := by decide +kernel
theorem dX1_faultAs_0 : decode cX1_faultAs 0 = .ok (.aload_n 0, 1) := by decide +kernel
theorem dX1_faultAs_1 : decode cX1_faultAs 1 = .ok (.getfield 15, 3) := by decide +kernel
theorem dX1_faultAs_4 : decode cX1_faultAs 4 = .ok (.ifCond .ne 5, 3) := by decide +kernel
theorem dX1_faultAs_7 : decode cX1_faultAs 7 = .ok (.iconst 1, 1) := by decide +kernel
theorem dX1_faultAs_8 : decode cX1_faultAs 8 = .ok (.ireturn, 1) := by decide +kernel
theorem dX1_faultAs_9 : decode cX1_faultAs 9 = .ok (.aload_n 0, 1) := by decide +kernel
theorem dX1_faultAs_10 : decode cX1_faultAs 10 = .ok (.getfield 19, 3) := by decide +kernel
theorem dX1_faultAs_13 : decode cX1_faultAs 13 = .ok (.iload_n 1, 1) := by decide +kernel
theorem dX1_faultAs_14 : decode cX1_faultAs 14 = .ok (.if_icmp .ne 7, 3) := by decide +kernel
theorem dX1_faultAs_17 : decode cX1_faultAs 17 = .ok (.iconst 0, 1) := by decide +kernel
theorem dX1_faultAs_18 : decode cX1_faultAs 18 = .ok (.goto 4, 3) := by decide +kernel
theorem dX1_faultAs_21 : decode cX1_faultAs 21 = .ok (.iconst 2, 1) := by decide +kernel
theorem dX1_faultAs_22 : decode cX1_faultAs 22 = .ok (.ireturn, 1) := by decide +kernel
theorem dX1_hasCell_0 : decode cX1_hasCell 0 = .ok (.iload_n 1, 1) := by decide +kernel
theorem dX1_hasCell_1 : decode cX1_hasCell 1 = .ok (.ifCond .lt 15, 3) := by decide +kernel
theorem dX1_hasCell_4 : decode cX1_hasCell 4 = .ok (.iload_n 1, 1) := by decide +kernel
theorem dX1_hasCell_5 : decode cX1_hasCell 5 = .ok (.aload_n 0, 1) := by decide +kernel
theorem dX1_hasCell_6 : decode cX1_hasCell 6 = .ok (.getfield 23, 3) := by decide +kernel
theorem dX1_hasCell_9 : decode cX1_hasCell 9 = .ok (.if_icmp .ge 7, 3) := by decide +kernel
theorem dX1_hasCell_12 : decode cX1_hasCell 12 = .ok (.iconst 1, 1) := by decide +kernel
theorem dX1_hasCell_13 : decode cX1_hasCell 13 = .ok (.goto 4, 3) := by decide +kernel
theorem dX1_hasCell_16 : decode cX1_hasCell 16 = .ok (.iconst 0, 1) := by decide +kernel
theorem dX1_hasCell_17 : decode cX1_hasCell 17 = .ok (.ireturn, 1) := by decide +kernel
theorem dX1_hasCells_0 : decode cX1_hasCells 0 = .ok (.iload_n 1, 1) := by decide +kernel
theorem dX1_hasCells_1 : decode cX1_hasCells 1 = .ok (.ifCond .lt 29, 3) := by decide +kernel
theorem dX1_hasCells_4 : decode cX1_hasCells 4 = .ok (.iload_n 1, 1) := by decide +kernel
theorem dX1_hasCells_5 : decode cX1_hasCells 5 = .ok (.aload_n 0, 1) := by decide +kernel
theorem dX1_hasCells_6 : decode cX1_hasCells 6 = .ok (.getfield 23, 3) := by decide +kernel
theorem dX1_hasCells_9 : decode cX1_hasCells 9 = .ok (.if_icmp .gt 21, 3) := by decide +kernel
theorem dX1_hasCells_12 : decode cX1_hasCells 12 = .ok (.iload_n 2, 1) := by decide +kernel
theorem dX1_hasCells_13 : decode cX1_hasCells 13 = .ok (.ifCond .lt 17, 3) := by decide +kernel
theorem dX1_hasCells_16 : decode cX1_hasCells 16 = .ok (.iload_n 2, 1) := by decide +kernel
theorem dX1_hasCells_17 : decode cX1_hasCells 17 = .ok (.aload_n 0, 1) := by decide +kernel
theorem dX1_hasCells_18 : decode cX1_hasCells 18 = .ok (.getfield 23, 3) := by decide +kernel
theorem dX1_hasCells_21 : decode cX1_hasCells 21 = .ok (.iload_n 1, 1) := by decide +kernel
theorem dX1_hasCells_22 : decode cX1_hasCells 22 = .ok (.isub, 1) := by decide +kernel
theorem dX1_hasCells_23 : decode cX1_hasCells 23 = .ok (.if_icmp .gt 7, 3) := by decide +kernel
theorem dX1_hasCells_26 : decode cX1_hasCells 26 = .ok (.iconst 1, 1) := by decide +kernel
theorem dX1_hasCells_27 : decode cX1_hasCells 27 = .ok (.goto 4, 3) := by decide +kernel
theorem dX1_hasCells_30 : decode cX1_hasCells 30 = .ok (.iconst 0, 1) := by decide +kernel
theorem dX1_hasCells_31 : decode cX1_hasCells 31 = .ok (.ireturn, 1) := by decide +kernel
theorem dX1_store_0 : decode cX1_store 0 = .ok (.aload_n 0, 1) := by decide +kernel
theorem dX1_store_1 : decode cX1_store 1 = .ok (.getfield 19, 3) := by decide +kernel
theorem dX1_store_4 : decode cX1_store 4 = .ok (.ifCond .ne 14, 3) := by decide +kernel
theorem dX1_store_7 : decode cX1_store 7 = .ok (.aload_n 0, 1) := by decide +kernel
theorem dX1_store_8 : decode cX1_store 8 = .ok (.getfield 9, 3) := by decide +kernel
theorem dX1_store_11 : decode cX1_store 11 = .ok (.iload_n 1, 1) := by decide +kernel
theorem dX1_store_12 : decode cX1_store 12 = .ok (.iload_n 2, 1) := by decide +kernel
theorem dX1_store_13 : decode cX1_store 13 = .ok (.i2b, 1) := by decide +kernel
theorem dX1_store_14 : decode cX1_store 14 = .ok (.iastore, 1) := by decide +kernel
theorem dX1_store_15 : decode cX1_store 15 = .ok (.goto 29, 3) := by decide +kernel
theorem dX1_store_18 : decode cX1_store 18 = .ok (.aload_n 0, 1) := by decide +kernel
theorem dX1_store_19 : decode cX1_store 19 = .ok (.getfield 19, 3) := by decide +kernel
theorem dX1_store_22 : decode cX1_store 22 = .ok (.iconst 1, 1) := by decide +kernel
theorem dX1_store_23 : decode cX1_store 23 = .ok (.if_icmp .ne 14, 3) := by decide +kernel
theorem dX1_store_26 : decode cX1_store 26 = .ok (.aload_n 0, 1) := by decide +kernel
theorem dX1_store_27 : decode cX1_store 27 = .ok (.getfield 9, 3) := by decide +kernel
theorem dX1_store_30 : decode cX1_store 30 = .ok (.iload_n 1, 1) := by decide +kernel
theorem dX1_store_31 : decode cX1_store 31 = .ok (.iload_n 2, 1) := by decide +kernel
theorem dX1_store_32 : decode cX1_store 32 = .ok (.i2s, 1) := by decide +kernel
theorem dX1_store_33 : decode cX1_store 33 = .ok (.iastore, 1) := by decide +kernel
theorem dX1_store_34 : decode cX1_store 34 = .ok (.goto 10, 3) := by decide +kernel
theorem dX1_store_37 : decode cX1_store 37 = .ok (.aload_n 0, 1) := by decide +kernel
theorem dX1_store_38 : decode cX1_store 38 = .ok (.getfield 9, 3) := by decide +kernel
theorem dX1_store_41 : decode cX1_store 41 = .ok (.iload_n 1, 1) := by decide +kernel
theorem dX1_store_42 : decode cX1_store 42 = .ok (.iload_n 2, 1) := by decide +kernel
theorem dX1_store_43 : decode cX1_store 43 = .ok (.iastore, 1) := by decide +kernel
theorem dX1_store_44 : decode cX1_store 44 = .ok (.return_, 1) := by decide +kernel
theorem dX2_firstFault_0 : decode cX2_firstFault 0 = .ok (.iconst 0, 1) := by decide +kernel
theorem dX2_firstFault_1 : decode cX2_firstFault 1 = .ok (.istore_n 3, 1) := by decide +kernel
theorem dX2_firstFault_2 : decode cX2_firstFault 2 = .ok (.iconst 4, 1) := by decide +kernel
theorem dX2_firstFault_3 : decode cX2_firstFault 3 = .ok (.istore 4, 2) := by decide +kernel
theorem dX2_firstFault_5 : decode cX2_firstFault 5 = .ok (.iconst 0, 1) := by decide +kernel
theorem dX2_firstFault_6 : decode cX2_firstFault 6 = .ok (.istore 5, 2) := by decide +kernel
theorem dX2_firstFault_8 : decode cX2_firstFault 8 = .ok (.iload 5, 2) := by decide +kernel
theorem dX2_firstFault_10 : decode cX2_firstFault 10 = .ok (.iload_n 2, 1) := by decide +kernel
theorem dX2_firstFault_11 : decode cX2_firstFault 11 = .ok (.if_icmp .ge 62, 3) := by decide +kernel
theorem dX2_firstFault_14 : decode cX2_firstFault 14 = .ok (.aload_n 0, 1) := by decide +kernel
theorem dX2_firstFault_15 : decode cX2_firstFault 15 = .ok (.getfield 9, 3) := by decide +kernel
theorem dX2_firstFault_18 : decode cX2_firstFault 18 = .ok (.iload_n 1, 1) := by decide +kernel
theorem dX2_firstFault_19 : decode cX2_firstFault 19 = .ok (.iload 5, 2) := by decide +kernel
theorem dX2_firstFault_21 : decode cX2_firstFault 21 = .ok (.iadd, 1) := by decide +kernel
theorem dX2_firstFault_22 : decode cX2_firstFault 22 = .ok (.iaload, 1) := by decide +kernel
theorem dX2_firstFault_23 : decode cX2_firstFault 23 = .ok (.istore 6, 2) := by decide +kernel
theorem dX2_firstFault_25 : decode cX2_firstFault 25 = .ok (.iload 5, 2) := by decide +kernel
theorem dX2_firstFault_27 : decode cX2_firstFault 27 = .ok (.iload 4, 2) := by decide +kernel
theorem dX2_firstFault_29 : decode cX2_firstFault 29 = .ok (.if_icmp .ge 14, 3) := by decide +kernel
theorem dX2_firstFault_32 : decode cX2_firstFault 32 = .ok (.iload 5, 2) := by decide +kernel
theorem dX2_firstFault_34 : decode cX2_firstFault 34 = .ok (.iload 6, 2) := by decide +kernel
theorem dX2_firstFault_36 : decode cX2_firstFault 36 = .ok (.iload_n 3, 1) := by decide +kernel
theorem dX2_firstFault_37 : decode cX2_firstFault 37 = .ok (.invokestatic 15, 3) := by decide +kernel
theorem dX2_firstFault_40 : decode cX2_firstFault 40 = .ok (.ifCond .ne 6, 3) := by decide +kernel
theorem dX2_firstFault_43 : decode cX2_firstFault 43 = .ok (.iload 5, 2) := by decide +kernel
theorem dX2_firstFault_45 : decode cX2_firstFault 45 = .ok (.ireturn, 1) := by decide +kernel
theorem dX2_firstFault_46 : decode cX2_firstFault 46 = .ok (.iload 5, 2) := by decide +kernel
theorem dX2_firstFault_48 : decode cX2_firstFault 48 = .ok (.iconst 3, 1) := by decide +kernel
theorem dX2_firstFault_49 : decode cX2_firstFault 49 = .ok (.if_icmp .ne 18, 3) := by decide +kernel
theorem dX2_firstFault_52 : decode cX2_firstFault 52 = .ok (.iload 6, 2) := by decide +kernel
theorem dX2_firstFault_54 : decode cX2_firstFault 54 = .ok (.bipush 48, 2) := by decide +kernel
theorem dX2_firstFault_56 : decode cX2_firstFault 56 = .ok (.isub, 1) := by decide +kernel
theorem dX2_firstFault_57 : decode cX2_firstFault 57 = .ok (.istore_n 3, 1) := by decide +kernel
theorem dX2_firstFault_58 : decode cX2_firstFault 58 = .ok (.iconst 4, 1) := by decide +kernel
theorem dX2_firstFault_59 : decode cX2_firstFault 59 = .ok (.iload_n 3, 1) := by decide +kernel
theorem dX2_firstFault_60 : decode cX2_firstFault 60 = .ok (.iconst 3, 1) := by decide +kernel
theorem dX2_firstFault_61 : decode cX2_firstFault 61 = .ok (.iload_n 3, 1) := by decide +kernel
theorem dX2_firstFault_62 : decode cX2_firstFault 62 = .ok (.iadd, 1) := by decide +kernel
theorem dX2_firstFault_63 : decode cX2_firstFault 63 = .ok (.imul, 1) := by decide +kernel
theorem dX2_firstFault_64 : decode cX2_firstFault 64 = .ok (.iadd, 1) := by decide +kernel
theorem dX2_firstFault_65 : decode cX2_firstFault 65 = .ok (.istore 4, 2) := by decide +kernel
theorem dX2_firstFault_67 : decode cX2_firstFault 67 = .ok (.iinc 5 1, 3) := by decide +kernel
theorem dX2_firstFault_70 : decode cX2_firstFault 70 = .ok (.goto (-62), 3) := by decide +kernel
theorem dX2_firstFault_73 : decode cX2_firstFault 73 = .ok (.iload_n 2, 1) := by decide +kernel
theorem dX2_firstFault_74 : decode cX2_firstFault 74 = .ok (.iload 4, 2) := by decide +kernel
theorem dX2_firstFault_76 : decode cX2_firstFault 76 = .ok (.if_icmp .ge 7, 3) := by decide +kernel
theorem dX2_firstFault_79 : decode cX2_firstFault 79 = .ok (.iload_n 2, 1) := by decide +kernel
theorem dX2_firstFault_80 : decode cX2_firstFault 80 = .ok (.goto 5, 3) := by decide +kernel
theorem dX2_firstFault_83 : decode cX2_firstFault 83 = .ok (.bipush (-9), 2) := by decide +kernel
theorem dX2_firstFault_85 : decode cX2_firstFault 85 = .ok (.ireturn, 1) := by decide +kernel
theorem dX2_goesOn_0 : decode cX2_goesOn 0 = .ok (.iload_n 0, 1) := by decide +kernel
theorem dX2_goesOn_1 : decode cX2_goesOn 1 = .ok (.tableswitch 64 0 3 #[31, 43, 50, 57], 31) := by decide +kernel
theorem dX2_goesOn_32 : decode cX2_goesOn 32 = .ok (.iload_n 1, 1) := by decide +kernel
theorem dX2_goesOn_33 : decode cX2_goesOn 33 = .ok (.bipush 111, 2) := by decide +kernel
theorem dX2_goesOn_35 : decode cX2_goesOn 35 = .ok (.if_icmp .ne 7, 3) := by decide +kernel
theorem dX2_goesOn_38 : decode cX2_goesOn 38 = .ok (.iconst 1, 1) := by decide +kernel
theorem dX2_goesOn_39 : decode cX2_goesOn 39 = .ok (.goto 4, 3) := by decide +kernel
theorem dX2_goesOn_42 : decode cX2_goesOn 42 = .ok (.iconst 0, 1) := by decide +kernel
theorem dX2_goesOn_43 : decode cX2_goesOn 43 = .ok (.ireturn, 1) := by decide +kernel
theorem dX2_goesOn_44 : decode cX2_goesOn 44 = .ok (.iload_n 1, 1) := by decide +kernel
theorem dX2_goesOn_45 : decode cX2_goesOn 45 = .ok (.iconst 1, 1) := by decide +kernel
theorem dX2_goesOn_46 : decode cX2_goesOn 46 = .ok (.iconst 3, 1) := by decide +kernel
theorem dX2_goesOn_47 : decode cX2_goesOn 47 = .ok (.invokestatic 21, 3) := by decide +kernel
theorem dX2_goesOn_50 : decode cX2_goesOn 50 = .ok (.ireturn, 1) := by decide +kernel
theorem dX2_goesOn_51 : decode cX2_goesOn 51 = .ok (.iload_n 1, 1) := by decide +kernel
theorem dX2_goesOn_52 : decode cX2_goesOn 52 = .ok (.iconst 1, 1) := by decide +kernel
theorem dX2_goesOn_53 : decode cX2_goesOn 53 = .ok (.iconst 3, 1) := by decide +kernel
theorem dX2_goesOn_54 : decode cX2_goesOn 54 = .ok (.invokestatic 21, 3) := by decide +kernel
theorem dX2_goesOn_57 : decode cX2_goesOn 57 = .ok (.ireturn, 1) := by decide +kernel
theorem dX2_goesOn_58 : decode cX2_goesOn 58 = .ok (.iload_n 1, 1) := by decide +kernel
theorem dX2_goesOn_59 : decode cX2_goesOn 59 = .ok (.iconst 2, 1) := by decide +kernel
theorem dX2_goesOn_60 : decode cX2_goesOn 60 = .ok (.iconst 5, 1) := by decide +kernel
theorem dX2_goesOn_61 : decode cX2_goesOn 61 = .ok (.invokestatic 21, 3) := by decide +kernel
theorem dX2_goesOn_64 : decode cX2_goesOn 64 = .ok (.ireturn, 1) := by decide +kernel
theorem dX2_goesOn_65 : decode cX2_goesOn 65 = .ok (.iload_n 0, 1) := by decide +kernel
theorem dX2_goesOn_66 : decode cX2_goesOn 66 = .ok (.iconst 4, 1) := by decide +kernel
theorem dX2_goesOn_67 : decode cX2_goesOn 67 = .ok (.isub, 1) := by decide +kernel
theorem dX2_goesOn_68 : decode cX2_goesOn 68 = .ok (.iload_n 1, 1) := by decide +kernel
theorem dX2_goesOn_69 : decode cX2_goesOn 69 = .ok (.iload_n 2, 1) := by decide +kernel
theorem dX2_goesOn_70 : decode cX2_goesOn 70 = .ok (.invokestatic 24, 3) := by decide +kernel
theorem dX2_goesOn_73 : decode cX2_goesOn 73 = .ok (.ireturn, 1) := by decide +kernel
theorem dX2_goesOnInPerson_0 : decode cX2_goesOnInPerson 0 = .ok (.iconst 3, 1) := by decide +kernel
theorem dX2_goesOnInPerson_1 : decode cX2_goesOnInPerson 1 = .ok (.iload_n 2, 1) := by decide +kernel
theorem dX2_goesOnInPerson_2 : decode cX2_goesOnInPerson 2 = .ok (.iadd, 1) := by decide +kernel
theorem dX2_goesOnInPerson_3 : decode cX2_goesOnInPerson 3 = .ok (.istore_n 3, 1) := by decide +kernel
theorem dX2_goesOnInPerson_4 : decode cX2_goesOnInPerson 4 = .ok (.iload_n 0, 1) := by decide +kernel
theorem dX2_goesOnInPerson_5 : decode cX2_goesOnInPerson 5 = .ok (.iload_n 3, 1) := by decide +kernel
theorem dX2_goesOnInPerson_6 : decode cX2_goesOnInPerson 6 = .ok (.idiv, 1) := by decide +kernel
theorem dX2_goesOnInPerson_7 : decode cX2_goesOnInPerson 7 = .ok (.istore 4, 2) := by decide +kernel
theorem dX2_goesOnInPerson_9 : decode cX2_goesOnInPerson 9 = .ok (.iload_n 0, 1) := by decide +kernel
theorem dX2_goesOnInPerson_10 : decode cX2_goesOnInPerson 10 = .ok (.iload_n 3, 1) := by decide +kernel
theorem dX2_goesOnInPerson_11 : decode cX2_goesOnInPerson 11 = .ok (.irem, 1) := by decide +kernel
theorem dX2_goesOnInPerson_12 : decode cX2_goesOnInPerson 12 = .ok (.istore 5, 2) := by decide +kernel
theorem dX2_goesOnInPerson_14 : decode cX2_goesOnInPerson 14 = .ok (.iload 5, 2) := by decide +kernel
theorem dX2_goesOnInPerson_16 : decode cX2_goesOnInPerson 16 = .ok (.tableswitch 62 0 2 #[28, 40, 55], 28) := by decide +kernel
theorem dX2_goesOnInPerson_44 : decode cX2_goesOnInPerson 44 = .ok (.iload_n 1, 1) := by decide +kernel
theorem dX2_goesOnInPerson_45 : decode cX2_goesOnInPerson 45 = .ok (.bipush 44, 2) := by decide +kernel
theorem dX2_goesOnInPerson_47 : decode cX2_goesOnInPerson 47 = .ok (.if_icmp .ne 7, 3) := by decide +kernel
theorem dX2_goesOnInPerson_50 : decode cX2_goesOnInPerson 50 = .ok (.iconst 1, 1) := by decide +kernel
theorem dX2_goesOnInPerson_51 : decode cX2_goesOnInPerson 51 = .ok (.goto 4, 3) := by decide +kernel
theorem dX2_goesOnInPerson_54 : decode cX2_goesOnInPerson 54 = .ok (.iconst 0, 1) := by decide +kernel
theorem dX2_goesOnInPerson_55 : decode cX2_goesOnInPerson 55 = .ok (.ireturn, 1) := by decide +kernel
theorem dX2_goesOnInPerson_56 : decode cX2_goesOnInPerson 56 = .ok (.iload_n 1, 1) := by decide +kernel
theorem dX2_goesOnInPerson_57 : decode cX2_goesOnInPerson 57 = .ok (.invokestatic 27, 3) := by decide +kernel
theorem dX2_goesOnInPerson_60 : decode cX2_goesOnInPerson 60 = .ok (.bipush (-9), 2) := by decide +kernel
theorem dX2_goesOnInPerson_62 : decode cX2_goesOnInPerson 62 = .ok (.if_icmp .eq 7, 3) := by decide +kernel
theorem dX2_goesOnInPerson_65 : decode cX2_goesOnInPerson 65 = .ok (.iconst 1, 1) := by decide +kernel
theorem dX2_goesOnInPerson_66 : decode cX2_goesOnInPerson 66 = .ok (.goto 4, 3) := by decide +kernel
theorem dX2_goesOnInPerson_69 : decode cX2_goesOnInPerson 69 = .ok (.iconst 0, 1) := by decide +kernel
theorem dX2_goesOnInPerson_70 : decode cX2_goesOnInPerson 70 = .ok (.ireturn, 1) := by decide +kernel
theorem dX2_goesOnInPerson_71 : decode cX2_goesOnInPerson 71 = .ok (.iload_n 1, 1) := by decide +kernel
theorem dX2_goesOnInPerson_72 : decode cX2_goesOnInPerson 72 = .ok (.iconst 0, 1) := by decide +kernel
theorem dX2_goesOnInPerson_73 : decode cX2_goesOnInPerson 73 = .ok (.iconst 1, 1) := by decide +kernel
theorem dX2_goesOnInPerson_74 : decode cX2_goesOnInPerson 74 = .ok (.invokestatic 21, 3) := by decide +kernel
theorem dX2_goesOnInPerson_77 : decode cX2_goesOnInPerson 77 = .ok (.ireturn, 1) := by decide +kernel
theorem dX2_goesOnInPerson_78 : decode cX2_goesOnInPerson 78 = .ok (.iload_n 1, 1) := by decide +kernel
theorem dX2_goesOnInPerson_79 : decode cX2_goesOnInPerson 79 = .ok (.iconst 0, 1) := by decide +kernel
theorem dX2_goesOnInPerson_80 : decode cX2_goesOnInPerson 80 = .ok (.iload 5, 2) := by decide +kernel
theorem dX2_goesOnInPerson_82 : decode cX2_goesOnInPerson 82 = .ok (.iconst 3, 1) := by decide +kernel
theorem dX2_goesOnInPerson_83 : decode cX2_goesOnInPerson 83 = .ok (.isub, 1) := by decide +kernel
theorem dX2_goesOnInPerson_84 : decode cX2_goesOnInPerson 84 = .ok (.iload 4, 2) := by decide +kernel
theorem dX2_goesOnInPerson_86 : decode cX2_goesOnInPerson 86 = .ok (.if_icmp .ne 7, 3) := by decide +kernel
theorem dX2_goesOnInPerson_89 : decode cX2_goesOnInPerson 89 = .ok (.iconst 0, 1) := by decide +kernel
theorem dX2_goesOnInPerson_90 : decode cX2_goesOnInPerson 90 = .ok (.goto 5, 3) := by decide +kernel
theorem dX2_goesOnInPerson_93 : decode cX2_goesOnInPerson 93 = .ok (.bipush 9, 2) := by decide +kernel
theorem dX2_goesOnInPerson_95 : decode cX2_goesOnInPerson 95 = .ok (.invokestatic 21, 3) := by decide +kernel
theorem dX2_goesOnInPerson_98 : decode cX2_goesOnInPerson 98 = .ok (.ireturn, 1) := by decide +kernel
theorem dX2_isDigit_0 : decode cX2_isDigit 0 = .ok (.iload_n 0, 1) := by decide +kernel
theorem dX2_isDigit_1 : decode cX2_isDigit 1 = .ok (.bipush 48, 2) := by decide +kernel
theorem dX2_isDigit_3 : decode cX2_isDigit 3 = .ok (.iload_n 1, 1) := by decide +kernel
theorem dX2_isDigit_4 : decode cX2_isDigit 4 = .ok (.iadd, 1) := by decide +kernel
theorem dX2_isDigit_5 : decode cX2_isDigit 5 = .ok (.if_icmp .lt 15, 3) := by decide +kernel
theorem dX2_isDigit_8 : decode cX2_isDigit 8 = .ok (.iload_n 0, 1) := by decide +kernel
theorem dX2_isDigit_9 : decode cX2_isDigit 9 = .ok (.bipush 48, 2) := by decide +kernel
theorem dX2_isDigit_11 : decode cX2_isDigit 11 = .ok (.iload_n 2, 1) := by decide +kernel
theorem dX2_isDigit_12 : decode cX2_isDigit 12 = .ok (.iadd, 1) := by decide +kernel
theorem dX2_isDigit_13 : decode cX2_isDigit 13 = .ok (.if_icmp .gt 7, 3) := by decide +kernel
theorem dX2_isDigit_16 : decode cX2_isDigit 16 = .ok (.iconst 1, 1) := by decide +kernel
theorem dX2_isDigit_17 : decode cX2_isDigit 17 = .ok (.goto 4, 3) := by decide +kernel
theorem dX2_isDigit_20 : decode cX2_isDigit 20 = .ok (.iconst 0, 1) := by decide +kernel
theorem dX2_isDigit_21 : decode cX2_isDigit 21 = .ok (.ireturn, 1) := by decide +kernel
theorem dX2_kindOf_0 : decode cX2_kindOf 0 = .ok (.iload_n 0, 1) := by decide +kernel
theorem dX2_kindOf_1 : decode cX2_kindOf 1 = .ok (.lookupswitch 41 #[(98, 39), (102, 37), (114, 35)], 35) := by decide +kernel
theorem dX2_kindOf_36 : decode cX2_kindOf 36 = .ok (.iconst 0, 1) := by decide +kernel
theorem dX2_kindOf_37 : decode cX2_kindOf 37 = .ok (.ireturn, 1) := by decide +kernel
theorem dX2_kindOf_38 : decode cX2_kindOf 38 = .ok (.iconst 1, 1) := by decide +kernel
theorem dX2_kindOf_39 : decode cX2_kindOf 39 = .ok (.ireturn, 1) := by decide +kernel
theorem dX2_kindOf_40 : decode cX2_kindOf 40 = .ok (.iconst 2, 1) := by decide +kernel
theorem dX2_kindOf_41 : decode cX2_kindOf 41 = .ok (.ireturn, 1) := by decide +kernel
theorem dX2_kindOf_42 : decode cX2_kindOf 42 = .ok (.bipush (-9), 2) := by decide +kernel
theorem dX2_kindOf_44 : decode cX2_kindOf 44 = .ok (.ireturn, 1) := by decide +kernel
theorem dJ6_bitCount_0f7a4_0 : decode cJ6_bitCount_0f7a4 0 = .ok (.iload_n 0, 1) := by decide +kernel
theorem dJ6_bitCount_0f7a4_1 : decode cJ6_bitCount_0f7a4 1 = .ok (.iload_n 0, 1) := by decide +kernel
theorem dJ6_bitCount_0f7a4_2 : decode cJ6_bitCount_0f7a4 2 = .ok (.iconst 1, 1) := by decide +kernel
theorem dJ6_bitCount_0f7a4_3 : decode cJ6_bitCount_0f7a4 3 = .ok (.iushr, 1) := by decide +kernel
theorem dJ6_bitCount_0f7a4_4 : decode cJ6_bitCount_0f7a4 4 = .ok (.ldc_w 265, 3) := by decide +kernel
theorem dJ6_bitCount_0f7a4_7 : decode cJ6_bitCount_0f7a4 7 = .ok (.iand, 1) := by decide +kernel
theorem dJ6_bitCount_0f7a4_8 : decode cJ6_bitCount_0f7a4 8 = .ok (.isub, 1) := by decide +kernel
theorem dJ6_bitCount_0f7a4_9 : decode cJ6_bitCount_0f7a4 9 = .ok (.istore_n 0, 1) := by decide +kernel
theorem dJ6_bitCount_0f7a4_10 : decode cJ6_bitCount_0f7a4 10 = .ok (.iload_n 0, 1) := by decide +kernel
theorem dJ6_bitCount_0f7a4_11 : decode cJ6_bitCount_0f7a4 11 = .ok (.ldc_w 266, 3) := by decide +kernel
theorem dJ6_bitCount_0f7a4_14 : decode cJ6_bitCount_0f7a4 14 = .ok (.iand, 1) := by decide +kernel
theorem dJ6_bitCount_0f7a4_15 : decode cJ6_bitCount_0f7a4 15 = .ok (.iload_n 0, 1) := by decide +kernel
theorem dJ6_bitCount_0f7a4_16 : decode cJ6_bitCount_0f7a4 16 = .ok (.iconst 2, 1) := by decide +kernel
theorem dJ6_bitCount_0f7a4_17 : decode cJ6_bitCount_0f7a4 17 = .ok (.iushr, 1) := by decide +kernel
theorem dJ6_bitCount_0f7a4_18 : decode cJ6_bitCount_0f7a4 18 = .ok (.ldc_w 266, 3) := by decide +kernel
theorem dJ6_bitCount_0f7a4_21 : decode cJ6_bitCount_0f7a4 21 = .ok (.iand, 1) := by decide +kernel
theorem dJ6_bitCount_0f7a4_22 : decode cJ6_bitCount_0f7a4 22 = .ok (.iadd, 1) := by decide +kernel
theorem dJ6_bitCount_0f7a4_23 : decode cJ6_bitCount_0f7a4 23 = .ok (.istore_n 0, 1) := by decide +kernel
theorem dJ6_bitCount_0f7a4_24 : decode cJ6_bitCount_0f7a4 24 = .ok (.iload_n 0, 1) := by decide +kernel
theorem dJ6_bitCount_0f7a4_25 : decode cJ6_bitCount_0f7a4 25 = .ok (.iload_n 0, 1) := by decide +kernel
theorem dJ6_bitCount_0f7a4_26 : decode cJ6_bitCount_0f7a4 26 = .ok (.iconst 4, 1) := by decide +kernel
theorem dJ6_bitCount_0f7a4_27 : decode cJ6_bitCount_0f7a4 27 = .ok (.iushr, 1) := by decide +kernel
theorem dJ6_bitCount_0f7a4_28 : decode cJ6_bitCount_0f7a4 28 = .ok (.iadd, 1) := by decide +kernel
theorem dJ6_bitCount_0f7a4_29 : decode cJ6_bitCount_0f7a4 29 = .ok (.ldc_w 267, 3) := by decide +kernel
theorem dJ6_bitCount_0f7a4_32 : decode cJ6_bitCount_0f7a4 32 = .ok (.iand, 1) := by decide +kernel
theorem dJ6_bitCount_0f7a4_33 : decode cJ6_bitCount_0f7a4 33 = .ok (.istore_n 0, 1) := by decide +kernel
theorem dJ6_bitCount_0f7a4_34 : decode cJ6_bitCount_0f7a4 34 = .ok (.iload_n 0, 1) := by decide +kernel
theorem dJ6_bitCount_0f7a4_35 : decode cJ6_bitCount_0f7a4 35 = .ok (.iload_n 0, 1) := by decide +kernel
theorem dJ6_bitCount_0f7a4_36 : decode cJ6_bitCount_0f7a4 36 = .ok (.bipush 8, 2) := by decide +kernel
theorem dJ6_bitCount_0f7a4_38 : decode cJ6_bitCount_0f7a4 38 = .ok (.iushr, 1) := by decide +kernel
theorem dJ6_bitCount_0f7a4_39 : decode cJ6_bitCount_0f7a4 39 = .ok (.iadd, 1) := by decide +kernel
theorem dJ6_bitCount_0f7a4_40 : decode cJ6_bitCount_0f7a4 40 = .ok (.istore_n 0, 1) := by decide +kernel
theorem dJ6_bitCount_0f7a4_41 : decode cJ6_bitCount_0f7a4 41 = .ok (.iload_n 0, 1) := by decide +kernel
theorem dJ6_bitCount_0f7a4_42 : decode cJ6_bitCount_0f7a4 42 = .ok (.iload_n 0, 1) := by decide +kernel
theorem dJ6_bitCount_0f7a4_43 : decode cJ6_bitCount_0f7a4 43 = .ok (.bipush 16, 2) := by decide +kernel
theorem dJ6_bitCount_0f7a4_45 : decode cJ6_bitCount_0f7a4 45 = .ok (.iushr, 1) := by decide +kernel
theorem dJ6_bitCount_0f7a4_46 : decode cJ6_bitCount_0f7a4 46 = .ok (.iadd, 1) := by decide +kernel
theorem dJ6_bitCount_0f7a4_47 : decode cJ6_bitCount_0f7a4 47 = .ok (.istore_n 0, 1) := by decide +kernel
theorem dJ6_bitCount_0f7a4_48 : decode cJ6_bitCount_0f7a4 48 = .ok (.iload_n 0, 1) := by decide +kernel
theorem dJ6_bitCount_0f7a4_49 : decode cJ6_bitCount_0f7a4 49 = .ok (.bipush 63, 2) := by decide +kernel
theorem dJ6_bitCount_0f7a4_51 : decode cJ6_bitCount_0f7a4 51 = .ok (.iand, 1) := by decide +kernel
theorem dJ6_bitCount_0f7a4_52 : decode cJ6_bitCount_0f7a4 52 = .ok (.ireturn, 1) := by decide +kernel
theorem dJ9_min_7cf53_0 : decode cJ9_min_7cf53 0 = .ok (.iload_n 0, 1) := by decide +kernel
theorem dJ9_min_7cf53_1 : decode cJ9_min_7cf53 1 = .ok (.iload_n 1, 1) := by decide +kernel
theorem dJ9_min_7cf53_2 : decode cJ9_min_7cf53 2 = .ok (.if_icmp .gt 7, 3) := by decide +kernel
theorem dJ9_min_7cf53_5 : decode cJ9_min_7cf53 5 = .ok (.iload_n 0, 1) := by decide +kernel
theorem dJ9_min_7cf53_6 : decode cJ9_min_7cf53 6 = .ok (.goto 4, 3) := by decide +kernel
theorem dJ9_min_7cf53_9 : decode cJ9_min_7cf53 9 = .ok (.iload_n 1, 1) := by decide +kernel
theorem dJ9_min_7cf53_10 : decode cJ9_min_7cf53 10 = .ok (.ireturn, 1) := by decide +kernel
