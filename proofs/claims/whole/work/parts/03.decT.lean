theorem d_T_init_0 : decode c_T_init 0 = .ok (.aload_n 0, 1) := by decide +kernel
theorem d_T_init_1 : decode c_T_init 1 = .ok (.invokespecial 3, 3) := by decide +kernel
theorem d_T_init_4 : decode c_T_init 4 = .ok (.aload_n 0, 1) := by decide +kernel
theorem d_T_init_5 : decode c_T_init 5 = .ok (.bipush 20, 2) := by decide +kernel
theorem d_T_init_7 : decode c_T_init 7 = .ok (.anewarray 9, 3) := by decide +kernel
theorem d_T_init_10 : decode c_T_init 10 = .ok (.putfield 11, 3) := by decide +kernel
theorem d_T_init_13 : decode c_T_init 13 = .ok (.aload_n 0, 1) := by decide +kernel
theorem d_T_init_14 : decode c_T_init 14 = .ok (.sipush 200, 3) := by decide +kernel
theorem d_T_init_17 : decode c_T_init 17 = .ok (.anewarray 15, 3) := by decide +kernel
theorem d_T_init_20 : decode c_T_init 20 = .ok (.putfield 17, 3) := by decide +kernel
theorem d_T_init_23 : decode c_T_init 23 = .ok (.aload_n 0, 1) := by decide +kernel
theorem d_T_init_24 : decode c_T_init 24 = .ok (.iconst 0, 1) := by decide +kernel
theorem d_T_init_25 : decode c_T_init 25 = .ok (.putfield 21, 3) := by decide +kernel
theorem d_T_init_28 : decode c_T_init 28 = .ok (.aload_n 0, 1) := by decide +kernel
theorem d_T_init_29 : decode c_T_init 29 = .ok (.iconst 0, 1) := by decide +kernel
theorem d_T_init_30 : decode c_T_init 30 = .ok (.putfield 25, 3) := by decide +kernel
theorem d_T_init_33 : decode c_T_init 33 = .ok (.aload_n 0, 1) := by decide +kernel
theorem d_T_init_34 : decode c_T_init 34 = .ok (.iconst 0, 1) := by decide +kernel
theorem d_T_init_35 : decode c_T_init 35 = .ok (.putfield 28, 3) := by decide +kernel
theorem d_T_init_38 : decode c_T_init 38 = .ok (.iload_n 1, 1) := by decide +kernel
theorem d_T_init_39 : decode c_T_init 39 = .ok (.iconst 2, 1) := by decide +kernel
theorem d_T_init_40 : decode c_T_init 40 = .ok (.if_icmp .lt 13, 3) := by decide +kernel
theorem d_T_init_43 : decode c_T_init 43 = .ok (.iload_n 1, 1) := by decide +kernel
theorem d_T_init_44 : decode c_T_init 44 = .ok (.bipush 8, 2) := by decide +kernel
theorem d_T_init_46 : decode c_T_init 46 = .ok (.if_icmp .gt 7, 3) := by decide +kernel
theorem d_T_init_49 : decode c_T_init 49 = .ok (.iconst 1, 1) := by decide +kernel
theorem d_T_init_50 : decode c_T_init 50 = .ok (.goto 4, 3) := by decide +kernel
theorem d_T_init_53 : decode c_T_init 53 = .ok (.iconst 0, 1) := by decide +kernel
theorem d_T_init_54 : decode c_T_init 54 = .ok (.istore_n 2, 1) := by decide +kernel
theorem d_T_init_55 : decode c_T_init 55 = .ok (.aload_n 0, 1) := by decide +kernel
theorem d_T_init_56 : decode c_T_init 56 = .ok (.iload_n 2, 1) := by decide +kernel
theorem d_T_init_57 : decode c_T_init 57 = .ok (.ifCond .eq 7, 3) := by decide +kernel
theorem d_T_init_60 : decode c_T_init 60 = .ok (.iload_n 1, 1) := by decide +kernel
theorem d_T_init_61 : decode c_T_init 61 = .ok (.goto 4, 3) := by decide +kernel
theorem d_T_init_64 : decode c_T_init 64 = .ok (.iconst 4, 1) := by decide +kernel
theorem d_T_init_65 : decode c_T_init 65 = .ok (.putfield 31, 3) := by decide +kernel
theorem d_T_init_68 : decode c_T_init 68 = .ok (.return_, 1) := by decide +kernel
theorem d_T_lose_0 : decode c_T_lose 0 = .ok (.aload_n 0, 1) := by decide +kernel
theorem d_T_lose_1 : decode c_T_lose 1 = .ok (.iload_n 1, 1) := by decide +kernel
theorem d_T_lose_2 : decode c_T_lose 2 = .ok (.invokevirtual 113, 3) := by decide +kernel
theorem d_T_lose_5 : decode c_T_lose 5 = .ok (.astore_n 2, 1) := by decide +kernel
theorem d_T_lose_6 : decode c_T_lose 6 = .ok (.aload_n 2, 1) := by decide +kernel
theorem d_T_lose_7 : decode c_T_lose 7 = .ok (.ifnull 10, 3) := by decide +kernel
theorem d_T_lose_10 : decode c_T_lose 10 = .ok (.aload_n 2, 1) := by decide +kernel
theorem d_T_lose_11 : decode c_T_lose 11 = .ok (.getfield 119, 3) := by decide +kernel
theorem d_T_lose_14 : decode c_T_lose 14 = .ok (.ifCond .eq 5, 3) := by decide +kernel
theorem d_T_lose_17 : decode c_T_lose 17 = .ok (.iconst 0, 1) := by decide +kernel
theorem d_T_lose_18 : decode c_T_lose 18 = .ok (.ireturn, 1) := by decide +kernel
theorem d_T_lose_19 : decode c_T_lose 19 = .ok (.aload_n 2, 1) := by decide +kernel
theorem d_T_lose_20 : decode c_T_lose 20 = .ok (.iconst 2, 1) := by decide +kernel
theorem d_T_lose_21 : decode c_T_lose 21 = .ok (.putfield 119, 3) := by decide +kernel
theorem d_T_lose_24 : decode c_T_lose 24 = .ok (.iconst 1, 1) := by decide +kernel
theorem d_T_lose_25 : decode c_T_lose 25 = .ok (.ireturn, 1) := by decide +kernel
theorem d_T_findMessage_0 : decode c_T_findMessage 0 = .ok (.iload_n 1, 1) := by decide +kernel
theorem d_T_findMessage_1 : decode c_T_findMessage 1 = .ok (.ifCond .lt 21, 3) := by decide +kernel
theorem d_T_findMessage_4 : decode c_T_findMessage 4 = .ok (.iload_n 1, 1) := by decide +kernel
theorem d_T_findMessage_5 : decode c_T_findMessage 5 = .ok (.aload_n 0, 1) := by decide +kernel
theorem d_T_findMessage_6 : decode c_T_findMessage 6 = .ok (.getfield 17, 3) := by decide +kernel
theorem d_T_findMessage_9 : decode c_T_findMessage 9 = .ok (.arraylength, 1) := by decide +kernel
theorem d_T_findMessage_10 : decode c_T_findMessage 10 = .ok (.if_icmp .ge 12, 3) := by decide +kernel
theorem d_T_findMessage_13 : decode c_T_findMessage 13 = .ok (.aload_n 0, 1) := by decide +kernel
theorem d_T_findMessage_14 : decode c_T_findMessage 14 = .ok (.getfield 17, 3) := by decide +kernel
theorem d_T_findMessage_17 : decode c_T_findMessage 17 = .ok (.iload_n 1, 1) := by decide +kernel
theorem d_T_findMessage_18 : decode c_T_findMessage 18 = .ok (.aaload, 1) := by decide +kernel
theorem d_T_findMessage_19 : decode c_T_findMessage 19 = .ok (.goto 4, 3) := by decide +kernel
theorem d_T_findMessage_22 : decode c_T_findMessage 22 = .ok (.aconst_null, 1) := by decide +kernel
theorem d_T_findMessage_23 : decode c_T_findMessage 23 = .ok (.areturn, 1) := by decide +kernel
theorem d_T_count_0 : decode c_T_count 0 = .ok (.iload_n 1, 1) := by decide +kernel
theorem d_T_count_1 : decode c_T_count 1 = .ok (.tableswitch 78 0 7 #[47, 52, 57, 62, 67, 67, 67, 73], 47) := by decide +kernel
theorem d_T_count_48 : decode c_T_count 48 = .ok (.aload_n 0, 1) := by decide +kernel
theorem d_T_count_49 : decode c_T_count 49 = .ok (.getfield 31, 3) := by decide +kernel
theorem d_T_count_52 : decode c_T_count 52 = .ok (.ireturn, 1) := by decide +kernel
theorem d_T_count_53 : decode c_T_count 53 = .ok (.aload_n 0, 1) := by decide +kernel
theorem d_T_count_54 : decode c_T_count 54 = .ok (.getfield 21, 3) := by decide +kernel
theorem d_T_count_57 : decode c_T_count 57 = .ok (.ireturn, 1) := by decide +kernel
theorem d_T_count_58 : decode c_T_count 58 = .ok (.aload_n 0, 1) := by decide +kernel
theorem d_T_count_59 : decode c_T_count 59 = .ok (.getfield 25, 3) := by decide +kernel
theorem d_T_count_62 : decode c_T_count 62 = .ok (.ireturn, 1) := by decide +kernel
theorem d_T_count_63 : decode c_T_count 63 = .ok (.aload_n 0, 1) := by decide +kernel
theorem d_T_count_64 : decode c_T_count 64 = .ok (.getfield 28, 3) := by decide +kernel
theorem d_T_count_67 : decode c_T_count 67 = .ok (.ireturn, 1) := by decide +kernel
theorem d_T_count_68 : decode c_T_count 68 = .ok (.aload_n 0, 1) := by decide +kernel
theorem d_T_count_69 : decode c_T_count 69 = .ok (.iload_n 1, 1) := by decide +kernel
theorem d_T_count_70 : decode c_T_count 70 = .ok (.invokevirtual 207, 3) := by decide +kernel
theorem d_T_count_73 : decode c_T_count 73 = .ok (.ireturn, 1) := by decide +kernel
theorem d_T_count_74 : decode c_T_count 74 = .ok (.aload_n 0, 1) := by decide +kernel
theorem d_T_count_75 : decode c_T_count 75 = .ok (.invokevirtual 210, 3) := by decide +kernel
theorem d_T_count_78 : decode c_T_count 78 = .ok (.ireturn, 1) := by decide +kernel
theorem d_T_count_79 : decode c_T_count 79 = .ok (.iconst (-1), 1) := by decide +kernel
theorem d_T_count_80 : decode c_T_count 80 = .ok (.ireturn, 1) := by decide +kernel
theorem d_T_sumOverMovements_0 : decode c_T_sumOverMovements 0 = .ok (.iconst 0, 1) := by decide +kernel
theorem d_T_sumOverMovements_1 : decode c_T_sumOverMovements 1 = .ok (.istore_n 2, 1) := by decide +kernel
theorem d_T_sumOverMovements_2 : decode c_T_sumOverMovements 2 = .ok (.iconst 0, 1) := by decide +kernel
theorem d_T_sumOverMovements_3 : decode c_T_sumOverMovements 3 = .ok (.istore_n 3, 1) := by decide +kernel
theorem d_T_sumOverMovements_4 : decode c_T_sumOverMovements 4 = .ok (.iload_n 3, 1) := by decide +kernel
theorem d_T_sumOverMovements_5 : decode c_T_sumOverMovements 5 = .ok (.aload_n 0, 1) := by decide +kernel
theorem d_T_sumOverMovements_6 : decode c_T_sumOverMovements 6 = .ok (.getfield 11, 3) := by decide +kernel
theorem d_T_sumOverMovements_9 : decode c_T_sumOverMovements 9 = .ok (.arraylength, 1) := by decide +kernel
theorem d_T_sumOverMovements_10 : decode c_T_sumOverMovements 10 = .ok (.if_icmp .ge 31, 3) := by decide +kernel
theorem d_T_sumOverMovements_13 : decode c_T_sumOverMovements 13 = .ok (.aload_n 0, 1) := by decide +kernel
theorem d_T_sumOverMovements_14 : decode c_T_sumOverMovements 14 = .ok (.getfield 11, 3) := by decide +kernel
theorem d_T_sumOverMovements_17 : decode c_T_sumOverMovements 17 = .ok (.iload_n 3, 1) := by decide +kernel
theorem d_T_sumOverMovements_18 : decode c_T_sumOverMovements 18 = .ok (.aaload, 1) := by decide +kernel
theorem d_T_sumOverMovements_19 : decode c_T_sumOverMovements 19 = .ok (.astore 4, 2) := by decide +kernel
theorem d_T_sumOverMovements_21 : decode c_T_sumOverMovements 21 = .ok (.aload 4, 2) := by decide +kernel
theorem d_T_sumOverMovements_23 : decode c_T_sumOverMovements 23 = .ok (.ifnull 12, 3) := by decide +kernel
theorem d_T_sumOverMovements_26 : decode c_T_sumOverMovements 26 = .ok (.iload_n 2, 1) := by decide +kernel
theorem d_T_sumOverMovements_27 : decode c_T_sumOverMovements 27 = .ok (.aload 4, 2) := by decide +kernel
theorem d_T_sumOverMovements_29 : decode c_T_sumOverMovements 29 = .ok (.iload_n 1, 1) := by decide +kernel
theorem d_T_sumOverMovements_30 : decode c_T_sumOverMovements 30 = .ok (.invokevirtual 242, 3) := by decide +kernel
theorem d_T_sumOverMovements_33 : decode c_T_sumOverMovements 33 = .ok (.iadd, 1) := by decide +kernel
theorem d_T_sumOverMovements_34 : decode c_T_sumOverMovements 34 = .ok (.istore_n 2, 1) := by decide +kernel
theorem d_T_sumOverMovements_35 : decode c_T_sumOverMovements 35 = .ok (.iinc 3 1, 3) := by decide +kernel
theorem d_T_sumOverMovements_38 : decode c_T_sumOverMovements 38 = .ok (.goto (-34), 3) := by decide +kernel
theorem d_T_sumOverMovements_41 : decode c_T_sumOverMovements 41 = .ok (.iload_n 2, 1) := by decide +kernel
theorem d_T_sumOverMovements_42 : decode c_T_sumOverMovements 42 = .ok (.ireturn, 1) := by decide +kernel
theorem d_T_bit_0 : decode c_T_bit 0 = .ok (.iload_n 0, 1) := by decide +kernel
theorem d_T_bit_1 : decode c_T_bit 1 = .ok (.ifCond .eq 7, 3) := by decide +kernel
theorem d_T_bit_4 : decode c_T_bit 4 = .ok (.iconst 1, 1) := by decide +kernel
theorem d_T_bit_5 : decode c_T_bit 5 = .ok (.goto 4, 3) := by decide +kernel
theorem d_T_bit_8 : decode c_T_bit 8 = .ok (.iconst 0, 1) := by decide +kernel
theorem d_T_bit_9 : decode c_T_bit 9 = .ok (.ireturn, 1) := by decide +kernel
theorem d_T_countOnTheirWay_0 : decode c_T_countOnTheirWay 0 = .ok (.iconst 0, 1) := by decide +kernel
theorem d_T_countOnTheirWay_1 : decode c_T_countOnTheirWay 1 = .ok (.istore_n 1, 1) := by decide +kernel
theorem d_T_countOnTheirWay_2 : decode c_T_countOnTheirWay 2 = .ok (.iconst 0, 1) := by decide +kernel
theorem d_T_countOnTheirWay_3 : decode c_T_countOnTheirWay 3 = .ok (.istore_n 2, 1) := by decide +kernel
theorem d_T_countOnTheirWay_4 : decode c_T_countOnTheirWay 4 = .ok (.iload_n 2, 1) := by decide +kernel
theorem d_T_countOnTheirWay_5 : decode c_T_countOnTheirWay 5 = .ok (.aload_n 0, 1) := by decide +kernel
theorem d_T_countOnTheirWay_6 : decode c_T_countOnTheirWay 6 = .ok (.getfield 17, 3) := by decide +kernel
theorem d_T_countOnTheirWay_9 : decode c_T_countOnTheirWay 9 = .ok (.arraylength, 1) := by decide +kernel
theorem d_T_countOnTheirWay_10 : decode c_T_countOnTheirWay 10 = .ok (.if_icmp .ge 30, 3) := by decide +kernel
theorem d_T_countOnTheirWay_13 : decode c_T_countOnTheirWay 13 = .ok (.aload_n 0, 1) := by decide +kernel
theorem d_T_countOnTheirWay_14 : decode c_T_countOnTheirWay 14 = .ok (.getfield 17, 3) := by decide +kernel
theorem d_T_countOnTheirWay_17 : decode c_T_countOnTheirWay 17 = .ok (.iload_n 2, 1) := by decide +kernel
theorem d_T_countOnTheirWay_18 : decode c_T_countOnTheirWay 18 = .ok (.aaload, 1) := by decide +kernel
theorem d_T_countOnTheirWay_19 : decode c_T_countOnTheirWay 19 = .ok (.astore_n 3, 1) := by decide +kernel
theorem d_T_countOnTheirWay_20 : decode c_T_countOnTheirWay 20 = .ok (.aload_n 3, 1) := by decide +kernel
theorem d_T_countOnTheirWay_21 : decode c_T_countOnTheirWay 21 = .ok (.ifnull 13, 3) := by decide +kernel
theorem d_T_countOnTheirWay_24 : decode c_T_countOnTheirWay 24 = .ok (.aload_n 3, 1) := by decide +kernel
theorem d_T_countOnTheirWay_25 : decode c_T_countOnTheirWay 25 = .ok (.getfield 119, 3) := by decide +kernel
theorem d_T_countOnTheirWay_28 : decode c_T_countOnTheirWay 28 = .ok (.ifCond .ne 6, 3) := by decide +kernel
theorem d_T_countOnTheirWay_31 : decode c_T_countOnTheirWay 31 = .ok (.iinc 1 1, 3) := by decide +kernel
theorem d_T_countOnTheirWay_34 : decode c_T_countOnTheirWay 34 = .ok (.iinc 2 1, 3) := by decide +kernel
theorem d_T_countOnTheirWay_37 : decode c_T_countOnTheirWay 37 = .ok (.goto (-33), 3) := by decide +kernel
theorem d_T_countOnTheirWay_40 : decode c_T_countOnTheirWay 40 = .ok (.iload_n 1, 1) := by decide +kernel
theorem d_T_countOnTheirWay_41 : decode c_T_countOnTheirWay 41 = .ok (.ireturn, 1) := by decide +kernel
theorem d_T_movement_0 : decode c_T_movement 0 = .ok (.aload_n 0, 1) := by decide +kernel
theorem d_T_movement_1 : decode c_T_movement 1 = .ok (.iload_n 1, 1) := by decide +kernel
theorem d_T_movement_2 : decode c_T_movement 2 = .ok (.invokevirtual 34, 3) := by decide +kernel
theorem d_T_movement_5 : decode c_T_movement 5 = .ok (.ifCond .eq 16, 3) := by decide +kernel
theorem d_T_movement_8 : decode c_T_movement 8 = .ok (.aload_n 0, 1) := by decide +kernel
theorem d_T_movement_9 : decode c_T_movement 9 = .ok (.iload_n 2, 1) := by decide +kernel
theorem d_T_movement_10 : decode c_T_movement 10 = .ok (.invokevirtual 34, 3) := by decide +kernel
theorem d_T_movement_13 : decode c_T_movement 13 = .ok (.ifCond .eq 8, 3) := by decide +kernel
theorem d_T_movement_16 : decode c_T_movement 16 = .ok (.iload_n 1, 1) := by decide +kernel
theorem d_T_movement_17 : decode c_T_movement 17 = .ok (.iload_n 2, 1) := by decide +kernel
theorem d_T_movement_18 : decode c_T_movement 18 = .ok (.if_icmp .ne 13, 3) := by decide +kernel
theorem d_T_movement_21 : decode c_T_movement 21 = .ok (.new 38, 3) := by decide +kernel
theorem d_T_movement_24 : decode c_T_movement 24 = .ok (.dup, 1) := by decide +kernel
theorem d_T_movement_25 : decode c_T_movement 25 = .ok (.ldc 40, 2) := by decide +kernel
theorem d_T_movement_27 : decode c_T_movement 27 = .ok (.invokespecial 42, 3) := by decide +kernel
theorem d_T_movement_30 : decode c_T_movement 30 = .ok (.athrow, 1) := by decide +kernel
theorem d_T_movement_31 : decode c_T_movement 31 = .ok (.iload_n 3, 1) := by decide +kernel
theorem d_T_movement_32 : decode c_T_movement 32 = .ok (.aload_n 0, 1) := by decide +kernel
theorem d_T_movement_33 : decode c_T_movement 33 = .ok (.getfield 28, 3) := by decide +kernel
theorem d_T_movement_36 : decode c_T_movement 36 = .ok (.sipush 10000, 3) := by decide +kernel
theorem d_T_movement_39 : decode c_T_movement 39 = .ok (.invokestatic 45, 3) := by decide +kernel
theorem d_T_movement_42 : decode c_T_movement 42 = .ok (.ifCond .ne 13, 3) := by decide +kernel
theorem d_T_movement_45 : decode c_T_movement 45 = .ok (.new 38, 3) := by decide +kernel
theorem d_T_movement_48 : decode c_T_movement 48 = .ok (.dup, 1) := by decide +kernel
theorem d_T_movement_49 : decode c_T_movement 49 = .ok (.ldc 49, 2) := by decide +kernel
theorem d_T_movement_51 : decode c_T_movement 51 = .ok (.invokespecial 42, 3) := by decide +kernel
theorem d_T_movement_54 : decode c_T_movement 54 = .ok (.athrow, 1) := by decide +kernel
theorem d_T_movement_55 : decode c_T_movement 55 = .ok (.iload 4, 2) := by decide +kernel
theorem d_T_movement_57 : decode c_T_movement 57 = .ok (.iconst 1, 1) := by decide +kernel
theorem d_T_movement_58 : decode c_T_movement 58 = .ok (.ldc 51, 2) := by decide +kernel
theorem d_T_movement_60 : decode c_T_movement 60 = .ok (.invokestatic 45, 3) := by decide +kernel
theorem d_T_movement_63 : decode c_T_movement 63 = .ok (.ifCond .eq 26, 3) := by decide +kernel
theorem d_T_movement_66 : decode c_T_movement 66 = .ok (.iload 5, 2) := by decide +kernel
theorem d_T_movement_68 : decode c_T_movement 68 = .ok (.iconst 1, 1) := by decide +kernel
theorem d_T_movement_69 : decode c_T_movement 69 = .ok (.sipush 1000, 3) := by decide +kernel
theorem d_T_movement_72 : decode c_T_movement 72 = .ok (.invokestatic 45, 3) := by decide +kernel
theorem d_T_movement_75 : decode c_T_movement 75 = .ok (.ifCond .eq 14, 3) := by decide +kernel
theorem d_T_movement_78 : decode c_T_movement 78 = .ok (.iload 6, 2) := by decide +kernel
theorem d_T_movement_80 : decode c_T_movement 80 = .ok (.iconst 0, 1) := by decide +kernel
theorem d_T_movement_81 : decode c_T_movement 81 = .ok (.ldc 52, 2) := by decide +kernel
theorem d_T_movement_83 : decode c_T_movement 83 = .ok (.invokestatic 45, 3) := by decide +kernel
theorem d_T_movement_86 : decode c_T_movement 86 = .ok (.ifCond .ne 13, 3) := by decide +kernel
theorem d_T_movement_89 : decode c_T_movement 89 = .ok (.new 38, 3) := by decide +kernel
theorem d_T_movement_92 : decode c_T_movement 92 = .ok (.dup, 1) := by decide +kernel
theorem d_T_movement_93 : decode c_T_movement 93 = .ok (.ldc 53, 2) := by decide +kernel
theorem d_T_movement_95 : decode c_T_movement 95 = .ok (.invokespecial 42, 3) := by decide +kernel
theorem d_T_movement_98 : decode c_T_movement 98 = .ok (.athrow, 1) := by decide +kernel
theorem d_T_movement_99 : decode c_T_movement 99 = .ok (.aload_n 0, 1) := by decide +kernel
theorem d_T_movement_100 : decode c_T_movement 100 = .ok (.getfield 21, 3) := by decide +kernel
theorem d_T_movement_103 : decode c_T_movement 103 = .ok (.aload_n 0, 1) := by decide +kernel
theorem d_T_movement_104 : decode c_T_movement 104 = .ok (.getfield 11, 3) := by decide +kernel
theorem d_T_movement_107 : decode c_T_movement 107 = .ok (.arraylength, 1) := by decide +kernel
theorem d_T_movement_108 : decode c_T_movement 108 = .ok (.if_icmp .lt 13, 3) := by decide +kernel
theorem d_T_movement_111 : decode c_T_movement 111 = .ok (.new 55, 3) := by decide +kernel
theorem d_T_movement_114 : decode c_T_movement 114 = .ok (.dup, 1) := by decide +kernel
theorem d_T_movement_115 : decode c_T_movement 115 = .ok (.ldc 57, 2) := by decide +kernel
theorem d_T_movement_117 : decode c_T_movement 117 = .ok (.invokespecial 59, 3) := by decide +kernel
theorem d_T_movement_120 : decode c_T_movement 120 = .ok (.athrow, 1) := by decide +kernel
theorem d_T_movement_121 : decode c_T_movement 121 = .ok (.aload_n 0, 1) := by decide +kernel
theorem d_T_movement_122 : decode c_T_movement 122 = .ok (.getfield 21, 3) := by decide +kernel
theorem d_T_movement_125 : decode c_T_movement 125 = .ok (.istore 7, 2) := by decide +kernel
theorem d_T_movement_127 : decode c_T_movement 127 = .ok (.aload_n 0, 1) := by decide +kernel
theorem d_T_movement_128 : decode c_T_movement 128 = .ok (.getfield 11, 3) := by decide +kernel
theorem d_T_movement_131 : decode c_T_movement 131 = .ok (.iload 7, 2) := by decide +kernel
theorem d_T_movement_133 : decode c_T_movement 133 = .ok (.new 9, 3) := by decide +kernel
theorem d_T_movement_136 : decode c_T_movement 136 = .ok (.dup, 1) := by decide +kernel
theorem d_T_movement_137 : decode c_T_movement 137 = .ok (.iload_n 1, 1) := by decide +kernel
theorem d_T_movement_138 : decode c_T_movement 138 = .ok (.iload_n 2, 1) := by decide +kernel
theorem d_T_movement_139 : decode c_T_movement 139 = .ok (.iload_n 3, 1) := by decide +kernel
theorem d_T_movement_140 : decode c_T_movement 140 = .ok (.iload 4, 2) := by decide +kernel
theorem d_T_movement_142 : decode c_T_movement 142 = .ok (.iload 5, 2) := by decide +kernel
theorem d_T_movement_144 : decode c_T_movement 144 = .ok (.iload 6, 2) := by decide +kernel
theorem d_T_movement_146 : decode c_T_movement 146 = .ok (.invokespecial 60, 3) := by decide +kernel
theorem d_T_movement_149 : decode c_T_movement 149 = .ok (.aastore, 1) := by decide +kernel
theorem d_T_movement_150 : decode c_T_movement 150 = .ok (.aload_n 0, 1) := by decide +kernel
theorem d_T_movement_151 : decode c_T_movement 151 = .ok (.dup, 1) := by decide +kernel
theorem d_T_movement_152 : decode c_T_movement 152 = .ok (.getfield 21, 3) := by decide +kernel
theorem d_T_movement_155 : decode c_T_movement 155 = .ok (.iconst 1, 1) := by decide +kernel
theorem d_T_movement_156 : decode c_T_movement 156 = .ok (.iadd, 1) := by decide +kernel
theorem d_T_movement_157 : decode c_T_movement 157 = .ok (.putfield 21, 3) := by decide +kernel
theorem d_T_movement_160 : decode c_T_movement 160 = .ok (.aload_n 0, 1) := by decide +kernel
theorem d_T_movement_161 : decode c_T_movement 161 = .ok (.iconst 1, 1) := by decide +kernel
theorem d_T_movement_162 : decode c_T_movement 162 = .ok (.iload 7, 2) := by decide +kernel
theorem d_T_movement_164 : decode c_T_movement 164 = .ok (.iload_n 1, 1) := by decide +kernel
theorem d_T_movement_165 : decode c_T_movement 165 = .ok (.iload_n 2, 1) := by decide +kernel
theorem d_T_movement_166 : decode c_T_movement 166 = .ok (.iload 5, 2) := by decide +kernel
theorem d_T_movement_168 : decode c_T_movement 168 = .ok (.iload_n 3, 1) := by decide +kernel
theorem d_T_movement_169 : decode c_T_movement 169 = .ok (.invokevirtual 63, 3) := by decide +kernel
theorem d_T_movement_172 : decode c_T_movement 172 = .ok (.iload 7, 2) := by decide +kernel
theorem d_T_movement_174 : decode c_T_movement 174 = .ok (.ireturn, 1) := by decide +kernel
theorem d_T_isOffice_0 : decode c_T_isOffice 0 = .ok (.iload_n 1, 1) := by decide +kernel
theorem d_T_isOffice_1 : decode c_T_isOffice 1 = .ok (.ifCond .lt 15, 3) := by decide +kernel
theorem d_T_isOffice_4 : decode c_T_isOffice 4 = .ok (.iload_n 1, 1) := by decide +kernel
theorem d_T_isOffice_5 : decode c_T_isOffice 5 = .ok (.aload_n 0, 1) := by decide +kernel
theorem d_T_isOffice_6 : decode c_T_isOffice 6 = .ok (.getfield 31, 3) := by decide +kernel
theorem d_T_isOffice_9 : decode c_T_isOffice 9 = .ok (.if_icmp .ge 7, 3) := by decide +kernel
theorem d_T_isOffice_12 : decode c_T_isOffice 12 = .ok (.iconst 1, 1) := by decide +kernel
theorem d_T_isOffice_13 : decode c_T_isOffice 13 = .ok (.goto 4, 3) := by decide +kernel
theorem d_T_isOffice_16 : decode c_T_isOffice 16 = .ok (.iconst 0, 1) := by decide +kernel
theorem d_T_isOffice_17 : decode c_T_isOffice 17 = .ok (.ireturn, 1) := by decide +kernel
theorem d_T_isWithin_0 : decode c_T_isWithin 0 = .ok (.iload_n 0, 1) := by decide +kernel
theorem d_T_isWithin_1 : decode c_T_isWithin 1 = .ok (.iload_n 1, 1) := by decide +kernel
theorem d_T_isWithin_2 : decode c_T_isWithin 2 = .ok (.if_icmp .lt 12, 3) := by decide +kernel
theorem d_T_isWithin_5 : decode c_T_isWithin 5 = .ok (.iload_n 0, 1) := by decide +kernel
theorem d_T_isWithin_6 : decode c_T_isWithin 6 = .ok (.iload_n 2, 1) := by decide +kernel
theorem d_T_isWithin_7 : decode c_T_isWithin 7 = .ok (.if_icmp .gt 7, 3) := by decide +kernel
theorem d_T_isWithin_10 : decode c_T_isWithin 10 = .ok (.iconst 1, 1) := by decide +kernel
theorem d_T_isWithin_11 : decode c_T_isWithin 11 = .ok (.goto 4, 3) := by decide +kernel
theorem d_T_isWithin_14 : decode c_T_isWithin 14 = .ok (.iconst 0, 1) := by decide +kernel
theorem d_T_isWithin_15 : decode c_T_isWithin 15 = .ok (.ireturn, 1) := by decide +kernel
theorem d_T_send_0 : decode c_T_send 0 = .ok (.aload_n 0, 1) := by decide +kernel
theorem d_T_send_1 : decode c_T_send 1 = .ok (.getfield 25, 3) := by decide +kernel
theorem d_T_send_4 : decode c_T_send 4 = .ok (.aload_n 0, 1) := by decide +kernel
theorem d_T_send_5 : decode c_T_send 5 = .ok (.getfield 17, 3) := by decide +kernel
theorem d_T_send_8 : decode c_T_send 8 = .ok (.arraylength, 1) := by decide +kernel
theorem d_T_send_9 : decode c_T_send 9 = .ok (.if_icmp .ge 38, 3) := by decide +kernel
theorem d_T_send_12 : decode c_T_send 12 = .ok (.aload_n 0, 1) := by decide +kernel
theorem d_T_send_13 : decode c_T_send 13 = .ok (.getfield 17, 3) := by decide +kernel
theorem d_T_send_16 : decode c_T_send 16 = .ok (.aload_n 0, 1) := by decide +kernel
theorem d_T_send_17 : decode c_T_send 17 = .ok (.getfield 25, 3) := by decide +kernel
theorem d_T_send_20 : decode c_T_send 20 = .ok (.new 15, 3) := by decide +kernel
theorem d_T_send_23 : decode c_T_send 23 = .ok (.dup, 1) := by decide +kernel
theorem d_T_send_24 : decode c_T_send 24 = .ok (.iload_n 1, 1) := by decide +kernel
theorem d_T_send_25 : decode c_T_send 25 = .ok (.iload_n 2, 1) := by decide +kernel
theorem d_T_send_26 : decode c_T_send 26 = .ok (.iload_n 3, 1) := by decide +kernel
theorem d_T_send_27 : decode c_T_send 27 = .ok (.iload 4, 2) := by decide +kernel
theorem d_T_send_29 : decode c_T_send 29 = .ok (.iload 5, 2) := by decide +kernel
theorem d_T_send_31 : decode c_T_send 31 = .ok (.iload 6, 2) := by decide +kernel
theorem d_T_send_33 : decode c_T_send 33 = .ok (.invokespecial 213, 3) := by decide +kernel
theorem d_T_send_36 : decode c_T_send 36 = .ok (.aastore, 1) := by decide +kernel
theorem d_T_send_37 : decode c_T_send 37 = .ok (.aload_n 0, 1) := by decide +kernel
theorem d_T_send_38 : decode c_T_send 38 = .ok (.dup, 1) := by decide +kernel
theorem d_T_send_39 : decode c_T_send 39 = .ok (.getfield 25, 3) := by decide +kernel
theorem d_T_send_42 : decode c_T_send 42 = .ok (.iconst 1, 1) := by decide +kernel
theorem d_T_send_43 : decode c_T_send 43 = .ok (.iadd, 1) := by decide +kernel
theorem d_T_send_44 : decode c_T_send 44 = .ok (.putfield 25, 3) := by decide +kernel
theorem d_T_send_47 : decode c_T_send 47 = .ok (.return_, 1) := by decide +kernel
theorem d_T_arrive_0 : decode c_T_arrive 0 = .ok (.aload_n 0, 1) := by decide +kernel
theorem d_T_arrive_1 : decode c_T_arrive 1 = .ok (.iload_n 1, 1) := by decide +kernel
theorem d_T_arrive_2 : decode c_T_arrive 2 = .ok (.invokevirtual 66, 3) := by decide +kernel
theorem d_T_arrive_5 : decode c_T_arrive 5 = .ok (.astore 4, 2) := by decide +kernel
theorem d_T_arrive_7 : decode c_T_arrive 7 = .ok (.aload 4, 2) := by decide +kernel
theorem d_T_arrive_9 : decode c_T_arrive 9 = .ok (.ifnull 21, 3) := by decide +kernel
theorem d_T_arrive_12 : decode c_T_arrive 12 = .ok (.aload_n 0, 1) := by decide +kernel
theorem d_T_arrive_13 : decode c_T_arrive 13 = .ok (.iload_n 2, 1) := by decide +kernel
theorem d_T_arrive_14 : decode c_T_arrive 14 = .ok (.invokevirtual 34, 3) := by decide +kernel
theorem d_T_arrive_17 : decode c_T_arrive 17 = .ok (.ifCond .eq 13, 3) := by decide +kernel
theorem d_T_arrive_20 : decode c_T_arrive 20 = .ok (.iload_n 3, 1) := by decide +kernel
theorem d_T_arrive_21 : decode c_T_arrive 21 = .ok (.iconst 0, 1) := by decide +kernel
theorem d_T_arrive_22 : decode c_T_arrive 22 = .ok (.ldc 51, 2) := by decide +kernel
theorem d_T_arrive_24 : decode c_T_arrive 24 = .ok (.invokestatic 45, 3) := by decide +kernel
theorem d_T_arrive_27 : decode c_T_arrive 27 = .ok (.ifCond .ne 13, 3) := by decide +kernel
theorem d_T_arrive_30 : decode c_T_arrive 30 = .ok (.new 38, 3) := by decide +kernel
theorem d_T_arrive_33 : decode c_T_arrive 33 = .ok (.dup, 1) := by decide +kernel
theorem d_T_arrive_34 : decode c_T_arrive 34 = .ok (.ldc 70, 2) := by decide +kernel
theorem d_T_arrive_36 : decode c_T_arrive 36 = .ok (.invokespecial 42, 3) := by decide +kernel
theorem d_T_arrive_39 : decode c_T_arrive 39 = .ok (.athrow, 1) := by decide +kernel
theorem d_T_arrive_40 : decode c_T_arrive 40 = .ok (.aload 4, 2) := by decide +kernel
theorem d_T_arrive_42 : decode c_T_arrive 42 = .ok (.invokevirtual 72, 3) := by decide +kernel
theorem d_T_arrive_45 : decode c_T_arrive 45 = .ok (.ifCond .ne 22, 3) := by decide +kernel
theorem d_T_arrive_48 : decode c_T_arrive 48 = .ok (.iload_n 2, 1) := by decide +kernel
theorem d_T_arrive_49 : decode c_T_arrive 49 = .ok (.aload 4, 2) := by decide +kernel
theorem d_T_arrive_51 : decode c_T_arrive 51 = .ok (.getfield 76, 3) := by decide +kernel
theorem d_T_arrive_54 : decode c_T_arrive 54 = .ok (.if_icmp .eq 13, 3) := by decide +kernel
theorem d_T_arrive_57 : decode c_T_arrive 57 = .ok (.aload 4, 2) := by decide +kernel
theorem d_T_arrive_59 : decode c_T_arrive 59 = .ok (.getfield 79, 3) := by decide +kernel
theorem d_T_arrive_62 : decode c_T_arrive 62 = .ok (.bipush 6, 2) := by decide +kernel
theorem d_T_arrive_64 : decode c_T_arrive 64 = .ok (.if_icmp .ne 5, 3) := by decide +kernel
theorem d_T_arrive_67 : decode c_T_arrive 67 = .ok (.iconst 0, 1) := by decide +kernel
theorem d_T_arrive_68 : decode c_T_arrive 68 = .ok (.ireturn, 1) := by decide +kernel
theorem d_T_arrive_69 : decode c_T_arrive 69 = .ok (.aload 4, 2) := by decide +kernel
theorem d_T_arrive_71 : decode c_T_arrive 71 = .ok (.iload_n 2, 1) := by decide +kernel
theorem d_T_arrive_72 : decode c_T_arrive 72 = .ok (.putfield 82, 3) := by decide +kernel
theorem d_T_arrive_75 : decode c_T_arrive 75 = .ok (.aload 4, 2) := by decide +kernel
theorem d_T_arrive_77 : decode c_T_arrive 77 = .ok (.iload_n 3, 1) := by decide +kernel
theorem d_T_arrive_78 : decode c_T_arrive 78 = .ok (.putfield 85, 3) := by decide +kernel
theorem d_T_arrive_81 : decode c_T_arrive 81 = .ok (.aload 4, 2) := by decide +kernel
theorem d_T_arrive_83 : decode c_T_arrive 83 = .ok (.aload_n 0, 1) := by decide +kernel
theorem d_T_arrive_84 : decode c_T_arrive 84 = .ok (.getfield 28, 3) := by decide +kernel
theorem d_T_arrive_87 : decode c_T_arrive 87 = .ok (.aload 4, 2) := by decide +kernel
theorem d_T_arrive_89 : decode c_T_arrive 89 = .ok (.getfield 88, 3) := by decide +kernel
theorem d_T_arrive_92 : decode c_T_arrive 92 = .ok (.if_icmp .le 7, 3) := by decide +kernel
theorem d_T_arrive_95 : decode c_T_arrive 95 = .ok (.iconst 1, 1) := by decide +kernel
theorem d_T_arrive_96 : decode c_T_arrive 96 = .ok (.goto 4, 3) := by decide +kernel
theorem d_T_arrive_99 : decode c_T_arrive 99 = .ok (.iconst 0, 1) := by decide +kernel
theorem d_T_arrive_100 : decode c_T_arrive 100 = .ok (.putfield 91, 3) := by decide +kernel
theorem d_T_arrive_103 : decode c_T_arrive 103 = .ok (.aload_n 0, 1) := by decide +kernel
theorem d_T_arrive_104 : decode c_T_arrive 104 = .ok (.iload_n 1, 1) := by decide +kernel
theorem d_T_arrive_105 : decode c_T_arrive 105 = .ok (.aload 4, 2) := by decide +kernel
theorem d_T_arrive_107 : decode c_T_arrive 107 = .ok (.invokevirtual 95, 3) := by decide +kernel
theorem d_T_arrive_110 : decode c_T_arrive 110 = .ok (.iload_n 2, 1) := by decide +kernel
theorem d_T_arrive_111 : decode c_T_arrive 111 = .ok (.aload 4, 2) := by decide +kernel
theorem d_T_arrive_113 : decode c_T_arrive 113 = .ok (.getfield 99, 3) := by decide +kernel
theorem d_T_arrive_116 : decode c_T_arrive 116 = .ok (.if_icmp .eq 18, 3) := by decide +kernel
theorem d_T_arrive_119 : decode c_T_arrive 119 = .ok (.aload_n 0, 1) := by decide +kernel
theorem d_T_arrive_120 : decode c_T_arrive 120 = .ok (.bipush 6, 2) := by decide +kernel
theorem d_T_arrive_122 : decode c_T_arrive 122 = .ok (.iload_n 1, 1) := by decide +kernel
theorem d_T_arrive_123 : decode c_T_arrive 123 = .ok (.iload_n 2, 1) := by decide +kernel
theorem d_T_arrive_124 : decode c_T_arrive 124 = .ok (.aload 4, 2) := by decide +kernel
theorem d_T_arrive_126 : decode c_T_arrive 126 = .ok (.getfield 99, 3) := by decide +kernel
theorem d_T_arrive_129 : decode c_T_arrive 129 = .ok (.iload_n 2, 1) := by decide +kernel
theorem d_T_arrive_130 : decode c_T_arrive 130 = .ok (.iconst 0, 1) := by decide +kernel
theorem d_T_arrive_131 : decode c_T_arrive 131 = .ok (.invokevirtual 63, 3) := by decide +kernel
theorem d_T_arrive_134 : decode c_T_arrive 134 = .ok (.iconst 1, 1) := by decide +kernel
theorem d_T_arrive_135 : decode c_T_arrive 135 = .ok (.ireturn, 1) := by decide +kernel
theorem d_T_findMovement_0 : decode c_T_findMovement 0 = .ok (.iload_n 1, 1) := by decide +kernel
theorem d_T_findMovement_1 : decode c_T_findMovement 1 = .ok (.ifCond .lt 21, 3) := by decide +kernel
theorem d_T_findMovement_4 : decode c_T_findMovement 4 = .ok (.iload_n 1, 1) := by decide +kernel
theorem d_T_findMovement_5 : decode c_T_findMovement 5 = .ok (.aload_n 0, 1) := by decide +kernel
theorem d_T_findMovement_6 : decode c_T_findMovement 6 = .ok (.getfield 11, 3) := by decide +kernel
theorem d_T_findMovement_9 : decode c_T_findMovement 9 = .ok (.arraylength, 1) := by decide +kernel
theorem d_T_findMovement_10 : decode c_T_findMovement 10 = .ok (.if_icmp .ge 12, 3) := by decide +kernel
theorem d_T_findMovement_13 : decode c_T_findMovement 13 = .ok (.aload_n 0, 1) := by decide +kernel
theorem d_T_findMovement_14 : decode c_T_findMovement 14 = .ok (.getfield 11, 3) := by decide +kernel
theorem d_T_findMovement_17 : decode c_T_findMovement 17 = .ok (.iload_n 1, 1) := by decide +kernel
theorem d_T_findMovement_18 : decode c_T_findMovement 18 = .ok (.aaload, 1) := by decide +kernel
theorem d_T_findMovement_19 : decode c_T_findMovement 19 = .ok (.goto 4, 3) := by decide +kernel
theorem d_T_findMovement_22 : decode c_T_findMovement 22 = .ok (.aconst_null, 1) := by decide +kernel
theorem d_T_findMovement_23 : decode c_T_findMovement 23 = .ok (.areturn, 1) := by decide +kernel
theorem d_T_sendArrived_0 : decode c_T_sendArrived 0 = .ok (.aload_n 0, 1) := by decide +kernel
theorem d_T_sendArrived_1 : decode c_T_sendArrived 1 = .ok (.iconst 2, 1) := by decide +kernel
theorem d_T_sendArrived_2 : decode c_T_sendArrived 2 = .ok (.iload_n 1, 1) := by decide +kernel
theorem d_T_sendArrived_3 : decode c_T_sendArrived 3 = .ok (.aload_n 2, 1) := by decide +kernel
theorem d_T_sendArrived_4 : decode c_T_sendArrived 4 = .ok (.getfield 82, 3) := by decide +kernel
theorem d_T_sendArrived_7 : decode c_T_sendArrived 7 = .ok (.aload_n 2, 1) := by decide +kernel
theorem d_T_sendArrived_8 : decode c_T_sendArrived 8 = .ok (.getfield 76, 3) := by decide +kernel
theorem d_T_sendArrived_11 : decode c_T_sendArrived 11 = .ok (.aload_n 2, 1) := by decide +kernel
theorem d_T_sendArrived_12 : decode c_T_sendArrived 12 = .ok (.getfield 85, 3) := by decide +kernel
theorem d_T_sendArrived_15 : decode c_T_sendArrived 15 = .ok (.aload_n 2, 1) := by decide +kernel
theorem d_T_sendArrived_16 : decode c_T_sendArrived 16 = .ok (.getfield 91, 3) := by decide +kernel
theorem d_T_sendArrived_19 : decode c_T_sendArrived 19 = .ok (.invokestatic 179, 3) := by decide +kernel
theorem d_T_sendArrived_22 : decode c_T_sendArrived 22 = .ok (.invokevirtual 63, 3) := by decide +kernel
theorem d_T_sendArrived_25 : decode c_T_sendArrived 25 = .ok (.return_, 1) := by decide +kernel
theorem d_T_control_0 : decode c_T_control 0 = .ok (.aload_n 0, 1) := by decide +kernel
theorem d_T_control_1 : decode c_T_control 1 = .ok (.iload_n 1, 1) := by decide +kernel
theorem d_T_control_2 : decode c_T_control 2 = .ok (.invokevirtual 66, 3) := by decide +kernel
theorem d_T_control_5 : decode c_T_control 5 = .ok (.astore_n 3, 1) := by decide +kernel
theorem d_T_control_6 : decode c_T_control 6 = .ok (.aload_n 3, 1) := by decide +kernel
theorem d_T_control_7 : decode c_T_control 7 = .ok (.ifnull 14, 3) := by decide +kernel
theorem d_T_control_10 : decode c_T_control 10 = .ok (.iload_n 2, 1) := by decide +kernel
theorem d_T_control_11 : decode c_T_control 11 = .ok (.iconst 0, 1) := by decide +kernel
theorem d_T_control_12 : decode c_T_control 12 = .ok (.sipush 1000, 3) := by decide +kernel
theorem d_T_control_15 : decode c_T_control 15 = .ok (.invokestatic 45, 3) := by decide +kernel
theorem d_T_control_18 : decode c_T_control 18 = .ok (.ifCond .ne 13, 3) := by decide +kernel
theorem d_T_control_21 : decode c_T_control 21 = .ok (.new 38, 3) := by decide +kernel
theorem d_T_control_24 : decode c_T_control 24 = .ok (.dup, 1) := by decide +kernel
theorem d_T_control_25 : decode c_T_control 25 = .ok (.ldc 102, 2) := by decide +kernel
theorem d_T_control_27 : decode c_T_control 27 = .ok (.invokespecial 42, 3) := by decide +kernel
theorem d_T_control_30 : decode c_T_control 30 = .ok (.athrow, 1) := by decide +kernel
theorem d_T_control_31 : decode c_T_control 31 = .ok (.aload_n 3, 1) := by decide +kernel
theorem d_T_control_32 : decode c_T_control 32 = .ok (.invokevirtual 72, 3) := by decide +kernel
theorem d_T_control_35 : decode c_T_control 35 = .ok (.ifCond .eq 10, 3) := by decide +kernel
theorem d_T_control_38 : decode c_T_control 38 = .ok (.aload_n 3, 1) := by decide +kernel
theorem d_T_control_39 : decode c_T_control 39 = .ok (.invokevirtual 104, 3) := by decide +kernel
theorem d_T_control_42 : decode c_T_control 42 = .ok (.ifCond .eq 5, 3) := by decide +kernel
theorem d_T_control_45 : decode c_T_control 45 = .ok (.iconst 0, 1) := by decide +kernel
theorem d_T_control_46 : decode c_T_control 46 = .ok (.ireturn, 1) := by decide +kernel
theorem d_T_control_47 : decode c_T_control 47 = .ok (.aload_n 3, 1) := by decide +kernel
theorem d_T_control_48 : decode c_T_control 48 = .ok (.iload_n 2, 1) := by decide +kernel
theorem d_T_control_49 : decode c_T_control 49 = .ok (.putfield 107, 3) := by decide +kernel
theorem d_T_control_52 : decode c_T_control 52 = .ok (.aload_n 0, 1) := by decide +kernel
theorem d_T_control_53 : decode c_T_control 53 = .ok (.iload_n 1, 1) := by decide +kernel
theorem d_T_control_54 : decode c_T_control 54 = .ok (.aload_n 3, 1) := by decide +kernel
theorem d_T_control_55 : decode c_T_control 55 = .ok (.invokevirtual 110, 3) := by decide +kernel
theorem d_T_control_58 : decode c_T_control 58 = .ok (.iconst 1, 1) := by decide +kernel
theorem d_T_control_59 : decode c_T_control 59 = .ok (.ireturn, 1) := by decide +kernel
theorem d_T_sendResult_0 : decode c_T_sendResult 0 = .ok (.aload_n 0, 1) := by decide +kernel
theorem d_T_sendResult_1 : decode c_T_sendResult 1 = .ok (.iconst 3, 1) := by decide +kernel
theorem d_T_sendResult_2 : decode c_T_sendResult 2 = .ok (.iload_n 1, 1) := by decide +kernel
theorem d_T_sendResult_3 : decode c_T_sendResult 3 = .ok (.aload_n 2, 1) := by decide +kernel
theorem d_T_sendResult_4 : decode c_T_sendResult 4 = .ok (.getfield 82, 3) := by decide +kernel
theorem d_T_sendResult_7 : decode c_T_sendResult 7 = .ok (.aload_n 2, 1) := by decide +kernel
theorem d_T_sendResult_8 : decode c_T_sendResult 8 = .ok (.getfield 76, 3) := by decide +kernel
theorem d_T_sendResult_11 : decode c_T_sendResult 11 = .ok (.aload_n 2, 1) := by decide +kernel
theorem d_T_sendResult_12 : decode c_T_sendResult 12 = .ok (.getfield 107, 3) := by decide +kernel
theorem d_T_sendResult_15 : decode c_T_sendResult 15 = .ok (.aload_n 2, 1) := by decide +kernel
theorem d_T_sendResult_16 : decode c_T_sendResult 16 = .ok (.getfield 85, 3) := by decide +kernel
theorem d_T_sendResult_19 : decode c_T_sendResult 19 = .ok (.invokevirtual 63, 3) := by decide +kernel
theorem d_T_sendResult_22 : decode c_T_sendResult 22 = .ok (.return_, 1) := by decide +kernel
theorem d_T_receive_0 : decode c_T_receive 0 = .ok (.aload_n 0, 1) := by decide +kernel
theorem d_T_receive_1 : decode c_T_receive 1 = .ok (.iload_n 2, 1) := by decide +kernel
theorem d_T_receive_2 : decode c_T_receive 2 = .ok (.invokevirtual 113, 3) := by decide +kernel
theorem d_T_receive_5 : decode c_T_receive 5 = .ok (.astore_n 3, 1) := by decide +kernel
theorem d_T_receive_6 : decode c_T_receive 6 = .ok (.aload_n 0, 1) := by decide +kernel
theorem d_T_receive_7 : decode c_T_receive 7 = .ok (.iload_n 1, 1) := by decide +kernel
theorem d_T_receive_8 : decode c_T_receive 8 = .ok (.invokevirtual 34, 3) := by decide +kernel
theorem d_T_receive_11 : decode c_T_receive 11 = .ok (.ifCond .eq 7, 3) := by decide +kernel
theorem d_T_receive_14 : decode c_T_receive 14 = .ok (.aload_n 3, 1) := by decide +kernel
theorem d_T_receive_15 : decode c_T_receive 15 = .ok (.ifnonnull 13, 3) := by decide +kernel
theorem d_T_receive_18 : decode c_T_receive 18 = .ok (.new 38, 3) := by decide +kernel
theorem d_T_receive_21 : decode c_T_receive 21 = .ok (.dup, 1) := by decide +kernel
theorem d_T_receive_22 : decode c_T_receive 22 = .ok (.ldc 117, 2) := by decide +kernel
theorem d_T_receive_24 : decode c_T_receive 24 = .ok (.invokespecial 42, 3) := by decide +kernel
theorem d_T_receive_27 : decode c_T_receive 27 = .ok (.athrow, 1) := by decide +kernel
theorem d_T_receive_28 : decode c_T_receive 28 = .ok (.aload_n 3, 1) := by decide +kernel
theorem d_T_receive_29 : decode c_T_receive 29 = .ok (.getfield 119, 3) := by decide +kernel
theorem d_T_receive_32 : decode c_T_receive 32 = .ok (.ifCond .ne 11, 3) := by decide +kernel
theorem d_T_receive_35 : decode c_T_receive 35 = .ok (.aload_n 3, 1) := by decide +kernel
theorem d_T_receive_36 : decode c_T_receive 36 = .ok (.getfield 122, 3) := by decide +kernel
theorem d_T_receive_39 : decode c_T_receive 39 = .ok (.iload_n 1, 1) := by decide +kernel
theorem d_T_receive_40 : decode c_T_receive 40 = .ok (.if_icmp .eq 5, 3) := by decide +kernel
theorem d_T_receive_43 : decode c_T_receive 43 = .ok (.iconst 0, 1) := by decide +kernel
theorem d_T_receive_44 : decode c_T_receive 44 = .ok (.ireturn, 1) := by decide +kernel
theorem d_T_receive_45 : decode c_T_receive 45 = .ok (.aload_n 3, 1) := by decide +kernel
theorem d_T_receive_46 : decode c_T_receive 46 = .ok (.iconst 1, 1) := by decide +kernel
theorem d_T_receive_47 : decode c_T_receive 47 = .ok (.putfield 119, 3) := by decide +kernel
theorem d_T_receive_50 : decode c_T_receive 50 = .ok (.aload_n 0, 1) := by decide +kernel
theorem d_T_receive_51 : decode c_T_receive 51 = .ok (.aload_n 3, 1) := by decide +kernel
theorem d_T_receive_52 : decode c_T_receive 52 = .ok (.getfield 125, 3) := by decide +kernel
theorem d_T_receive_55 : decode c_T_receive 55 = .ok (.invokevirtual 66, 3) := by decide +kernel
theorem d_T_receive_58 : decode c_T_receive 58 = .ok (.astore 4, 2) := by decide +kernel
theorem d_T_receive_60 : decode c_T_receive 60 = .ok (.aload 4, 2) := by decide +kernel
theorem d_T_receive_62 : decode c_T_receive 62 = .ok (.ifnull 10, 3) := by decide +kernel
theorem d_T_receive_65 : decode c_T_receive 65 = .ok (.aload_n 0, 1) := by decide +kernel
theorem d_T_receive_66 : decode c_T_receive 66 = .ok (.aload_n 3, 1) := by decide +kernel
theorem d_T_receive_67 : decode c_T_receive 67 = .ok (.aload 4, 2) := by decide +kernel
theorem d_T_receive_69 : decode c_T_receive 69 = .ok (.invokevirtual 128, 3) := by decide +kernel
theorem d_T_receive_72 : decode c_T_receive 72 = .ok (.iconst 1, 1) := by decide +kernel
theorem d_T_receive_73 : decode c_T_receive 73 = .ok (.ireturn, 1) := by decide +kernel
theorem d_T_actOn_0 : decode c_T_actOn 0 = .ok (.aload_n 1, 1) := by decide +kernel
theorem d_T_actOn_1 : decode c_T_actOn 1 = .ok (.getfield 195, 3) := by decide +kernel
theorem d_T_actOn_4 : decode c_T_actOn 4 = .ok (.tableswitch 98 1 6 #[40, 48, 63, 78, 98, 90], 40) := by decide +kernel
theorem d_T_actOn_44 : decode c_T_actOn 44 = .ok (.aload_n 2, 1) := by decide +kernel
theorem d_T_actOn_45 : decode c_T_actOn 45 = .ok (.iconst 1, 1) := by decide +kernel
theorem d_T_actOn_46 : decode c_T_actOn 46 = .ok (.putfield 187, 3) := by decide +kernel
theorem d_T_actOn_49 : decode c_T_actOn 49 = .ok (.goto 53, 3) := by decide +kernel
theorem d_T_actOn_52 : decode c_T_actOn 52 = .ok (.aload_n 2, 1) := by decide +kernel
theorem d_T_actOn_53 : decode c_T_actOn 53 = .ok (.aload_n 1, 1) := by decide +kernel
theorem d_T_actOn_54 : decode c_T_actOn 54 = .ok (.getfield 201, 3) := by decide +kernel
theorem d_T_actOn_57 : decode c_T_actOn 57 = .ok (.aload_n 1, 1) := by decide +kernel
theorem d_T_actOn_58 : decode c_T_actOn 58 = .ok (.getfield 204, 3) := by decide +kernel
theorem d_T_actOn_61 : decode c_T_actOn 61 = .ok (.invokevirtual 214, 3) := by decide +kernel
theorem d_T_actOn_64 : decode c_T_actOn 64 = .ok (.goto 38, 3) := by decide +kernel
theorem d_T_actOn_67 : decode c_T_actOn 67 = .ok (.aload_n 2, 1) := by decide +kernel
theorem d_T_actOn_68 : decode c_T_actOn 68 = .ok (.aload_n 1, 1) := by decide +kernel
theorem d_T_actOn_69 : decode c_T_actOn 69 = .ok (.getfield 201, 3) := by decide +kernel
theorem d_T_actOn_72 : decode c_T_actOn 72 = .ok (.aload_n 1, 1) := by decide +kernel
theorem d_T_actOn_73 : decode c_T_actOn 73 = .ok (.getfield 204, 3) := by decide +kernel
theorem d_T_actOn_76 : decode c_T_actOn 76 = .ok (.invokevirtual 218, 3) := by decide +kernel
theorem d_T_actOn_79 : decode c_T_actOn 79 = .ok (.goto 23, 3) := by decide +kernel
theorem d_T_actOn_82 : decode c_T_actOn 82 = .ok (.aload_n 0, 1) := by decide +kernel
theorem d_T_actOn_83 : decode c_T_actOn 83 = .ok (.aload_n 1, 1) := by decide +kernel
theorem d_T_actOn_84 : decode c_T_actOn 84 = .ok (.getfield 125, 3) := by decide +kernel
theorem d_T_actOn_87 : decode c_T_actOn 87 = .ok (.aload_n 2, 1) := by decide +kernel
theorem d_T_actOn_88 : decode c_T_actOn 88 = .ok (.invokevirtual 221, 3) := by decide +kernel
theorem d_T_actOn_91 : decode c_T_actOn 91 = .ok (.goto 11, 3) := by decide +kernel
theorem d_T_actOn_94 : decode c_T_actOn 94 = .ok (.aload_n 2, 1) := by decide +kernel
theorem d_T_actOn_95 : decode c_T_actOn 95 = .ok (.iconst 1, 1) := by decide +kernel
theorem d_T_actOn_96 : decode c_T_actOn 96 = .ok (.putfield 190, 3) := by decide +kernel
theorem d_T_actOn_99 : decode c_T_actOn 99 = .ok (.goto 3, 3) := by decide +kernel
theorem d_T_actOn_102 : decode c_T_actOn 102 = .ok (.return_, 1) := by decide +kernel
theorem d_T_answerEnquiry_0 : decode c_T_answerEnquiry 0 = .ok (.aload_n 2, 1) := by decide +kernel
theorem d_T_answerEnquiry_1 : decode c_T_answerEnquiry 1 = .ok (.getfield 82, 3) := by decide +kernel
theorem d_T_answerEnquiry_4 : decode c_T_answerEnquiry 4 = .ok (.aload_n 2, 1) := by decide +kernel
theorem d_T_answerEnquiry_5 : decode c_T_answerEnquiry 5 = .ok (.getfield 99, 3) := by decide +kernel
theorem d_T_answerEnquiry_8 : decode c_T_answerEnquiry 8 = .ok (.if_icmp .eq 34, 3) := by decide +kernel
theorem d_T_answerEnquiry_11 : decode c_T_answerEnquiry 11 = .ok (.aload_n 0, 1) := by decide +kernel
theorem d_T_answerEnquiry_12 : decode c_T_answerEnquiry 12 = .ok (.iconst 5, 1) := by decide +kernel
theorem d_T_answerEnquiry_13 : decode c_T_answerEnquiry 13 = .ok (.iload_n 1, 1) := by decide +kernel
theorem d_T_answerEnquiry_14 : decode c_T_answerEnquiry 14 = .ok (.aload_n 2, 1) := by decide +kernel
theorem d_T_answerEnquiry_15 : decode c_T_answerEnquiry 15 = .ok (.getfield 99, 3) := by decide +kernel
theorem d_T_answerEnquiry_18 : decode c_T_answerEnquiry 18 = .ok (.aload_n 2, 1) := by decide +kernel
theorem d_T_answerEnquiry_19 : decode c_T_answerEnquiry 19 = .ok (.getfield 76, 3) := by decide +kernel
theorem d_T_answerEnquiry_22 : decode c_T_answerEnquiry 22 = .ok (.aload_n 2, 1) := by decide +kernel
theorem d_T_answerEnquiry_23 : decode c_T_answerEnquiry 23 = .ok (.getfield 187, 3) := by decide +kernel
theorem d_T_answerEnquiry_26 : decode c_T_answerEnquiry 26 = .ok (.invokestatic 179, 3) := by decide +kernel
theorem d_T_answerEnquiry_29 : decode c_T_answerEnquiry 29 = .ok (.aload_n 2, 1) := by decide +kernel
theorem d_T_answerEnquiry_30 : decode c_T_answerEnquiry 30 = .ok (.getfield 190, 3) := by decide +kernel
theorem d_T_answerEnquiry_33 : decode c_T_answerEnquiry 33 = .ok (.invokestatic 179, 3) := by decide +kernel
theorem d_T_answerEnquiry_36 : decode c_T_answerEnquiry 36 = .ok (.invokevirtual 63, 3) := by decide +kernel
theorem d_T_answerEnquiry_39 : decode c_T_answerEnquiry 39 = .ok (.goto 25, 3) := by decide +kernel
theorem d_T_answerEnquiry_42 : decode c_T_answerEnquiry 42 = .ok (.aload_n 2, 1) := by decide +kernel
theorem d_T_answerEnquiry_43 : decode c_T_answerEnquiry 43 = .ok (.invokevirtual 104, 3) := by decide +kernel
theorem d_T_answerEnquiry_46 : decode c_T_answerEnquiry 46 = .ok (.ifCond .eq 12, 3) := by decide +kernel
theorem d_T_answerEnquiry_49 : decode c_T_answerEnquiry 49 = .ok (.aload_n 0, 1) := by decide +kernel
theorem d_T_answerEnquiry_50 : decode c_T_answerEnquiry 50 = .ok (.iload_n 1, 1) := by decide +kernel
theorem d_T_answerEnquiry_51 : decode c_T_answerEnquiry 51 = .ok (.aload_n 2, 1) := by decide +kernel
theorem d_T_answerEnquiry_52 : decode c_T_answerEnquiry 52 = .ok (.invokevirtual 110, 3) := by decide +kernel
theorem d_T_answerEnquiry_55 : decode c_T_answerEnquiry 55 = .ok (.goto 9, 3) := by decide +kernel
theorem d_T_answerEnquiry_58 : decode c_T_answerEnquiry 58 = .ok (.aload_n 0, 1) := by decide +kernel
theorem d_T_answerEnquiry_59 : decode c_T_answerEnquiry 59 = .ok (.iload_n 1, 1) := by decide +kernel
theorem d_T_answerEnquiry_60 : decode c_T_answerEnquiry 60 = .ok (.aload_n 2, 1) := by decide +kernel
theorem d_T_answerEnquiry_61 : decode c_T_answerEnquiry 61 = .ok (.invokevirtual 95, 3) := by decide +kernel
theorem d_T_answerEnquiry_64 : decode c_T_answerEnquiry 64 = .ok (.return_, 1) := by decide +kernel
theorem d_T_tick_0 : decode c_T_tick 0 = .ok (.iload_n 1, 1) := by decide +kernel
theorem d_T_tick_1 : decode c_T_tick 1 = .ok (.aload_n 0, 1) := by decide +kernel
theorem d_T_tick_2 : decode c_T_tick 2 = .ok (.getfield 28, 3) := by decide +kernel
theorem d_T_tick_5 : decode c_T_tick 5 = .ok (.sipush 10000, 3) := by decide +kernel
theorem d_T_tick_8 : decode c_T_tick 8 = .ok (.invokestatic 45, 3) := by decide +kernel
theorem d_T_tick_11 : decode c_T_tick 11 = .ok (.ifCond .ne 13, 3) := by decide +kernel
theorem d_T_tick_14 : decode c_T_tick 14 = .ok (.new 38, 3) := by decide +kernel
theorem d_T_tick_17 : decode c_T_tick 17 = .ok (.dup, 1) := by decide +kernel
theorem d_T_tick_18 : decode c_T_tick 18 = .ok (.ldc 132, 2) := by decide +kernel
theorem d_T_tick_20 : decode c_T_tick 20 = .ok (.invokespecial 42, 3) := by decide +kernel
theorem d_T_tick_23 : decode c_T_tick 23 = .ok (.athrow, 1) := by decide +kernel
theorem d_T_tick_24 : decode c_T_tick 24 = .ok (.iconst 0, 1) := by decide +kernel
theorem d_T_tick_25 : decode c_T_tick 25 = .ok (.istore_n 2, 1) := by decide +kernel
theorem d_T_tick_26 : decode c_T_tick 26 = .ok (.aload_n 0, 1) := by decide +kernel
theorem d_T_tick_27 : decode c_T_tick 27 = .ok (.aload_n 0, 1) := by decide +kernel
theorem d_T_tick_28 : decode c_T_tick 28 = .ok (.getfield 28, 3) := by decide +kernel
theorem d_T_tick_31 : decode c_T_tick 31 = .ok (.invokevirtual 134, 3) := by decide +kernel
theorem d_T_tick_34 : decode c_T_tick 34 = .ok (.istore_n 3, 1) := by decide +kernel
theorem d_T_tick_35 : decode c_T_tick 35 = .ok (.iconst 0, 1) := by decide +kernel
theorem d_T_tick_36 : decode c_T_tick 36 = .ok (.istore 4, 2) := by decide +kernel
theorem d_T_tick_38 : decode c_T_tick 38 = .ok (.iload 4, 2) := by decide +kernel
theorem d_T_tick_40 : decode c_T_tick 40 = .ok (.bipush 80, 2) := by decide +kernel
theorem d_T_tick_42 : decode c_T_tick 42 = .ok (.if_icmp .ge 28, 3) := by decide +kernel
theorem d_T_tick_45 : decode c_T_tick 45 = .ok (.iload_n 3, 1) := by decide +kernel
theorem d_T_tick_46 : decode c_T_tick 46 = .ok (.iload_n 1, 1) := by decide +kernel
theorem d_T_tick_47 : decode c_T_tick 47 = .ok (.if_icmp .gt 23, 3) := by decide +kernel
theorem d_T_tick_50 : decode c_T_tick 50 = .ok (.iload_n 2, 1) := by decide +kernel
theorem d_T_tick_51 : decode c_T_tick 51 = .ok (.aload_n 0, 1) := by decide +kernel
theorem d_T_tick_52 : decode c_T_tick 52 = .ok (.iload_n 3, 1) := by decide +kernel
theorem d_T_tick_53 : decode c_T_tick 53 = .ok (.invokevirtual 138, 3) := by decide +kernel
theorem d_T_tick_56 : decode c_T_tick 56 = .ok (.iadd, 1) := by decide +kernel
theorem d_T_tick_57 : decode c_T_tick 57 = .ok (.istore_n 2, 1) := by decide +kernel
theorem d_T_tick_58 : decode c_T_tick 58 = .ok (.aload_n 0, 1) := by decide +kernel
theorem d_T_tick_59 : decode c_T_tick 59 = .ok (.iload_n 3, 1) := by decide +kernel
theorem d_T_tick_60 : decode c_T_tick 60 = .ok (.invokevirtual 134, 3) := by decide +kernel
theorem d_T_tick_63 : decode c_T_tick 63 = .ok (.istore_n 3, 1) := by decide +kernel
theorem d_T_tick_64 : decode c_T_tick 64 = .ok (.iinc 4 1, 3) := by decide +kernel
theorem d_T_tick_67 : decode c_T_tick 67 = .ok (.goto (-29), 3) := by decide +kernel
theorem d_T_tick_70 : decode c_T_tick 70 = .ok (.aload_n 0, 1) := by decide +kernel
theorem d_T_tick_71 : decode c_T_tick 71 = .ok (.iload_n 1, 1) := by decide +kernel
theorem d_T_tick_72 : decode c_T_tick 72 = .ok (.putfield 28, 3) := by decide +kernel
theorem d_T_tick_75 : decode c_T_tick 75 = .ok (.iload_n 2, 1) := by decide +kernel
theorem d_T_tick_76 : decode c_T_tick 76 = .ok (.ireturn, 1) := by decide +kernel
theorem d_T_nextDueDay_0 : decode c_T_nextDueDay 0 = .ok (.sipush 10001, 3) := by decide +kernel
theorem d_T_nextDueDay_3 : decode c_T_nextDueDay 3 = .ok (.istore_n 2, 1) := by decide +kernel
theorem d_T_nextDueDay_4 : decode c_T_nextDueDay 4 = .ok (.iconst 0, 1) := by decide +kernel
theorem d_T_nextDueDay_5 : decode c_T_nextDueDay 5 = .ok (.istore_n 3, 1) := by decide +kernel
theorem d_T_nextDueDay_6 : decode c_T_nextDueDay 6 = .ok (.iload_n 3, 1) := by decide +kernel
theorem d_T_nextDueDay_7 : decode c_T_nextDueDay 7 = .ok (.aload_n 0, 1) := by decide +kernel
theorem d_T_nextDueDay_8 : decode c_T_nextDueDay 8 = .ok (.getfield 11, 3) := by decide +kernel
theorem d_T_nextDueDay_11 : decode c_T_nextDueDay 11 = .ok (.arraylength, 1) := by decide +kernel
theorem d_T_nextDueDay_12 : decode c_T_nextDueDay 12 = .ok (.if_icmp .ge 33, 3) := by decide +kernel
theorem d_T_nextDueDay_15 : decode c_T_nextDueDay 15 = .ok (.aload_n 0, 1) := by decide +kernel
theorem d_T_nextDueDay_16 : decode c_T_nextDueDay 16 = .ok (.getfield 11, 3) := by decide +kernel
theorem d_T_nextDueDay_19 : decode c_T_nextDueDay 19 = .ok (.iload_n 3, 1) := by decide +kernel
theorem d_T_nextDueDay_20 : decode c_T_nextDueDay 20 = .ok (.aaload, 1) := by decide +kernel
theorem d_T_nextDueDay_21 : decode c_T_nextDueDay 21 = .ok (.astore 4, 2) := by decide +kernel
theorem d_T_nextDueDay_23 : decode c_T_nextDueDay 23 = .ok (.aload 4, 2) := by decide +kernel
theorem d_T_nextDueDay_25 : decode c_T_nextDueDay 25 = .ok (.ifnull 14, 3) := by decide +kernel
theorem d_T_nextDueDay_28 : decode c_T_nextDueDay 28 = .ok (.iload_n 2, 1) := by decide +kernel
theorem d_T_nextDueDay_29 : decode c_T_nextDueDay 29 = .ok (.aload 4, 2) := by decide +kernel
theorem d_T_nextDueDay_31 : decode c_T_nextDueDay 31 = .ok (.iload_n 1, 1) := by decide +kernel
theorem d_T_nextDueDay_32 : decode c_T_nextDueDay 32 = .ok (.invokevirtual 224, 3) := by decide +kernel
theorem d_T_nextDueDay_35 : decode c_T_nextDueDay 35 = .ok (.invokestatic 227, 3) := by decide +kernel
theorem d_T_nextDueDay_38 : decode c_T_nextDueDay 38 = .ok (.istore_n 2, 1) := by decide +kernel
theorem d_T_nextDueDay_39 : decode c_T_nextDueDay 39 = .ok (.iinc 3 1, 3) := by decide +kernel
theorem d_T_nextDueDay_42 : decode c_T_nextDueDay 42 = .ok (.goto (-36), 3) := by decide +kernel
theorem d_T_nextDueDay_45 : decode c_T_nextDueDay 45 = .ok (.iload_n 2, 1) := by decide +kernel
theorem d_T_nextDueDay_46 : decode c_T_nextDueDay 46 = .ok (.ireturn, 1) := by decide +kernel
theorem d_T_passDueDay_0 : decode c_T_passDueDay 0 = .ok (.iconst 0, 1) := by decide +kernel
theorem d_T_passDueDay_1 : decode c_T_passDueDay 1 = .ok (.istore_n 2, 1) := by decide +kernel
theorem d_T_passDueDay_2 : decode c_T_passDueDay 2 = .ok (.iconst 0, 1) := by decide +kernel
theorem d_T_passDueDay_3 : decode c_T_passDueDay 3 = .ok (.istore_n 3, 1) := by decide +kernel
theorem d_T_passDueDay_4 : decode c_T_passDueDay 4 = .ok (.iload_n 3, 1) := by decide +kernel
theorem d_T_passDueDay_5 : decode c_T_passDueDay 5 = .ok (.aload_n 0, 1) := by decide +kernel
theorem d_T_passDueDay_6 : decode c_T_passDueDay 6 = .ok (.getfield 11, 3) := by decide +kernel
theorem d_T_passDueDay_9 : decode c_T_passDueDay 9 = .ok (.arraylength, 1) := by decide +kernel
theorem d_T_passDueDay_10 : decode c_T_passDueDay 10 = .ok (.if_icmp .ge 104, 3) := by decide +kernel
theorem d_T_passDueDay_13 : decode c_T_passDueDay 13 = .ok (.aload_n 0, 1) := by decide +kernel
theorem d_T_passDueDay_14 : decode c_T_passDueDay 14 = .ok (.getfield 11, 3) := by decide +kernel
theorem d_T_passDueDay_17 : decode c_T_passDueDay 17 = .ok (.iload_n 3, 1) := by decide +kernel
theorem d_T_passDueDay_18 : decode c_T_passDueDay 18 = .ok (.aaload, 1) := by decide +kernel
theorem d_T_passDueDay_19 : decode c_T_passDueDay 19 = .ok (.astore 4, 2) := by decide +kernel
theorem d_T_passDueDay_21 : decode c_T_passDueDay 21 = .ok (.aload 4, 2) := by decide +kernel
theorem d_T_passDueDay_23 : decode c_T_passDueDay 23 = .ok (.ifnull 85, 3) := by decide +kernel
theorem d_T_passDueDay_26 : decode c_T_passDueDay 26 = .ok (.aload 4, 2) := by decide +kernel
theorem d_T_passDueDay_28 : decode c_T_passDueDay 28 = .ok (.iload_n 1, 1) := by decide +kernel
theorem d_T_passDueDay_29 : decode c_T_passDueDay 29 = .ok (.invokevirtual 233, 3) := by decide +kernel
theorem d_T_passDueDay_32 : decode c_T_passDueDay 32 = .ok (.ifCond .ne 6, 3) := by decide +kernel
theorem d_T_passDueDay_35 : decode c_T_passDueDay 35 = .ok (.goto 73, 3) := by decide +kernel
theorem d_T_passDueDay_38 : decode c_T_passDueDay 38 = .ok (.iload_n 1, 1) := by decide +kernel
theorem d_T_passDueDay_39 : decode c_T_passDueDay 39 = .ok (.aload 4, 2) := by decide +kernel
theorem d_T_passDueDay_41 : decode c_T_passDueDay 41 = .ok (.getfield 88, 3) := by decide +kernel
theorem d_T_passDueDay_44 : decode c_T_passDueDay 44 = .ok (.bipush 40, 2) := by decide +kernel
theorem d_T_passDueDay_46 : decode c_T_passDueDay 46 = .ok (.iadd, 1) := by decide +kernel
theorem d_T_passDueDay_47 : decode c_T_passDueDay 47 = .ok (.if_icmp .ne 11, 3) := by decide +kernel
theorem d_T_passDueDay_50 : decode c_T_passDueDay 50 = .ok (.aload 4, 2) := by decide +kernel
theorem d_T_passDueDay_52 : decode c_T_passDueDay 52 = .ok (.invokevirtual 236, 3) := by decide +kernel
theorem d_T_passDueDay_55 : decode c_T_passDueDay 55 = .ok (.goto 53, 3) := by decide +kernel
theorem d_T_passDueDay_58 : decode c_T_passDueDay 58 = .ok (.aload 4, 2) := by decide +kernel
theorem d_T_passDueDay_60 : decode c_T_passDueDay 60 = .ok (.invokevirtual 239, 3) := by decide +kernel
theorem d_T_passDueDay_63 : decode c_T_passDueDay 63 = .ok (.ifCond .eq 45, 3) := by decide +kernel
theorem d_T_passDueDay_66 : decode c_T_passDueDay 66 = .ok (.aload 4, 2) := by decide +kernel
theorem d_T_passDueDay_68 : decode c_T_passDueDay 68 = .ok (.dup, 1) := by decide +kernel
theorem d_T_passDueDay_69 : decode c_T_passDueDay 69 = .ok (.getfield 161, 3) := by decide +kernel
theorem d_T_passDueDay_72 : decode c_T_passDueDay 72 = .ok (.iconst 1, 1) := by decide +kernel
theorem d_T_passDueDay_73 : decode c_T_passDueDay 73 = .ok (.iadd, 1) := by decide +kernel
theorem d_T_passDueDay_74 : decode c_T_passDueDay 74 = .ok (.putfield 161, 3) := by decide +kernel
theorem d_T_passDueDay_77 : decode c_T_passDueDay 77 = .ok (.aload 4, 2) := by decide +kernel
theorem d_T_passDueDay_79 : decode c_T_passDueDay 79 = .ok (.iconst 4, 1) := by decide +kernel
theorem d_T_passDueDay_80 : decode c_T_passDueDay 80 = .ok (.putfield 79, 3) := by decide +kernel
theorem d_T_passDueDay_83 : decode c_T_passDueDay 83 = .ok (.aload_n 0, 1) := by decide +kernel
theorem d_T_passDueDay_84 : decode c_T_passDueDay 84 = .ok (.iconst 4, 1) := by decide +kernel
theorem d_T_passDueDay_85 : decode c_T_passDueDay 85 = .ok (.iload_n 3, 1) := by decide +kernel
theorem d_T_passDueDay_86 : decode c_T_passDueDay 86 = .ok (.aload 4, 2) := by decide +kernel
theorem d_T_passDueDay_88 : decode c_T_passDueDay 88 = .ok (.getfield 76, 3) := by decide +kernel
theorem d_T_passDueDay_91 : decode c_T_passDueDay 91 = .ok (.aload 4, 2) := by decide +kernel
theorem d_T_passDueDay_93 : decode c_T_passDueDay 93 = .ok (.getfield 99, 3) := by decide +kernel
theorem d_T_passDueDay_96 : decode c_T_passDueDay 96 = .ok (.aload 4, 2) := by decide +kernel
theorem d_T_passDueDay_98 : decode c_T_passDueDay 98 = .ok (.getfield 161, 3) := by decide +kernel
theorem d_T_passDueDay_101 : decode c_T_passDueDay 101 = .ok (.iconst 0, 1) := by decide +kernel
theorem d_T_passDueDay_102 : decode c_T_passDueDay 102 = .ok (.invokevirtual 63, 3) := by decide +kernel
theorem d_T_passDueDay_105 : decode c_T_passDueDay 105 = .ok (.iinc 2 1, 3) := by decide +kernel
theorem d_T_passDueDay_108 : decode c_T_passDueDay 108 = .ok (.iinc 3 1, 3) := by decide +kernel
theorem d_T_passDueDay_111 : decode c_T_passDueDay 111 = .ok (.goto (-107), 3) := by decide +kernel
theorem d_T_passDueDay_114 : decode c_T_passDueDay 114 = .ok (.iload_n 2, 1) := by decide +kernel
theorem d_T_passDueDay_115 : decode c_T_passDueDay 115 = .ok (.ireturn, 1) := by decide +kernel
theorem d_T_discharge_0 : decode c_T_discharge 0 = .ok (.aload_n 0, 1) := by decide +kernel
theorem d_T_discharge_1 : decode c_T_discharge 1 = .ok (.iload_n 1, 1) := by decide +kernel
theorem d_T_discharge_2 : decode c_T_discharge 2 = .ok (.invokevirtual 66, 3) := by decide +kernel
theorem d_T_discharge_5 : decode c_T_discharge 5 = .ok (.astore_n 3, 1) := by decide +kernel
theorem d_T_discharge_6 : decode c_T_discharge 6 = .ok (.aload_n 3, 1) := by decide +kernel
theorem d_T_discharge_7 : decode c_T_discharge 7 = .ok (.ifnull 8, 3) := by decide +kernel
theorem d_T_discharge_10 : decode c_T_discharge 10 = .ok (.iload_n 2, 1) := by decide +kernel
theorem d_T_discharge_11 : decode c_T_discharge 11 = .ok (.iconst 1, 1) := by decide +kernel
theorem d_T_discharge_12 : decode c_T_discharge 12 = .ok (.if_icmp .ge 13, 3) := by decide +kernel
theorem d_T_discharge_15 : decode c_T_discharge 15 = .ok (.new 38, 3) := by decide +kernel
theorem d_T_discharge_18 : decode c_T_discharge 18 = .ok (.dup, 1) := by decide +kernel
theorem d_T_discharge_19 : decode c_T_discharge 19 = .ok (.ldc 141, 2) := by decide +kernel
theorem d_T_discharge_21 : decode c_T_discharge 21 = .ok (.invokespecial 42, 3) := by decide +kernel
theorem d_T_discharge_24 : decode c_T_discharge 24 = .ok (.athrow, 1) := by decide +kernel
theorem d_T_discharge_25 : decode c_T_discharge 25 = .ok (.aload_n 3, 1) := by decide +kernel
theorem d_T_discharge_26 : decode c_T_discharge 26 = .ok (.getfield 79, 3) := by decide +kernel
theorem d_T_discharge_29 : decode c_T_discharge 29 = .ok (.iconst 3, 1) := by decide +kernel
theorem d_T_discharge_30 : decode c_T_discharge 30 = .ok (.if_icmp .ne 11, 3) := by decide +kernel
theorem d_T_discharge_33 : decode c_T_discharge 33 = .ok (.iload_n 2, 1) := by decide +kernel
theorem d_T_discharge_34 : decode c_T_discharge 34 = .ok (.aload_n 3, 1) := by decide +kernel
theorem d_T_discharge_35 : decode c_T_discharge 35 = .ok (.invokevirtual 143, 3) := by decide +kernel
theorem d_T_discharge_38 : decode c_T_discharge 38 = .ok (.if_icmp .le 5, 3) := by decide +kernel
theorem d_T_discharge_41 : decode c_T_discharge 41 = .ok (.iconst (-1), 1) := by decide +kernel
theorem d_T_discharge_42 : decode c_T_discharge 42 = .ok (.ireturn, 1) := by decide +kernel
theorem d_T_discharge_43 : decode c_T_discharge 43 = .ok (.aload_n 3, 1) := by decide +kernel
theorem d_T_discharge_44 : decode c_T_discharge 44 = .ok (.dup, 1) := by decide +kernel
theorem d_T_discharge_45 : decode c_T_discharge 45 = .ok (.getfield 147, 3) := by decide +kernel
theorem d_T_discharge_48 : decode c_T_discharge 48 = .ok (.iload_n 2, 1) := by decide +kernel
theorem d_T_discharge_49 : decode c_T_discharge 49 = .ok (.iadd, 1) := by decide +kernel
theorem d_T_discharge_50 : decode c_T_discharge 50 = .ok (.putfield 147, 3) := by decide +kernel
theorem d_T_discharge_53 : decode c_T_discharge 53 = .ok (.aload_n 3, 1) := by decide +kernel
theorem d_T_discharge_54 : decode c_T_discharge 54 = .ok (.invokevirtual 143, 3) := by decide +kernel
theorem d_T_discharge_57 : decode c_T_discharge 57 = .ok (.ifCond .ne 9, 3) := by decide +kernel
theorem d_T_discharge_60 : decode c_T_discharge 60 = .ok (.aload_n 3, 1) := by decide +kernel
theorem d_T_discharge_61 : decode c_T_discharge 61 = .ok (.bipush 6, 2) := by decide +kernel
theorem d_T_discharge_63 : decode c_T_discharge 63 = .ok (.putfield 79, 3) := by decide +kernel
theorem d_T_discharge_66 : decode c_T_discharge 66 = .ok (.aload_n 3, 1) := by decide +kernel
theorem d_T_discharge_67 : decode c_T_discharge 67 = .ok (.invokevirtual 143, 3) := by decide +kernel
theorem d_T_discharge_70 : decode c_T_discharge 70 = .ok (.ireturn, 1) := by decide +kernel
theorem d_T_proof_0 : decode c_T_proof 0 = .ok (.aload_n 0, 1) := by decide +kernel
theorem d_T_proof_1 : decode c_T_proof 1 = .ok (.iload_n 1, 1) := by decide +kernel
theorem d_T_proof_2 : decode c_T_proof 2 = .ok (.invokevirtual 66, 3) := by decide +kernel
theorem d_T_proof_5 : decode c_T_proof 5 = .ok (.astore_n 2, 1) := by decide +kernel
theorem d_T_proof_6 : decode c_T_proof 6 = .ok (.aload_n 2, 1) := by decide +kernel
theorem d_T_proof_7 : decode c_T_proof 7 = .ok (.ifnonnull 13, 3) := by decide +kernel
theorem d_T_proof_10 : decode c_T_proof 10 = .ok (.new 38, 3) := by decide +kernel
theorem d_T_proof_13 : decode c_T_proof 13 = .ok (.dup, 1) := by decide +kernel
theorem d_T_proof_14 : decode c_T_proof 14 = .ok (.ldc 150, 2) := by decide +kernel
theorem d_T_proof_16 : decode c_T_proof 16 = .ok (.invokespecial 42, 3) := by decide +kernel
theorem d_T_proof_19 : decode c_T_proof 19 = .ok (.athrow, 1) := by decide +kernel
theorem d_T_proof_20 : decode c_T_proof 20 = .ok (.aload_n 2, 1) := by decide +kernel
theorem d_T_proof_21 : decode c_T_proof 21 = .ok (.invokevirtual 152, 3) := by decide +kernel
theorem d_T_proof_24 : decode c_T_proof 24 = .ok (.ifCond .ne 11, 3) := by decide +kernel
theorem d_T_proof_27 : decode c_T_proof 27 = .ok (.aload_n 2, 1) := by decide +kernel
theorem d_T_proof_28 : decode c_T_proof 28 = .ok (.bipush 6, 2) := by decide +kernel
theorem d_T_proof_30 : decode c_T_proof 30 = .ok (.putfield 79, 3) := by decide +kernel
theorem d_T_proof_33 : decode c_T_proof 33 = .ok (.iconst 1, 1) := by decide +kernel
theorem d_T_proof_34 : decode c_T_proof 34 = .ok (.ireturn, 1) := by decide +kernel
theorem d_T_proof_35 : decode c_T_proof 35 = .ok (.aload_n 2, 1) := by decide +kernel
theorem d_T_proof_36 : decode c_T_proof 36 = .ok (.getfield 79, 3) := by decide +kernel
theorem d_T_proof_39 : decode c_T_proof 39 = .ok (.iconst 5, 1) := by decide +kernel
theorem d_T_proof_40 : decode c_T_proof 40 = .ok (.if_icmp .ne 30, 3) := by decide +kernel
theorem d_T_proof_43 : decode c_T_proof 43 = .ok (.aload_n 0, 1) := by decide +kernel
theorem d_T_proof_44 : decode c_T_proof 44 = .ok (.getfield 28, 3) := by decide +kernel
theorem d_T_proof_47 : decode c_T_proof 47 = .ok (.aload_n 2, 1) := by decide +kernel
theorem d_T_proof_48 : decode c_T_proof 48 = .ok (.getfield 88, 3) := by decide +kernel
theorem d_T_proof_51 : decode c_T_proof 51 = .ok (.bipush 70, 2) := by decide +kernel
theorem d_T_proof_53 : decode c_T_proof 53 = .ok (.iadd, 1) := by decide +kernel
theorem d_T_proof_54 : decode c_T_proof 54 = .ok (.if_icmp .gt 16, 3) := by decide +kernel
theorem d_T_proof_57 : decode c_T_proof 57 = .ok (.aload_n 2, 1) := by decide +kernel
theorem d_T_proof_58 : decode c_T_proof 58 = .ok (.bipush 6, 2) := by decide +kernel
theorem d_T_proof_60 : decode c_T_proof 60 = .ok (.putfield 79, 3) := by decide +kernel
theorem d_T_proof_63 : decode c_T_proof 63 = .ok (.aload_n 2, 1) := by decide +kernel
theorem d_T_proof_64 : decode c_T_proof 64 = .ok (.iconst 0, 1) := by decide +kernel
theorem d_T_proof_65 : decode c_T_proof 65 = .ok (.putfield 155, 3) := by decide +kernel
theorem d_T_proof_68 : decode c_T_proof 68 = .ok (.iconst 2, 1) := by decide +kernel
theorem d_T_proof_69 : decode c_T_proof 69 = .ok (.ireturn, 1) := by decide +kernel
theorem d_T_proof_70 : decode c_T_proof 70 = .ok (.iconst 0, 1) := by decide +kernel
theorem d_T_proof_71 : decode c_T_proof 71 = .ok (.ireturn, 1) := by decide +kernel
theorem d_T_state_0 : decode c_T_state 0 = .ok (.aload_n 0, 1) := by decide +kernel
theorem d_T_state_1 : decode c_T_state 1 = .ok (.iload_n 1, 1) := by decide +kernel
theorem d_T_state_2 : decode c_T_state 2 = .ok (.invokevirtual 66, 3) := by decide +kernel
theorem d_T_state_5 : decode c_T_state 5 = .ok (.astore_n 3, 1) := by decide +kernel
theorem d_T_state_6 : decode c_T_state 6 = .ok (.aload_n 3, 1) := by decide +kernel
theorem d_T_state_7 : decode c_T_state 7 = .ok (.ifnonnull 13, 3) := by decide +kernel
theorem d_T_state_10 : decode c_T_state 10 = .ok (.new 158, 3) := by decide +kernel
theorem d_T_state_13 : decode c_T_state 13 = .ok (.dup, 1) := by decide +kernel
theorem d_T_state_14 : decode c_T_state 14 = .ok (.ldc 150, 2) := by decide +kernel
theorem d_T_state_16 : decode c_T_state 16 = .ok (.invokespecial 160, 3) := by decide +kernel
theorem d_T_state_19 : decode c_T_state 19 = .ok (.athrow, 1) := by decide +kernel
theorem d_T_state_20 : decode c_T_state 20 = .ok (.iload_n 2, 1) := by decide +kernel
theorem d_T_state_21 : decode c_T_state 21 = .ok (.tableswitch 136 0 8 #[51, 56, 61, 66, 71, 76, 81, 86, 108], 51) := by decide +kernel
theorem d_T_state_72 : decode c_T_state 72 = .ok (.aload_n 3, 1) := by decide +kernel
theorem d_T_state_73 : decode c_T_state 73 = .ok (.getfield 79, 3) := by decide +kernel
theorem d_T_state_76 : decode c_T_state 76 = .ok (.ireturn, 1) := by decide +kernel
theorem d_T_state_77 : decode c_T_state 77 = .ok (.aload_n 3, 1) := by decide +kernel
theorem d_T_state_78 : decode c_T_state 78 = .ok (.getfield 147, 3) := by decide +kernel
theorem d_T_state_81 : decode c_T_state 81 = .ok (.ireturn, 1) := by decide +kernel
theorem d_T_state_82 : decode c_T_state 82 = .ok (.aload_n 3, 1) := by decide +kernel
theorem d_T_state_83 : decode c_T_state 83 = .ok (.getfield 155, 3) := by decide +kernel
theorem d_T_state_86 : decode c_T_state 86 = .ok (.ireturn, 1) := by decide +kernel
theorem d_T_state_87 : decode c_T_state 87 = .ok (.aload_n 3, 1) := by decide +kernel
theorem d_T_state_88 : decode c_T_state 88 = .ok (.getfield 161, 3) := by decide +kernel
theorem d_T_state_91 : decode c_T_state 91 = .ok (.ireturn, 1) := by decide +kernel
theorem d_T_state_92 : decode c_T_state 92 = .ok (.aload_n 3, 1) := by decide +kernel
theorem d_T_state_93 : decode c_T_state 93 = .ok (.getfield 164, 3) := by decide +kernel
theorem d_T_state_96 : decode c_T_state 96 = .ok (.ireturn, 1) := by decide +kernel
theorem d_T_state_97 : decode c_T_state 97 = .ok (.aload_n 3, 1) := by decide +kernel
theorem d_T_state_98 : decode c_T_state 98 = .ok (.getfield 167, 3) := by decide +kernel
theorem d_T_state_101 : decode c_T_state 101 = .ok (.ireturn, 1) := by decide +kernel
theorem d_T_state_102 : decode c_T_state 102 = .ok (.aload_n 3, 1) := by decide +kernel
theorem d_T_state_103 : decode c_T_state 103 = .ok (.getfield 170, 3) := by decide +kernel
theorem d_T_state_106 : decode c_T_state 106 = .ok (.ireturn, 1) := by decide +kernel
theorem d_T_state_107 : decode c_T_state 107 = .ok (.aload_n 3, 1) := by decide +kernel
theorem d_T_state_108 : decode c_T_state 108 = .ok (.getfield 170, 3) := by decide +kernel
theorem d_T_state_111 : decode c_T_state 111 = .ok (.iconst (-1), 1) := by decide +kernel
theorem d_T_state_112 : decode c_T_state 112 = .ok (.if_icmp .ne 7, 3) := by decide +kernel
theorem d_T_state_115 : decode c_T_state 115 = .ok (.iconst (-1), 1) := by decide +kernel
theorem d_T_state_116 : decode c_T_state 116 = .ok (.goto 12, 3) := by decide +kernel
theorem d_T_state_119 : decode c_T_state 119 = .ok (.aload_n 3, 1) := by decide +kernel
theorem d_T_state_120 : decode c_T_state 120 = .ok (.getfield 173, 3) := by decide +kernel
theorem d_T_state_123 : decode c_T_state 123 = .ok (.aload_n 3, 1) := by decide +kernel
theorem d_T_state_124 : decode c_T_state 124 = .ok (.getfield 170, 3) := by decide +kernel
theorem d_T_state_127 : decode c_T_state 127 = .ok (.isub, 1) := by decide +kernel
theorem d_T_state_128 : decode c_T_state 128 = .ok (.ireturn, 1) := by decide +kernel
theorem d_T_state_129 : decode c_T_state 129 = .ok (.aload_n 3, 1) := by decide +kernel
theorem d_T_state_130 : decode c_T_state 130 = .ok (.getfield 164, 3) := by decide +kernel
theorem d_T_state_133 : decode c_T_state 133 = .ok (.iconst (-1), 1) := by decide +kernel
theorem d_T_state_134 : decode c_T_state 134 = .ok (.if_icmp .eq 18, 3) := by decide +kernel
theorem d_T_state_137 : decode c_T_state 137 = .ok (.aload_n 3, 1) := by decide +kernel
theorem d_T_state_138 : decode c_T_state 138 = .ok (.getfield 164, 3) := by decide +kernel
theorem d_T_state_141 : decode c_T_state 141 = .ok (.aload_n 3, 1) := by decide +kernel
theorem d_T_state_142 : decode c_T_state 142 = .ok (.getfield 176, 3) := by decide +kernel
theorem d_T_state_145 : decode c_T_state 145 = .ok (.if_icmp .eq 7, 3) := by decide +kernel
theorem d_T_state_148 : decode c_T_state 148 = .ok (.iconst 1, 1) := by decide +kernel
theorem d_T_state_149 : decode c_T_state 149 = .ok (.goto 4, 3) := by decide +kernel
theorem d_T_state_152 : decode c_T_state 152 = .ok (.iconst 0, 1) := by decide +kernel
theorem d_T_state_153 : decode c_T_state 153 = .ok (.invokestatic 179, 3) := by decide +kernel
theorem d_T_state_156 : decode c_T_state 156 = .ok (.ireturn, 1) := by decide +kernel
theorem d_T_state_157 : decode c_T_state 157 = .ok (.new 158, 3) := by decide +kernel
theorem d_T_state_160 : decode c_T_state 160 = .ok (.dup, 1) := by decide +kernel
theorem d_T_state_161 : decode c_T_state 161 = .ok (.ldc 183, 2) := by decide +kernel
theorem d_T_state_163 : decode c_T_state 163 = .ok (.invokespecial 160, 3) := by decide +kernel
theorem d_T_state_166 : decode c_T_state 166 = .ok (.athrow, 1) := by decide +kernel
theorem d_T_office_0 : decode c_T_office 0 = .ok (.aload_n 0, 1) := by decide +kernel
theorem d_T_office_1 : decode c_T_office 1 = .ok (.iload_n 1, 1) := by decide +kernel
theorem d_T_office_2 : decode c_T_office 2 = .ok (.invokevirtual 66, 3) := by decide +kernel
theorem d_T_office_5 : decode c_T_office 5 = .ok (.astore_n 3, 1) := by decide +kernel
theorem d_T_office_6 : decode c_T_office 6 = .ok (.aload_n 3, 1) := by decide +kernel
theorem d_T_office_7 : decode c_T_office 7 = .ok (.ifnull 11, 3) := by decide +kernel
theorem d_T_office_10 : decode c_T_office 10 = .ok (.aload_n 0, 1) := by decide +kernel
theorem d_T_office_11 : decode c_T_office 11 = .ok (.iload_n 2, 1) := by decide +kernel
theorem d_T_office_12 : decode c_T_office 12 = .ok (.invokevirtual 34, 3) := by decide +kernel
theorem d_T_office_15 : decode c_T_office 15 = .ok (.ifCond .ne 13, 3) := by decide +kernel
theorem d_T_office_18 : decode c_T_office 18 = .ok (.new 158, 3) := by decide +kernel
theorem d_T_office_21 : decode c_T_office 21 = .ok (.dup, 1) := by decide +kernel
theorem d_T_office_22 : decode c_T_office 22 = .ok (.ldc 185, 2) := by decide +kernel
theorem d_T_office_24 : decode c_T_office 24 = .ok (.invokespecial 160, 3) := by decide +kernel
theorem d_T_office_27 : decode c_T_office 27 = .ok (.athrow, 1) := by decide +kernel
theorem d_T_office_28 : decode c_T_office 28 = .ok (.iload_n 2, 1) := by decide +kernel
theorem d_T_office_29 : decode c_T_office 29 = .ok (.aload_n 3, 1) := by decide +kernel
theorem d_T_office_30 : decode c_T_office 30 = .ok (.getfield 99, 3) := by decide +kernel
theorem d_T_office_33 : decode c_T_office 33 = .ok (.if_icmp .ne 7, 3) := by decide +kernel
theorem d_T_office_36 : decode c_T_office 36 = .ok (.iconst 1, 1) := by decide +kernel
theorem d_T_office_37 : decode c_T_office 37 = .ok (.goto 4, 3) := by decide +kernel
theorem d_T_office_40 : decode c_T_office 40 = .ok (.iconst 0, 1) := by decide +kernel
theorem d_T_office_41 : decode c_T_office 41 = .ok (.istore 4, 2) := by decide +kernel
theorem d_T_office_43 : decode c_T_office 43 = .ok (.iload_n 2, 1) := by decide +kernel
theorem d_T_office_44 : decode c_T_office 44 = .ok (.aload_n 3, 1) := by decide +kernel
theorem d_T_office_45 : decode c_T_office 45 = .ok (.getfield 82, 3) := by decide +kernel
theorem d_T_office_48 : decode c_T_office 48 = .ok (.if_icmp .ne 7, 3) := by decide +kernel
theorem d_T_office_51 : decode c_T_office 51 = .ok (.iconst 1, 1) := by decide +kernel
theorem d_T_office_52 : decode c_T_office 52 = .ok (.goto 4, 3) := by decide +kernel
theorem d_T_office_55 : decode c_T_office 55 = .ok (.iconst 0, 1) := by decide +kernel
theorem d_T_office_56 : decode c_T_office 56 = .ok (.istore 5, 2) := by decide +kernel
theorem d_T_office_58 : decode c_T_office 58 = .ok (.iload_n 2, 1) := by decide +kernel
theorem d_T_office_59 : decode c_T_office 59 = .ok (.aload_n 3, 1) := by decide +kernel
theorem d_T_office_60 : decode c_T_office 60 = .ok (.getfield 76, 3) := by decide +kernel
theorem d_T_office_63 : decode c_T_office 63 = .ok (.if_icmp .ne 7, 3) := by decide +kernel
theorem d_T_office_66 : decode c_T_office 66 = .ok (.iconst 1, 1) := by decide +kernel
theorem d_T_office_67 : decode c_T_office 67 = .ok (.goto 4, 3) := by decide +kernel
theorem d_T_office_70 : decode c_T_office 70 = .ok (.iconst 0, 1) := by decide +kernel
theorem d_T_office_71 : decode c_T_office 71 = .ok (.invokestatic 179, 3) := by decide +kernel
theorem d_T_office_74 : decode c_T_office 74 = .ok (.iconst 2, 1) := by decide +kernel
theorem d_T_office_75 : decode c_T_office 75 = .ok (.iload 4, 2) := by decide +kernel
theorem d_T_office_77 : decode c_T_office 77 = .ok (.ifCond .eq 14, 3) := by decide +kernel
theorem d_T_office_80 : decode c_T_office 80 = .ok (.aload_n 3, 1) := by decide +kernel
theorem d_T_office_81 : decode c_T_office 81 = .ok (.getfield 187, 3) := by decide +kernel
theorem d_T_office_84 : decode c_T_office 84 = .ok (.ifCond .eq 7, 3) := by decide +kernel
theorem d_T_office_87 : decode c_T_office 87 = .ok (.iconst 1, 1) := by decide +kernel
theorem d_T_office_88 : decode c_T_office 88 = .ok (.goto 4, 3) := by decide +kernel
theorem d_T_office_91 : decode c_T_office 91 = .ok (.iconst 0, 1) := by decide +kernel
theorem d_T_office_92 : decode c_T_office 92 = .ok (.invokestatic 179, 3) := by decide +kernel
theorem d_T_office_95 : decode c_T_office 95 = .ok (.imul, 1) := by decide +kernel
theorem d_T_office_96 : decode c_T_office 96 = .ok (.iadd, 1) := by decide +kernel
theorem d_T_office_97 : decode c_T_office 97 = .ok (.iconst 4, 1) := by decide +kernel
theorem d_T_office_98 : decode c_T_office 98 = .ok (.iload 4, 2) := by decide +kernel
theorem d_T_office_100 : decode c_T_office 100 = .ok (.ifCond .eq 14, 3) := by decide +kernel
theorem d_T_office_103 : decode c_T_office 103 = .ok (.aload_n 3, 1) := by decide +kernel
theorem d_T_office_104 : decode c_T_office 104 = .ok (.getfield 190, 3) := by decide +kernel
theorem d_T_office_107 : decode c_T_office 107 = .ok (.ifCond .eq 7, 3) := by decide +kernel
theorem d_T_office_110 : decode c_T_office 110 = .ok (.iconst 1, 1) := by decide +kernel
theorem d_T_office_111 : decode c_T_office 111 = .ok (.goto 4, 3) := by decide +kernel
theorem d_T_office_114 : decode c_T_office 114 = .ok (.iconst 0, 1) := by decide +kernel
theorem d_T_office_115 : decode c_T_office 115 = .ok (.invokestatic 179, 3) := by decide +kernel
theorem d_T_office_118 : decode c_T_office 118 = .ok (.imul, 1) := by decide +kernel
theorem d_T_office_119 : decode c_T_office 119 = .ok (.iadd, 1) := by decide +kernel
theorem d_T_office_120 : decode c_T_office 120 = .ok (.bipush 8, 2) := by decide +kernel
theorem d_T_office_122 : decode c_T_office 122 = .ok (.iload 5, 2) := by decide +kernel
theorem d_T_office_124 : decode c_T_office 124 = .ok (.invokestatic 179, 3) := by decide +kernel
theorem d_T_office_127 : decode c_T_office 127 = .ok (.imul, 1) := by decide +kernel
theorem d_T_office_128 : decode c_T_office 128 = .ok (.iadd, 1) := by decide +kernel
theorem d_T_office_129 : decode c_T_office 129 = .ok (.bipush 16, 2) := by decide +kernel
theorem d_T_office_131 : decode c_T_office 131 = .ok (.iload 5, 2) := by decide +kernel
theorem d_T_office_133 : decode c_T_office 133 = .ok (.ifCond .eq 14, 3) := by decide +kernel
theorem d_T_office_136 : decode c_T_office 136 = .ok (.aload_n 3, 1) := by decide +kernel
theorem d_T_office_137 : decode c_T_office 137 = .ok (.invokevirtual 104, 3) := by decide +kernel
theorem d_T_office_140 : decode c_T_office 140 = .ok (.ifCond .eq 7, 3) := by decide +kernel
theorem d_T_office_143 : decode c_T_office 143 = .ok (.iconst 1, 1) := by decide +kernel
theorem d_T_office_144 : decode c_T_office 144 = .ok (.goto 4, 3) := by decide +kernel
theorem d_T_office_147 : decode c_T_office 147 = .ok (.iconst 0, 1) := by decide +kernel
theorem d_T_office_148 : decode c_T_office 148 = .ok (.invokestatic 179, 3) := by decide +kernel
theorem d_T_office_151 : decode c_T_office 151 = .ok (.imul, 1) := by decide +kernel
theorem d_T_office_152 : decode c_T_office 152 = .ok (.iadd, 1) := by decide +kernel
theorem d_T_office_153 : decode c_T_office 153 = .ok (.ireturn, 1) := by decide +kernel
theorem d_T_message_0 : decode c_T_message 0 = .ok (.aload_n 0, 1) := by decide +kernel
theorem d_T_message_1 : decode c_T_message 1 = .ok (.iload_n 1, 1) := by decide +kernel
theorem d_T_message_2 : decode c_T_message 2 = .ok (.invokevirtual 113, 3) := by decide +kernel
theorem d_T_message_5 : decode c_T_message 5 = .ok (.astore_n 3, 1) := by decide +kernel
theorem d_T_message_6 : decode c_T_message 6 = .ok (.aload_n 3, 1) := by decide +kernel
theorem d_T_message_7 : decode c_T_message 7 = .ok (.ifnonnull 13, 3) := by decide +kernel
theorem d_T_message_10 : decode c_T_message 10 = .ok (.new 158, 3) := by decide +kernel
theorem d_T_message_13 : decode c_T_message 13 = .ok (.dup, 1) := by decide +kernel
theorem d_T_message_14 : decode c_T_message 14 = .ok (.ldc 193, 2) := by decide +kernel
theorem d_T_message_16 : decode c_T_message 16 = .ok (.invokespecial 160, 3) := by decide +kernel
theorem d_T_message_19 : decode c_T_message 19 = .ok (.athrow, 1) := by decide +kernel
theorem d_T_message_20 : decode c_T_message 20 = .ok (.iload_n 2, 1) := by decide +kernel
theorem d_T_message_21 : decode c_T_message 21 = .ok (.tableswitch 78 0 6 #[43, 48, 53, 58, 63, 68, 73], 43) := by decide +kernel
theorem d_T_message_64 : decode c_T_message 64 = .ok (.aload_n 3, 1) := by decide +kernel
theorem d_T_message_65 : decode c_T_message 65 = .ok (.getfield 195, 3) := by decide +kernel
theorem d_T_message_68 : decode c_T_message 68 = .ok (.ireturn, 1) := by decide +kernel
theorem d_T_message_69 : decode c_T_message 69 = .ok (.aload_n 3, 1) := by decide +kernel
theorem d_T_message_70 : decode c_T_message 70 = .ok (.getfield 125, 3) := by decide +kernel
theorem d_T_message_73 : decode c_T_message 73 = .ok (.ireturn, 1) := by decide +kernel
theorem d_T_message_74 : decode c_T_message 74 = .ok (.aload_n 3, 1) := by decide +kernel
theorem d_T_message_75 : decode c_T_message 75 = .ok (.getfield 198, 3) := by decide +kernel
theorem d_T_message_78 : decode c_T_message 78 = .ok (.ireturn, 1) := by decide +kernel
theorem d_T_message_79 : decode c_T_message 79 = .ok (.aload_n 3, 1) := by decide +kernel
theorem d_T_message_80 : decode c_T_message 80 = .ok (.getfield 122, 3) := by decide +kernel
theorem d_T_message_83 : decode c_T_message 83 = .ok (.ireturn, 1) := by decide +kernel
theorem d_T_message_84 : decode c_T_message 84 = .ok (.aload_n 3, 1) := by decide +kernel
theorem d_T_message_85 : decode c_T_message 85 = .ok (.getfield 201, 3) := by decide +kernel
theorem d_T_message_88 : decode c_T_message 88 = .ok (.ireturn, 1) := by decide +kernel
theorem d_T_message_89 : decode c_T_message 89 = .ok (.aload_n 3, 1) := by decide +kernel
theorem d_T_message_90 : decode c_T_message 90 = .ok (.getfield 204, 3) := by decide +kernel
theorem d_T_message_93 : decode c_T_message 93 = .ok (.ireturn, 1) := by decide +kernel
theorem d_T_message_94 : decode c_T_message 94 = .ok (.aload_n 3, 1) := by decide +kernel
theorem d_T_message_95 : decode c_T_message 95 = .ok (.getfield 119, 3) := by decide +kernel
theorem d_T_message_98 : decode c_T_message 98 = .ok (.ireturn, 1) := by decide +kernel
theorem d_T_message_99 : decode c_T_message 99 = .ok (.new 158, 3) := by decide +kernel
theorem d_T_message_102 : decode c_T_message 102 = .ok (.dup, 1) := by decide +kernel
theorem d_T_message_103 : decode c_T_message 103 = .ok (.ldc 183, 2) := by decide +kernel
theorem d_T_message_105 : decode c_T_message 105 = .ok (.invokespecial 160, 3) := by decide +kernel
theorem d_T_message_108 : decode c_T_message 108 = .ok (.athrow, 1) := by decide +kernel
theorem d_V_shareInSum_0 : decode c_V_shareInSum 0 = .ok (.iload_n 1, 1) := by decide +kernel
theorem d_V_shareInSum_1 : decode c_V_shareInSum 1 = .ok (.tableswitch 56 4 6 #[27, 43, 48], 27) := by decide +kernel
theorem d_V_shareInSum_28 : decode c_V_shareInSum 28 = .ok (.aload_n 0, 1) := by decide +kernel
theorem d_V_shareInSum_29 : decode c_V_shareInSum 29 = .ok (.invokevirtual 70, 3) := by decide +kernel
theorem d_V_shareInSum_32 : decode c_V_shareInSum 32 = .ok (.ifCond .eq 7, 3) := by decide +kernel
theorem d_V_shareInSum_35 : decode c_V_shareInSum 35 = .ok (.iconst 0, 1) := by decide +kernel
theorem d_V_shareInSum_36 : decode c_V_shareInSum 36 = .ok (.goto 7, 3) := by decide +kernel
theorem d_V_shareInSum_39 : decode c_V_shareInSum 39 = .ok (.aload_n 0, 1) := by decide +kernel
theorem d_V_shareInSum_40 : decode c_V_shareInSum 40 = .ok (.getfield 67, 3) := by decide +kernel
theorem d_V_shareInSum_43 : decode c_V_shareInSum 43 = .ok (.ireturn, 1) := by decide +kernel
theorem d_V_shareInSum_44 : decode c_V_shareInSum 44 = .ok (.aload_n 0, 1) := by decide +kernel
theorem d_V_shareInSum_45 : decode c_V_shareInSum 45 = .ok (.getfield 31, 3) := by decide +kernel
theorem d_V_shareInSum_48 : decode c_V_shareInSum 48 = .ok (.ireturn, 1) := by decide +kernel
theorem d_V_shareInSum_49 : decode c_V_shareInSum 49 = .ok (.aload_n 0, 1) := by decide +kernel
theorem d_V_shareInSum_50 : decode c_V_shareInSum 50 = .ok (.invokevirtual 70, 3) := by decide +kernel
theorem d_V_shareInSum_53 : decode c_V_shareInSum 53 = .ok (.invokestatic 74, 3) := by decide +kernel
theorem d_V_shareInSum_56 : decode c_V_shareInSum 56 = .ok (.ireturn, 1) := by decide +kernel
theorem d_V_shareInSum_57 : decode c_V_shareInSum 57 = .ok (.iconst 0, 1) := by decide +kernel
theorem d_V_shareInSum_58 : decode c_V_shareInSum 58 = .ok (.ireturn, 1) := by decide +kernel
theorem d_V_hasEnded_0 : decode c_V_hasEnded 0 = .ok (.aload_n 0, 1) := by decide +kernel
theorem d_V_hasEnded_1 : decode c_V_hasEnded 1 = .ok (.getfield 25, 3) := by decide +kernel
theorem d_V_hasEnded_4 : decode c_V_hasEnded 4 = .ok (.iconst 5, 1) := by decide +kernel
theorem d_V_hasEnded_5 : decode c_V_hasEnded 5 = .ok (.if_icmp .eq 12, 3) := by decide +kernel
theorem d_V_hasEnded_8 : decode c_V_hasEnded 8 = .ok (.aload_n 0, 1) := by decide +kernel
theorem d_V_hasEnded_9 : decode c_V_hasEnded 9 = .ok (.getfield 25, 3) := by decide +kernel
theorem d_V_hasEnded_12 : decode c_V_hasEnded 12 = .ok (.bipush 6, 2) := by decide +kernel
theorem d_V_hasEnded_14 : decode c_V_hasEnded 14 = .ok (.if_icmp .ne 7, 3) := by decide +kernel
theorem d_V_hasEnded_17 : decode c_V_hasEnded 17 = .ok (.iconst 1, 1) := by decide +kernel
theorem d_V_hasEnded_18 : decode c_V_hasEnded 18 = .ok (.goto 4, 3) := by decide +kernel
theorem d_V_hasEnded_21 : decode c_V_hasEnded 21 = .ok (.iconst 0, 1) := by decide +kernel
theorem d_V_hasEnded_22 : decode c_V_hasEnded 22 = .ok (.ireturn, 1) := by decide +kernel
theorem d_V_init_0 : decode c_V_init 0 = .ok (.aload_n 0, 1) := by decide +kernel
theorem d_V_init_1 : decode c_V_init 1 = .ok (.invokespecial 3, 3) := by decide +kernel
theorem d_V_init_4 : decode c_V_init 4 = .ok (.aload_n 0, 1) := by decide +kernel
theorem d_V_init_5 : decode c_V_init 5 = .ok (.iconst (-1), 1) := by decide +kernel
theorem d_V_init_6 : decode c_V_init 6 = .ok (.putfield 9, 3) := by decide +kernel
theorem d_V_init_9 : decode c_V_init 9 = .ok (.aload_n 0, 1) := by decide +kernel
theorem d_V_init_10 : decode c_V_init 10 = .ok (.iconst (-1), 1) := by decide +kernel
theorem d_V_init_11 : decode c_V_init 11 = .ok (.putfield 15, 3) := by decide +kernel
theorem d_V_init_14 : decode c_V_init 14 = .ok (.aload_n 0, 1) := by decide +kernel
theorem d_V_init_15 : decode c_V_init 15 = .ok (.iconst 0, 1) := by decide +kernel
theorem d_V_init_16 : decode c_V_init 16 = .ok (.putfield 18, 3) := by decide +kernel
theorem d_V_init_19 : decode c_V_init 19 = .ok (.aload_n 0, 1) := by decide +kernel
theorem d_V_init_20 : decode c_V_init 20 = .ok (.iconst (-1), 1) := by decide +kernel
theorem d_V_init_21 : decode c_V_init 21 = .ok (.putfield 22, 3) := by decide +kernel
theorem d_V_init_24 : decode c_V_init 24 = .ok (.aload_n 0, 1) := by decide +kernel
theorem d_V_init_25 : decode c_V_init 25 = .ok (.iconst 1, 1) := by decide +kernel
theorem d_V_init_26 : decode c_V_init 26 = .ok (.putfield 25, 3) := by decide +kernel
theorem d_V_init_29 : decode c_V_init 29 = .ok (.aload_n 0, 1) := by decide +kernel
theorem d_V_init_30 : decode c_V_init 30 = .ok (.iconst 0, 1) := by decide +kernel
theorem d_V_init_31 : decode c_V_init 31 = .ok (.putfield 28, 3) := by decide +kernel
theorem d_V_init_34 : decode c_V_init 34 = .ok (.aload_n 0, 1) := by decide +kernel
theorem d_V_init_35 : decode c_V_init 35 = .ok (.iconst 0, 1) := by decide +kernel
theorem d_V_init_36 : decode c_V_init 36 = .ok (.putfield 31, 3) := by decide +kernel
theorem d_V_init_39 : decode c_V_init 39 = .ok (.aload_n 0, 1) := by decide +kernel
theorem d_V_init_40 : decode c_V_init 40 = .ok (.iconst 0, 1) := by decide +kernel
theorem d_V_init_41 : decode c_V_init 41 = .ok (.putfield 34, 3) := by decide +kernel
theorem d_V_init_44 : decode c_V_init 44 = .ok (.aload_n 0, 1) := by decide +kernel
theorem d_V_init_45 : decode c_V_init 45 = .ok (.iconst (-1), 1) := by decide +kernel
theorem d_V_init_46 : decode c_V_init 46 = .ok (.putfield 37, 3) := by decide +kernel
theorem d_V_init_49 : decode c_V_init 49 = .ok (.aload_n 0, 1) := by decide +kernel
theorem d_V_init_50 : decode c_V_init 50 = .ok (.iconst (-1), 1) := by decide +kernel
theorem d_V_init_51 : decode c_V_init 51 = .ok (.putfield 40, 3) := by decide +kernel
theorem d_V_init_54 : decode c_V_init 54 = .ok (.aload_n 0, 1) := by decide +kernel
theorem d_V_init_55 : decode c_V_init 55 = .ok (.iconst (-1), 1) := by decide +kernel
theorem d_V_init_56 : decode c_V_init 56 = .ok (.putfield 43, 3) := by decide +kernel
theorem d_V_init_59 : decode c_V_init 59 = .ok (.aload_n 0, 1) := by decide +kernel
theorem d_V_init_60 : decode c_V_init 60 = .ok (.iconst 0, 1) := by decide +kernel
theorem d_V_init_61 : decode c_V_init 61 = .ok (.putfield 46, 3) := by decide +kernel
theorem d_V_init_64 : decode c_V_init 64 = .ok (.aload_n 0, 1) := by decide +kernel
theorem d_V_init_65 : decode c_V_init 65 = .ok (.iconst 0, 1) := by decide +kernel
theorem d_V_init_66 : decode c_V_init 66 = .ok (.putfield 49, 3) := by decide +kernel
theorem d_V_init_69 : decode c_V_init 69 = .ok (.aload_n 0, 1) := by decide +kernel
theorem d_V_init_70 : decode c_V_init 70 = .ok (.iload_n 1, 1) := by decide +kernel
theorem d_V_init_71 : decode c_V_init 71 = .ok (.putfield 52, 3) := by decide +kernel
theorem d_V_init_74 : decode c_V_init 74 = .ok (.aload_n 0, 1) := by decide +kernel
theorem d_V_init_75 : decode c_V_init 75 = .ok (.iload_n 2, 1) := by decide +kernel
theorem d_V_init_76 : decode c_V_init 76 = .ok (.putfield 55, 3) := by decide +kernel
theorem d_V_init_79 : decode c_V_init 79 = .ok (.aload_n 0, 1) := by decide +kernel
theorem d_V_init_80 : decode c_V_init 80 = .ok (.iload_n 3, 1) := by decide +kernel
theorem d_V_init_81 : decode c_V_init 81 = .ok (.putfield 58, 3) := by decide +kernel
theorem d_V_init_84 : decode c_V_init 84 = .ok (.aload_n 0, 1) := by decide +kernel
theorem d_V_init_85 : decode c_V_init 85 = .ok (.iload 4, 2) := by decide +kernel
theorem d_V_init_87 : decode c_V_init 87 = .ok (.putfield 61, 3) := by decide +kernel
theorem d_V_init_90 : decode c_V_init 90 = .ok (.aload_n 0, 1) := by decide +kernel
theorem d_V_init_91 : decode c_V_init 91 = .ok (.iload 5, 2) := by decide +kernel
theorem d_V_init_93 : decode c_V_init 93 = .ok (.putfield 64, 3) := by decide +kernel
theorem d_V_init_96 : decode c_V_init 96 = .ok (.aload_n 0, 1) := by decide +kernel
theorem d_V_init_97 : decode c_V_init 97 = .ok (.iload 6, 2) := by decide +kernel
theorem d_V_init_99 : decode c_V_init 99 = .ok (.putfield 67, 3) := by decide +kernel
theorem d_V_init_102 : decode c_V_init 102 = .ok (.return_, 1) := by decide +kernel
theorem d_V_haveArrived_0 : decode c_V_haveArrived 0 = .ok (.aload_n 0, 1) := by decide +kernel
theorem d_V_haveArrived_1 : decode c_V_haveArrived 1 = .ok (.getfield 9, 3) := by decide +kernel
theorem d_V_haveArrived_4 : decode c_V_haveArrived 4 = .ok (.iconst (-1), 1) := by decide +kernel
theorem d_V_haveArrived_5 : decode c_V_haveArrived 5 = .ok (.if_icmp .eq 7, 3) := by decide +kernel
theorem d_V_haveArrived_8 : decode c_V_haveArrived 8 = .ok (.iconst 1, 1) := by decide +kernel
theorem d_V_haveArrived_9 : decode c_V_haveArrived 9 = .ok (.goto 4, 3) := by decide +kernel
theorem d_V_haveArrived_12 : decode c_V_haveArrived 12 = .ok (.iconst 0, 1) := by decide +kernel
theorem d_V_haveArrived_13 : decode c_V_haveArrived 13 = .ok (.ireturn, 1) := by decide +kernel
theorem d_V_wereControlled_0 : decode c_V_wereControlled 0 = .ok (.aload_n 0, 1) := by decide +kernel
theorem d_V_wereControlled_1 : decode c_V_wereControlled 1 = .ok (.getfield 22, 3) := by decide +kernel
theorem d_V_wereControlled_4 : decode c_V_wereControlled 4 = .ok (.iconst (-1), 1) := by decide +kernel
theorem d_V_wereControlled_5 : decode c_V_wereControlled 5 = .ok (.if_icmp .eq 7, 3) := by decide +kernel
theorem d_V_wereControlled_8 : decode c_V_wereControlled 8 = .ok (.iconst 1, 1) := by decide +kernel
theorem d_V_wereControlled_9 : decode c_V_wereControlled 9 = .ok (.goto 4, 3) := by decide +kernel
theorem d_V_wereControlled_12 : decode c_V_wereControlled 12 = .ok (.iconst 0, 1) := by decide +kernel
theorem d_V_wereControlled_13 : decode c_V_wereControlled 13 = .ok (.ireturn, 1) := by decide +kernel
theorem d_V_learnArrival_0 : decode c_V_learnArrival 0 = .ok (.aload_n 0, 1) := by decide +kernel
theorem d_V_learnArrival_1 : decode c_V_learnArrival 1 = .ok (.iload_n 1, 1) := by decide +kernel
theorem d_V_learnArrival_2 : decode c_V_learnArrival 2 = .ok (.putfield 37, 3) := by decide +kernel
theorem d_V_learnArrival_5 : decode c_V_learnArrival 5 = .ok (.aload_n 0, 1) := by decide +kernel
theorem d_V_learnArrival_6 : decode c_V_learnArrival 6 = .ok (.iload_n 2, 1) := by decide +kernel
theorem d_V_learnArrival_7 : decode c_V_learnArrival 7 = .ok (.putfield 40, 3) := by decide +kernel
theorem d_V_learnArrival_10 : decode c_V_learnArrival 10 = .ok (.aload_n 0, 1) := by decide +kernel
theorem d_V_learnArrival_11 : decode c_V_learnArrival 11 = .ok (.invokevirtual 86, 3) := by decide +kernel
theorem d_V_learnArrival_14 : decode c_V_learnArrival 14 = .ok (.ifCond .eq 8, 3) := by decide +kernel
theorem d_V_learnArrival_17 : decode c_V_learnArrival 17 = .ok (.aload_n 0, 1) := by decide +kernel
theorem d_V_learnArrival_18 : decode c_V_learnArrival 18 = .ok (.iconst 2, 1) := by decide +kernel
theorem d_V_learnArrival_19 : decode c_V_learnArrival 19 = .ok (.putfield 25, 3) := by decide +kernel
theorem d_V_learnArrival_22 : decode c_V_learnArrival 22 = .ok (.return_, 1) := by decide +kernel
theorem d_V_isAwaited_0 : decode c_V_isAwaited 0 = .ok (.aload_n 0, 1) := by decide +kernel
theorem d_V_isAwaited_1 : decode c_V_isAwaited 1 = .ok (.getfield 25, 3) := by decide +kernel
theorem d_V_isAwaited_4 : decode c_V_isAwaited 4 = .ok (.iconst 1, 1) := by decide +kernel
theorem d_V_isAwaited_5 : decode c_V_isAwaited 5 = .ok (.if_icmp .eq 11, 3) := by decide +kernel
theorem d_V_isAwaited_8 : decode c_V_isAwaited 8 = .ok (.aload_n 0, 1) := by decide +kernel
theorem d_V_isAwaited_9 : decode c_V_isAwaited 9 = .ok (.getfield 25, 3) := by decide +kernel
theorem d_V_isAwaited_12 : decode c_V_isAwaited 12 = .ok (.iconst 4, 1) := by decide +kernel
theorem d_V_isAwaited_13 : decode c_V_isAwaited 13 = .ok (.if_icmp .ne 7, 3) := by decide +kernel
theorem d_V_isAwaited_16 : decode c_V_isAwaited 16 = .ok (.iconst 1, 1) := by decide +kernel
theorem d_V_isAwaited_17 : decode c_V_isAwaited 17 = .ok (.goto 4, 3) := by decide +kernel
theorem d_V_isAwaited_20 : decode c_V_isAwaited 20 = .ok (.iconst 0, 1) := by decide +kernel
theorem d_V_isAwaited_21 : decode c_V_isAwaited 21 = .ok (.ireturn, 1) := by decide +kernel
theorem d_V_learnResult_0 : decode c_V_learnResult 0 = .ok (.aload_n 0, 1) := by decide +kernel
theorem d_V_learnResult_1 : decode c_V_learnResult 1 = .ok (.iload_n 1, 1) := by decide +kernel
theorem d_V_learnResult_2 : decode c_V_learnResult 2 = .ok (.putfield 43, 3) := by decide +kernel
theorem d_V_learnResult_5 : decode c_V_learnResult 5 = .ok (.aload_n 0, 1) := by decide +kernel
theorem d_V_learnResult_6 : decode c_V_learnResult 6 = .ok (.iload_n 2, 1) := by decide +kernel
theorem d_V_learnResult_7 : decode c_V_learnResult 7 = .ok (.putfield 37, 3) := by decide +kernel
theorem d_V_learnResult_10 : decode c_V_learnResult 10 = .ok (.aload_n 0, 1) := by decide +kernel
theorem d_V_learnResult_11 : decode c_V_learnResult 11 = .ok (.invokevirtual 70, 3) := by decide +kernel
theorem d_V_learnResult_14 : decode c_V_learnResult 14 = .ok (.ifCond .eq 4, 3) := by decide +kernel
theorem d_V_learnResult_17 : decode c_V_learnResult 17 = .ok (.return_, 1) := by decide +kernel
theorem d_V_learnResult_18 : decode c_V_learnResult 18 = .ok (.aload_n 0, 1) := by decide +kernel
theorem d_V_learnResult_19 : decode c_V_learnResult 19 = .ok (.aload_n 0, 1) := by decide +kernel
theorem d_V_learnResult_20 : decode c_V_learnResult 20 = .ok (.getfield 28, 3) := by decide +kernel
theorem d_V_learnResult_23 : decode c_V_learnResult 23 = .ok (.iload_n 1, 1) := by decide +kernel
theorem d_V_learnResult_24 : decode c_V_learnResult 24 = .ok (.aload_n 0, 1) := by decide +kernel
theorem d_V_learnResult_25 : decode c_V_learnResult 25 = .ok (.getfield 64, 3) := by decide +kernel
theorem d_V_learnResult_28 : decode c_V_learnResult 28 = .ok (.invokestatic 89, 3) := by decide +kernel
theorem d_V_learnResult_31 : decode c_V_learnResult 31 = .ok (.invokestatic 95, 3) := by decide +kernel
theorem d_V_learnResult_34 : decode c_V_learnResult 34 = .ok (.putfield 28, 3) := by decide +kernel
theorem d_V_learnResult_37 : decode c_V_learnResult 37 = .ok (.aload_n 0, 1) := by decide +kernel
theorem d_V_learnResult_38 : decode c_V_learnResult 38 = .ok (.iload_n 2, 1) := by decide +kernel
theorem d_V_learnResult_39 : decode c_V_learnResult 39 = .ok (.aload_n 0, 1) := by decide +kernel
theorem d_V_learnResult_40 : decode c_V_learnResult 40 = .ok (.getfield 61, 3) := by decide +kernel
theorem d_V_learnResult_43 : decode c_V_learnResult 43 = .ok (.if_icmp .ne 16, 3) := by decide +kernel
theorem d_V_learnResult_46 : decode c_V_learnResult 46 = .ok (.iload_n 1, 1) := by decide +kernel
theorem d_V_learnResult_47 : decode c_V_learnResult 47 = .ok (.aload_n 0, 1) := by decide +kernel
theorem d_V_learnResult_48 : decode c_V_learnResult 48 = .ok (.getfield 64, 3) := by decide +kernel
theorem d_V_learnResult_51 : decode c_V_learnResult 51 = .ok (.if_icmp .ne 8, 3) := by decide +kernel
theorem d_V_learnResult_54 : decode c_V_learnResult 54 = .ok (.bipush 6, 2) := by decide +kernel
theorem d_V_learnResult_56 : decode c_V_learnResult 56 = .ok (.goto 4, 3) := by decide +kernel
theorem d_V_learnResult_59 : decode c_V_learnResult 59 = .ok (.iconst 3, 1) := by decide +kernel
theorem d_V_learnResult_60 : decode c_V_learnResult 60 = .ok (.putfield 25, 3) := by decide +kernel
theorem d_V_learnResult_63 : decode c_V_learnResult 63 = .ok (.return_, 1) := by decide +kernel
theorem d_V_firstDueDay_0 : decode c_V_firstDueDay 0 = .ok (.iconst 0, 1) := by decide +kernel
theorem d_V_firstDueDay_1 : decode c_V_firstDueDay 1 = .ok (.istore_n 2, 1) := by decide +kernel
theorem d_V_firstDueDay_2 : decode c_V_firstDueDay 2 = .ok (.iload_n 2, 1) := by decide +kernel
theorem d_V_firstDueDay_3 : decode c_V_firstDueDay 3 = .ok (.getstatic 78, 3) := by decide +kernel
theorem d_V_firstDueDay_6 : decode c_V_firstDueDay 6 = .ok (.arraylength, 1) := by decide +kernel
theorem d_V_firstDueDay_7 : decode c_V_firstDueDay 7 = .ok (.if_icmp .ge 27, 3) := by decide +kernel
theorem d_V_firstDueDay_10 : decode c_V_firstDueDay 10 = .ok (.aload_n 0, 1) := by decide +kernel
theorem d_V_firstDueDay_11 : decode c_V_firstDueDay 11 = .ok (.getfield 58, 3) := by decide +kernel
theorem d_V_firstDueDay_14 : decode c_V_firstDueDay 14 = .ok (.getstatic 78, 3) := by decide +kernel
theorem d_V_firstDueDay_17 : decode c_V_firstDueDay 17 = .ok (.iload_n 2, 1) := by decide +kernel
theorem d_V_firstDueDay_18 : decode c_V_firstDueDay 18 = .ok (.iaload, 1) := by decide +kernel
theorem d_V_firstDueDay_19 : decode c_V_firstDueDay 19 = .ok (.iadd, 1) := by decide +kernel
theorem d_V_firstDueDay_20 : decode c_V_firstDueDay 20 = .ok (.istore_n 3, 1) := by decide +kernel
theorem d_V_firstDueDay_21 : decode c_V_firstDueDay 21 = .ok (.iload_n 3, 1) := by decide +kernel
theorem d_V_firstDueDay_22 : decode c_V_firstDueDay 22 = .ok (.iload_n 1, 1) := by decide +kernel
theorem d_V_firstDueDay_23 : decode c_V_firstDueDay 23 = .ok (.if_icmp .le 5, 3) := by decide +kernel
theorem d_V_firstDueDay_26 : decode c_V_firstDueDay 26 = .ok (.iload_n 3, 1) := by decide +kernel
theorem d_V_firstDueDay_27 : decode c_V_firstDueDay 27 = .ok (.ireturn, 1) := by decide +kernel
theorem d_V_firstDueDay_28 : decode c_V_firstDueDay 28 = .ok (.iinc 2 1, 3) := by decide +kernel
theorem d_V_firstDueDay_31 : decode c_V_firstDueDay 31 = .ok (.goto (-29), 3) := by decide +kernel
theorem d_V_firstDueDay_34 : decode c_V_firstDueDay 34 = .ok (.sipush 10001, 3) := by decide +kernel
theorem d_V_firstDueDay_37 : decode c_V_firstDueDay 37 = .ok (.ireturn, 1) := by decide +kernel
theorem d_V_isDueOn_0 : decode c_V_isDueOn 0 = .ok (.aload_n 0, 1) := by decide +kernel
theorem d_V_isDueOn_1 : decode c_V_isDueOn 1 = .ok (.iload_n 1, 1) := by decide +kernel
theorem d_V_isDueOn_2 : decode c_V_isDueOn 2 = .ok (.iconst 1, 1) := by decide +kernel
theorem d_V_isDueOn_3 : decode c_V_isDueOn 3 = .ok (.isub, 1) := by decide +kernel
theorem d_V_isDueOn_4 : decode c_V_isDueOn 4 = .ok (.invokevirtual 82, 3) := by decide +kernel
theorem d_V_isDueOn_7 : decode c_V_isDueOn 7 = .ok (.iload_n 1, 1) := by decide +kernel
theorem d_V_isDueOn_8 : decode c_V_isDueOn 8 = .ok (.if_icmp .ne 7, 3) := by decide +kernel
theorem d_V_isDueOn_11 : decode c_V_isDueOn 11 = .ok (.iconst 1, 1) := by decide +kernel
theorem d_V_isDueOn_12 : decode c_V_isDueOn 12 = .ok (.goto 4, 3) := by decide +kernel
theorem d_V_isDueOn_15 : decode c_V_isDueOn 15 = .ok (.iconst 0, 1) := by decide +kernel
theorem d_V_isDueOn_16 : decode c_V_isDueOn 16 = .ok (.ireturn, 1) := by decide +kernel
theorem d_V_recover_0 : decode c_V_recover 0 = .ok (.aload_n 0, 1) := by decide +kernel
theorem d_V_recover_1 : decode c_V_recover 1 = .ok (.invokevirtual 70, 3) := by decide +kernel
theorem d_V_recover_4 : decode c_V_recover 4 = .ok (.ifCond .ne 16, 3) := by decide +kernel
theorem d_V_recover_7 : decode c_V_recover 7 = .ok (.aload_n 0, 1) := by decide +kernel
theorem d_V_recover_8 : decode c_V_recover 8 = .ok (.aload_n 0, 1) := by decide +kernel
theorem d_V_recover_9 : decode c_V_recover 9 = .ok (.invokevirtual 98, 3) := by decide +kernel
theorem d_V_recover_12 : decode c_V_recover 12 = .ok (.putfield 31, 3) := by decide +kernel
theorem d_V_recover_15 : decode c_V_recover 15 = .ok (.aload_n 0, 1) := by decide +kernel
theorem d_V_recover_16 : decode c_V_recover 16 = .ok (.iconst 5, 1) := by decide +kernel
theorem d_V_recover_17 : decode c_V_recover 17 = .ok (.putfield 25, 3) := by decide +kernel
theorem d_V_recover_20 : decode c_V_recover 20 = .ok (.return_, 1) := by decide +kernel
theorem d_V_shareOfMissing_0 : decode c_V_shareOfMissing 0 = .ok (.aload_n 0, 1) := by decide +kernel
theorem d_V_shareOfMissing_1 : decode c_V_shareOfMissing 1 = .ok (.getfield 64, 3) := by decide +kernel
theorem d_V_shareOfMissing_4 : decode c_V_shareOfMissing 4 = .ok (.iconst 1, 1) := by decide +kernel
theorem d_V_shareOfMissing_5 : decode c_V_shareOfMissing 5 = .ok (.if_icmp .ge 7, 3) := by decide +kernel
theorem d_V_shareOfMissing_8 : decode c_V_shareOfMissing 8 = .ok (.iconst 0, 1) := by decide +kernel
theorem d_V_shareOfMissing_9 : decode c_V_shareOfMissing 9 = .ok (.goto 24, 3) := by decide +kernel
theorem d_V_shareOfMissing_12 : decode c_V_shareOfMissing 12 = .ok (.aload_n 0, 1) := by decide +kernel
theorem d_V_shareOfMissing_13 : decode c_V_shareOfMissing 13 = .ok (.getfield 67, 3) := by decide +kernel
theorem d_V_shareOfMissing_16 : decode c_V_shareOfMissing 16 = .ok (.aload_n 0, 1) := by decide +kernel
theorem d_V_shareOfMissing_17 : decode c_V_shareOfMissing 17 = .ok (.invokevirtual 102, 3) := by decide +kernel
theorem d_V_shareOfMissing_20 : decode c_V_shareOfMissing 20 = .ok (.imul, 1) := by decide +kernel
theorem d_V_shareOfMissing_21 : decode c_V_shareOfMissing 21 = .ok (.aload_n 0, 1) := by decide +kernel
theorem d_V_shareOfMissing_22 : decode c_V_shareOfMissing 22 = .ok (.getfield 64, 3) := by decide +kernel
theorem d_V_shareOfMissing_25 : decode c_V_shareOfMissing 25 = .ok (.iadd, 1) := by decide +kernel
theorem d_V_shareOfMissing_26 : decode c_V_shareOfMissing 26 = .ok (.iconst 1, 1) := by decide +kernel
theorem d_V_shareOfMissing_27 : decode c_V_shareOfMissing 27 = .ok (.isub, 1) := by decide +kernel
theorem d_V_shareOfMissing_28 : decode c_V_shareOfMissing 28 = .ok (.aload_n 0, 1) := by decide +kernel
theorem d_V_shareOfMissing_29 : decode c_V_shareOfMissing 29 = .ok (.getfield 64, 3) := by decide +kernel
theorem d_V_shareOfMissing_32 : decode c_V_shareOfMissing 32 = .ok (.idiv, 1) := by decide +kernel
theorem d_V_shareOfMissing_33 : decode c_V_shareOfMissing 33 = .ok (.ireturn, 1) := by decide +kernel
theorem d_V_piecesLeft_0 : decode c_V_piecesLeft 0 = .ok (.aload_n 0, 1) := by decide +kernel
theorem d_V_piecesLeft_1 : decode c_V_piecesLeft 1 = .ok (.getfield 64, 3) := by decide +kernel
theorem d_V_piecesLeft_4 : decode c_V_piecesLeft 4 = .ok (.aload_n 0, 1) := by decide +kernel
theorem d_V_piecesLeft_5 : decode c_V_piecesLeft 5 = .ok (.getfield 28, 3) := by decide +kernel
theorem d_V_piecesLeft_8 : decode c_V_piecesLeft 8 = .ok (.isub, 1) := by decide +kernel
theorem d_V_piecesLeft_9 : decode c_V_piecesLeft 9 = .ok (.ireturn, 1) := by decide +kernel
theorem d_G_init_0 : decode c_G_init 0 = .ok (.aload_n 0, 1) := by decide +kernel
theorem d_G_init_1 : decode c_G_init 1 = .ok (.invokespecial 3, 3) := by decide +kernel
theorem d_G_init_4 : decode c_G_init 4 = .ok (.aload_n 0, 1) := by decide +kernel
theorem d_G_init_5 : decode c_G_init 5 = .ok (.iconst 0, 1) := by decide +kernel
theorem d_G_init_6 : decode c_G_init 6 = .ok (.putfield 9, 3) := by decide +kernel
theorem d_G_init_9 : decode c_G_init 9 = .ok (.aload_n 0, 1) := by decide +kernel
theorem d_G_init_10 : decode c_G_init 10 = .ok (.iload_n 1, 1) := by decide +kernel
theorem d_G_init_11 : decode c_G_init 11 = .ok (.putfield 15, 3) := by decide +kernel
theorem d_G_init_14 : decode c_G_init 14 = .ok (.aload_n 0, 1) := by decide +kernel
theorem d_G_init_15 : decode c_G_init 15 = .ok (.iload_n 2, 1) := by decide +kernel
theorem d_G_init_16 : decode c_G_init 16 = .ok (.putfield 18, 3) := by decide +kernel
theorem d_G_init_19 : decode c_G_init 19 = .ok (.aload_n 0, 1) := by decide +kernel
theorem d_G_init_20 : decode c_G_init 20 = .ok (.iload_n 3, 1) := by decide +kernel
theorem d_G_init_21 : decode c_G_init 21 = .ok (.putfield 21, 3) := by decide +kernel
theorem d_G_init_24 : decode c_G_init 24 = .ok (.aload_n 0, 1) := by decide +kernel
theorem d_G_init_25 : decode c_G_init 25 = .ok (.iload 4, 2) := by decide +kernel
theorem d_G_init_27 : decode c_G_init 27 = .ok (.putfield 24, 3) := by decide +kernel
theorem d_G_init_30 : decode c_G_init 30 = .ok (.aload_n 0, 1) := by decide +kernel
theorem d_G_init_31 : decode c_G_init 31 = .ok (.iload 5, 2) := by decide +kernel
theorem d_G_init_33 : decode c_G_init 33 = .ok (.putfield 27, 3) := by decide +kernel
theorem d_G_init_36 : decode c_G_init 36 = .ok (.aload_n 0, 1) := by decide +kernel
theorem d_G_init_37 : decode c_G_init 37 = .ok (.iload 6, 2) := by decide +kernel
theorem d_G_init_39 : decode c_G_init 39 = .ok (.putfield 30, 3) := by decide +kernel
theorem d_G_init_42 : decode c_G_init 42 = .ok (.return_, 1) := by decide +kernel
