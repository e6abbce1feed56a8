theorem dX0_init_0 : decode cX0_init 0 = .ok (.aload_n 0, 1) := by decide +kernel
theorem dX0_init_1 : decode cX0_init 1 = .ok (.invokespecial 1, 3) := by decide +kernel
theorem dX0_init_4 : decode cX0_init 4 = .ok (.return_, 1) := by decide +kernel
theorem dX0_number_0 : decode cX0_number 0 = .ok (.iconst 2, 1) := by decide +kernel
theorem dX0_number_1 : decode cX0_number 1 = .ok (.ireturn, 1) := by decide +kernel
theorem dX0_pulled_0 : decode cX0_pulled 0 = .ok (.iload_n 1, 1) := by decide +kernel
theorem dX0_pulled_1 : decode cX0_pulled 1 = .ok (.ineg, 1) := by decide +kernel
theorem dX0_pulled_2 : decode cX0_pulled 2 = .ok (.iload_n 2, 1) := by decide +kernel
theorem dX0_pulled_3 : decode cX0_pulled 3 = .ok (.imul, 1) := by decide +kernel
theorem dX0_pulled_4 : decode cX0_pulled 4 = .ok (.ireturn, 1) := by decide +kernel
theorem dX0_driftsAlong_0 : decode cX0_driftsAlong 0 = .ok (.iconst 0, 1) := by decide +kernel
theorem dX0_driftsAlong_1 : decode cX0_driftsAlong 1 = .ok (.ireturn, 1) := by decide +kernel
theorem dX1_init_0 : decode cX1_init 0 = .ok (.aload_n 0, 1) := by decide +kernel
theorem dX1_init_1 : decode cX1_init 1 = .ok (.invokespecial 1, 3) := by decide +kernel
theorem dX1_init_4 : decode cX1_init 4 = .ok (.return_, 1) := by decide +kernel
theorem dX1_number_0 : decode cX1_number 0 = .ok (.iconst 1, 1) := by decide +kernel
theorem dX1_number_1 : decode cX1_number 1 = .ok (.ireturn, 1) := by decide +kernel
theorem dX1_pulled_0 : decode cX1_pulled 0 = .ok (.iconst 2, 1) := by decide +kernel
theorem dX1_pulled_1 : decode cX1_pulled 1 = .ok (.iload_n 1, 1) := by decide +kernel
theorem dX1_pulled_2 : decode cX1_pulled 2 = .ok (.imul, 1) := by decide +kernel
theorem dX1_pulled_3 : decode cX1_pulled 3 = .ok (.iload_n 2, 1) := by decide +kernel
theorem dX1_pulled_4 : decode cX1_pulled 4 = .ok (.imul, 1) := by decide +kernel
theorem dX1_pulled_5 : decode cX1_pulled 5 = .ok (.ireturn, 1) := by decide +kernel
theorem dX2_init_0 : decode cX2_init 0 = .ok (.aload_n 0, 1) := by decide +kernel
theorem dX2_init_1 : decode cX2_init 1 = .ok (.invokespecial 1, 3) := by decide +kernel
theorem dX2_init_4 : decode cX2_init 4 = .ok (.return_, 1) := by decide +kernel
theorem dX2_number_0 : decode cX2_number 0 = .ok (.iconst 3, 1) := by decide +kernel
theorem dX2_number_1 : decode cX2_number 1 = .ok (.ireturn, 1) := by decide +kernel
theorem dX2_pulled_0 : decode cX2_pulled 0 = .ok (.iload_n 1, 1) := by decide +kernel
theorem dX2_pulled_1 : decode cX2_pulled 1 = .ok (.iload_n 3, 1) := by decide +kernel
theorem dX2_pulled_2 : decode cX2_pulled 2 = .ok (.imul, 1) := by decide +kernel
theorem dX2_pulled_3 : decode cX2_pulled 3 = .ok (.ireturn, 1) := by decide +kernel
theorem dX3_init_0 : decode cX3_init 0 = .ok (.aload_n 0, 1) := by decide +kernel
theorem dX3_init_1 : decode cX3_init 1 = .ok (.invokespecial 1, 3) := by decide +kernel
theorem dX3_init_4 : decode cX3_init 4 = .ok (.return_, 1) := by decide +kernel
theorem dX3_number_0 : decode cX3_number 0 = .ok (.iconst 0, 1) := by decide +kernel
theorem dX3_number_1 : decode cX3_number 1 = .ok (.ireturn, 1) := by decide +kernel
theorem dX3_pulled_0 : decode cX3_pulled 0 = .ok (.iload_n 1, 1) := by decide +kernel
theorem dX3_pulled_1 : decode cX3_pulled 1 = .ok (.iload_n 2, 1) := by decide +kernel
theorem dX3_pulled_2 : decode cX3_pulled 2 = .ok (.imul, 1) := by decide +kernel
theorem dX3_pulled_3 : decode cX3_pulled 3 = .ok (.ireturn, 1) := by decide +kernel
theorem dX3_driftsAlong_0 : decode cX3_driftsAlong 0 = .ok (.iconst 1, 1) := by decide +kernel
theorem dX3_driftsAlong_1 : decode cX3_driftsAlong 1 = .ok (.ireturn, 1) := by decide +kernel
theorem dX4_init_0 : decode cX4_init 0 = .ok (.aload_n 0, 1) := by decide +kernel
theorem dX4_init_1 : decode cX4_init 1 = .ok (.invokespecial 3, 3) := by decide +kernel
theorem dX4_init_4 : decode cX4_init 4 = .ok (.aload_n 0, 1) := by decide +kernel
theorem dX4_init_5 : decode cX4_init 5 = .ok (.bipush 50, 2) := by decide +kernel
theorem dX4_init_7 : decode cX4_init 7 = .ok (.newarray .int, 2) := by decide +kernel
theorem dX4_init_9 : decode cX4_init 9 = .ok (.putfield 9, 3) := by decide +kernel
theorem dX4_init_12 : decode cX4_init 12 = .ok (.return_, 1) := by decide +kernel
theorem dX4_firstFault_0 : decode cX4_firstFault 0 = .ok (.iconst 0, 1) := by decide +kernel
theorem dX4_firstFault_1 : decode cX4_firstFault 1 = .ok (.istore_n 1, 1) := by decide +kernel
theorem dX4_firstFault_2 : decode cX4_firstFault 2 = .ok (.iload_n 1, 1) := by decide +kernel
theorem dX4_firstFault_3 : decode cX4_firstFault 3 = .ok (.aload_n 0, 1) := by decide +kernel
theorem dX4_firstFault_4 : decode cX4_firstFault 4 = .ok (.getfield 15, 3) := by decide +kernel
theorem dX4_firstFault_7 : decode cX4_firstFault 7 = .ok (.if_icmp .ge 17, 3) := by decide +kernel
theorem dX4_firstFault_10 : decode cX4_firstFault 10 = .ok (.aload_n 0, 1) := by decide +kernel
theorem dX4_firstFault_11 : decode cX4_firstFault 11 = .ok (.iload_n 1, 1) := by decide +kernel
theorem dX4_firstFault_12 : decode cX4_firstFault 12 = .ok (.invokevirtual 19, 3) := by decide +kernel
theorem dX4_firstFault_15 : decode cX4_firstFault 15 = .ok (.ifCond .eq 9, 3) := by decide +kernel
theorem dX4_firstFault_18 : decode cX4_firstFault 18 = .ok (.iinc 1 1, 3) := by decide +kernel
theorem dX4_firstFault_21 : decode cX4_firstFault 21 = .ok (.goto (-19), 3) := by decide +kernel
theorem dX4_firstFault_24 : decode cX4_firstFault 24 = .ok (.iload_n 1, 1) := by decide +kernel
theorem dX4_firstFault_25 : decode cX4_firstFault 25 = .ok (.ireturn, 1) := by decide +kernel
theorem dX4_fitsAt_0 : decode cX4_fitsAt 0 = .ok (.iload_n 1, 1) := by decide +kernel
theorem dX4_fitsAt_1 : decode cX4_fitsAt 1 = .ok (.bipush 47, 2) := by decide +kernel
theorem dX4_fitsAt_3 : decode cX4_fitsAt 3 = .ok (.if_icmp .lt 5, 3) := by decide +kernel
theorem dX4_fitsAt_6 : decode cX4_fitsAt 6 = .ok (.iconst 0, 1) := by decide +kernel
theorem dX4_fitsAt_7 : decode cX4_fitsAt 7 = .ok (.ireturn, 1) := by decide +kernel
theorem dX4_fitsAt_8 : decode cX4_fitsAt 8 = .ok (.aload_n 0, 1) := by decide +kernel
theorem dX4_fitsAt_9 : decode cX4_fitsAt 9 = .ok (.getfield 9, 3) := by decide +kernel
theorem dX4_fitsAt_12 : decode cX4_fitsAt 12 = .ok (.iload_n 1, 1) := by decide +kernel
theorem dX4_fitsAt_13 : decode cX4_fitsAt 13 = .ok (.iaload, 1) := by decide +kernel
theorem dX4_fitsAt_14 : decode cX4_fitsAt 14 = .ok (.istore_n 2, 1) := by decide +kernel
theorem dX4_fitsAt_15 : decode cX4_fitsAt 15 = .ok (.iload_n 1, 1) := by decide +kernel
theorem dX4_fitsAt_16 : decode cX4_fitsAt 16 = .ok (.bipush 6, 2) := by decide +kernel
theorem dX4_fitsAt_18 : decode cX4_fitsAt 18 = .ok (.irem, 1) := by decide +kernel
theorem dX4_fitsAt_19 : decode cX4_fitsAt 19 = .ok (.lookupswitch 79 #[(0, 33), (1, 49), (5, 67)], 33) := by decide +kernel
theorem dX4_fitsAt_52 : decode cX4_fitsAt 52 = .ok (.ldc 23, 2) := by decide +kernel
theorem dX4_fitsAt_54 : decode cX4_fitsAt 54 = .ok (.iload_n 2, 1) := by decide +kernel
theorem dX4_fitsAt_55 : decode cX4_fitsAt 55 = .ok (.i2c, 1) := by decide +kernel
theorem dX4_fitsAt_56 : decode cX4_fitsAt 56 = .ok (.invokevirtual 25, 3) := by decide +kernel
theorem dX4_fitsAt_59 : decode cX4_fitsAt 59 = .ok (.ifCond .lt 7, 3) := by decide +kernel
theorem dX4_fitsAt_62 : decode cX4_fitsAt 62 = .ok (.iconst 1, 1) := by decide +kernel
theorem dX4_fitsAt_63 : decode cX4_fitsAt 63 = .ok (.goto 4, 3) := by decide +kernel
theorem dX4_fitsAt_66 : decode cX4_fitsAt 66 = .ok (.iconst 0, 1) := by decide +kernel
theorem dX4_fitsAt_67 : decode cX4_fitsAt 67 = .ok (.ireturn, 1) := by decide +kernel
theorem dX4_fitsAt_68 : decode cX4_fitsAt 68 = .ok (.iload_n 2, 1) := by decide +kernel
theorem dX4_fitsAt_69 : decode cX4_fitsAt 69 = .ok (.bipush 49, 2) := by decide +kernel
theorem dX4_fitsAt_71 : decode cX4_fitsAt 71 = .ok (.if_icmp .lt 13, 3) := by decide +kernel
theorem dX4_fitsAt_74 : decode cX4_fitsAt 74 = .ok (.iload_n 2, 1) := by decide +kernel
theorem dX4_fitsAt_75 : decode cX4_fitsAt 75 = .ok (.bipush 57, 2) := by decide +kernel
theorem dX4_fitsAt_77 : decode cX4_fitsAt 77 = .ok (.if_icmp .gt 7, 3) := by decide +kernel
theorem dX4_fitsAt_80 : decode cX4_fitsAt 80 = .ok (.iconst 1, 1) := by decide +kernel
theorem dX4_fitsAt_81 : decode cX4_fitsAt 81 = .ok (.goto 4, 3) := by decide +kernel
theorem dX4_fitsAt_84 : decode cX4_fitsAt 84 = .ok (.iconst 0, 1) := by decide +kernel
theorem dX4_fitsAt_85 : decode cX4_fitsAt 85 = .ok (.ireturn, 1) := by decide +kernel
theorem dX4_fitsAt_86 : decode cX4_fitsAt 86 = .ok (.iload_n 2, 1) := by decide +kernel
theorem dX4_fitsAt_87 : decode cX4_fitsAt 87 = .ok (.bipush 44, 2) := by decide +kernel
theorem dX4_fitsAt_89 : decode cX4_fitsAt 89 = .ok (.if_icmp .ne 7, 3) := by decide +kernel
theorem dX4_fitsAt_92 : decode cX4_fitsAt 92 = .ok (.iconst 1, 1) := by decide +kernel
theorem dX4_fitsAt_93 : decode cX4_fitsAt 93 = .ok (.goto 4, 3) := by decide +kernel
theorem dX4_fitsAt_96 : decode cX4_fitsAt 96 = .ok (.iconst 0, 1) := by decide +kernel
theorem dX4_fitsAt_97 : decode cX4_fitsAt 97 = .ok (.ireturn, 1) := by decide +kernel
theorem dX4_fitsAt_98 : decode cX4_fitsAt 98 = .ok (.iload_n 2, 1) := by decide +kernel
theorem dX4_fitsAt_99 : decode cX4_fitsAt 99 = .ok (.bipush 43, 2) := by decide +kernel
theorem dX4_fitsAt_101 : decode cX4_fitsAt 101 = .ok (.if_icmp .eq 15, 3) := by decide +kernel
theorem dX4_fitsAt_104 : decode cX4_fitsAt 104 = .ok (.iload_n 2, 1) := by decide +kernel
theorem dX4_fitsAt_105 : decode cX4_fitsAt 105 = .ok (.bipush 45, 2) := by decide +kernel
theorem dX4_fitsAt_107 : decode cX4_fitsAt 107 = .ok (.if_icmp .eq 9, 3) := by decide +kernel
theorem dX4_fitsAt_110 : decode cX4_fitsAt 110 = .ok (.iload_n 2, 1) := by decide +kernel
theorem dX4_fitsAt_111 : decode cX4_fitsAt 111 = .ok (.bipush 48, 2) := by decide +kernel
theorem dX4_fitsAt_113 : decode cX4_fitsAt 113 = .ok (.if_icmp .ne 7, 3) := by decide +kernel
theorem dX4_fitsAt_116 : decode cX4_fitsAt 116 = .ok (.iconst 1, 1) := by decide +kernel
theorem dX4_fitsAt_117 : decode cX4_fitsAt 117 = .ok (.goto 4, 3) := by decide +kernel
theorem dX4_fitsAt_120 : decode cX4_fitsAt 120 = .ok (.iconst 0, 1) := by decide +kernel
theorem dX4_fitsAt_121 : decode cX4_fitsAt 121 = .ok (.ireturn, 1) := by decide +kernel
theorem dX4_readsAsRope_0 : decode cX4_readsAsRope 0 = .ok (.aload_n 0, 1) := by decide +kernel
theorem dX4_readsAsRope_1 : decode cX4_readsAsRope 1 = .ok (.getfield 15, 3) := by decide +kernel
theorem dX4_readsAsRope_4 : decode cX4_readsAsRope 4 = .ok (.bipush 6, 2) := by decide +kernel
theorem dX4_readsAsRope_6 : decode cX4_readsAsRope 6 = .ok (.irem, 1) := by decide +kernel
theorem dX4_readsAsRope_7 : decode cX4_readsAsRope 7 = .ok (.iconst 5, 1) := by decide +kernel
theorem dX4_readsAsRope_8 : decode cX4_readsAsRope 8 = .ok (.if_icmp .ne 7, 3) := by decide +kernel
theorem dX4_readsAsRope_11 : decode cX4_readsAsRope 11 = .ok (.iconst 1, 1) := by decide +kernel
theorem dX4_readsAsRope_12 : decode cX4_readsAsRope 12 = .ok (.goto 4, 3) := by decide +kernel
theorem dX4_readsAsRope_15 : decode cX4_readsAsRope 15 = .ok (.iconst 0, 1) := by decide +kernel
theorem dX4_readsAsRope_16 : decode cX4_readsAsRope 16 = .ok (.istore_n 1, 1) := by decide +kernel
theorem dX4_readsAsRope_17 : decode cX4_readsAsRope 17 = .ok (.aload_n 0, 1) := by decide +kernel
theorem dX4_readsAsRope_18 : decode cX4_readsAsRope 18 = .ok (.getfield 15, 3) := by decide +kernel
theorem dX4_readsAsRope_21 : decode cX4_readsAsRope 21 = .ok (.bipush 11, 2) := by decide +kernel
theorem dX4_readsAsRope_23 : decode cX4_readsAsRope 23 = .ok (.if_icmp .lt 22, 3) := by decide +kernel
theorem dX4_readsAsRope_26 : decode cX4_readsAsRope 26 = .ok (.iload_n 1, 1) := by decide +kernel
theorem dX4_readsAsRope_27 : decode cX4_readsAsRope 27 = .ok (.ifCond .eq 18, 3) := by decide +kernel
theorem dX4_readsAsRope_30 : decode cX4_readsAsRope 30 = .ok (.aload_n 0, 1) := by decide +kernel
theorem dX4_readsAsRope_31 : decode cX4_readsAsRope 31 = .ok (.invokevirtual 31, 3) := by decide +kernel
theorem dX4_readsAsRope_34 : decode cX4_readsAsRope 34 = .ok (.aload_n 0, 1) := by decide +kernel
theorem dX4_readsAsRope_35 : decode cX4_readsAsRope 35 = .ok (.getfield 15, 3) := by decide +kernel
theorem dX4_readsAsRope_38 : decode cX4_readsAsRope 38 = .ok (.if_icmp .ne 7, 3) := by decide +kernel
theorem dX4_readsAsRope_41 : decode cX4_readsAsRope 41 = .ok (.iconst 1, 1) := by decide +kernel
theorem dX4_readsAsRope_42 : decode cX4_readsAsRope 42 = .ok (.goto 4, 3) := by decide +kernel
theorem dX4_readsAsRope_45 : decode cX4_readsAsRope 45 = .ok (.iconst 0, 1) := by decide +kernel
theorem dX4_readsAsRope_46 : decode cX4_readsAsRope 46 = .ok (.ireturn, 1) := by decide +kernel
theorem dX4_kindAt_0 : decode cX4_kindAt 0 = .ok (.ldc 23, 2) := by decide +kernel
theorem dX4_kindAt_2 : decode cX4_kindAt 2 = .ok (.aload_n 0, 1) := by decide +kernel
theorem dX4_kindAt_3 : decode cX4_kindAt 3 = .ok (.getfield 9, 3) := by decide +kernel
theorem dX4_kindAt_6 : decode cX4_kindAt 6 = .ok (.iload_n 1, 1) := by decide +kernel
theorem dX4_kindAt_7 : decode cX4_kindAt 7 = .ok (.bipush 6, 2) := by decide +kernel
theorem dX4_kindAt_9 : decode cX4_kindAt 9 = .ok (.imul, 1) := by decide +kernel
theorem dX4_kindAt_10 : decode cX4_kindAt 10 = .ok (.iaload, 1) := by decide +kernel
theorem dX4_kindAt_11 : decode cX4_kindAt 11 = .ok (.i2c, 1) := by decide +kernel
theorem dX4_kindAt_12 : decode cX4_kindAt 12 = .ok (.invokevirtual 25, 3) := by decide +kernel
theorem dX4_kindAt_15 : decode cX4_kindAt 15 = .ok (.ireturn, 1) := by decide +kernel
theorem dX4_weightAt_0 : decode cX4_weightAt 0 = .ok (.aload_n 0, 1) := by decide +kernel
theorem dX4_weightAt_1 : decode cX4_weightAt 1 = .ok (.getfield 9, 3) := by decide +kernel
theorem dX4_weightAt_4 : decode cX4_weightAt 4 = .ok (.iload_n 1, 1) := by decide +kernel
theorem dX4_weightAt_5 : decode cX4_weightAt 5 = .ok (.bipush 6, 2) := by decide +kernel
theorem dX4_weightAt_7 : decode cX4_weightAt 7 = .ok (.imul, 1) := by decide +kernel
theorem dX4_weightAt_8 : decode cX4_weightAt 8 = .ok (.iconst 1, 1) := by decide +kernel
theorem dX4_weightAt_9 : decode cX4_weightAt 9 = .ok (.iadd, 1) := by decide +kernel
theorem dX4_weightAt_10 : decode cX4_weightAt 10 = .ok (.iaload, 1) := by decide +kernel
theorem dX4_weightAt_11 : decode cX4_weightAt 11 = .ok (.bipush 48, 2) := by decide +kernel
theorem dX4_weightAt_13 : decode cX4_weightAt 13 = .ok (.isub, 1) := by decide +kernel
theorem dX4_weightAt_14 : decode cX4_weightAt 14 = .ok (.ireturn, 1) := by decide +kernel
theorem dX4_leanAt_0 : decode cX4_leanAt 0 = .ok (.aload_n 0, 1) := by decide +kernel
theorem dX4_leanAt_1 : decode cX4_leanAt 1 = .ok (.getfield 9, 3) := by decide +kernel
theorem dX4_leanAt_4 : decode cX4_leanAt 4 = .ok (.iload_n 1, 1) := by decide +kernel
theorem dX4_leanAt_5 : decode cX4_leanAt 5 = .ok (.bipush 6, 2) := by decide +kernel
theorem dX4_leanAt_7 : decode cX4_leanAt 7 = .ok (.imul, 1) := by decide +kernel
theorem dX4_leanAt_8 : decode cX4_leanAt 8 = .ok (.iconst 2, 1) := by decide +kernel
theorem dX4_leanAt_9 : decode cX4_leanAt 9 = .ok (.iadd, 1) := by decide +kernel
theorem dX4_leanAt_10 : decode cX4_leanAt 10 = .ok (.iload_n 2, 1) := by decide +kernel
theorem dX4_leanAt_11 : decode cX4_leanAt 11 = .ok (.iadd, 1) := by decide +kernel
theorem dX4_leanAt_12 : decode cX4_leanAt 12 = .ok (.iaload, 1) := by decide +kernel
theorem dX4_leanAt_13 : decode cX4_leanAt 13 = .ok (.istore_n 3, 1) := by decide +kernel
theorem dX4_leanAt_14 : decode cX4_leanAt 14 = .ok (.iload_n 3, 1) := by decide +kernel
theorem dX4_leanAt_15 : decode cX4_leanAt 15 = .ok (.bipush 43, 2) := by decide +kernel
theorem dX4_leanAt_17 : decode cX4_leanAt 17 = .ok (.if_icmp .ne 5, 3) := by decide +kernel
theorem dX4_leanAt_20 : decode cX4_leanAt 20 = .ok (.iconst 1, 1) := by decide +kernel
theorem dX4_leanAt_21 : decode cX4_leanAt 21 = .ok (.ireturn, 1) := by decide +kernel
theorem dX4_leanAt_22 : decode cX4_leanAt 22 = .ok (.iload_n 3, 1) := by decide +kernel
theorem dX4_leanAt_23 : decode cX4_leanAt 23 = .ok (.bipush 45, 2) := by decide +kernel
theorem dX4_leanAt_25 : decode cX4_leanAt 25 = .ok (.if_icmp .ne 7, 3) := by decide +kernel
theorem dX4_leanAt_28 : decode cX4_leanAt 28 = .ok (.iconst (-1), 1) := by decide +kernel
theorem dX4_leanAt_29 : decode cX4_leanAt 29 = .ok (.goto 4, 3) := by decide +kernel
theorem dX4_leanAt_32 : decode cX4_leanAt 32 = .ok (.iconst 0, 1) := by decide +kernel
theorem dX4_leanAt_33 : decode cX4_leanAt 33 = .ok (.ireturn, 1) := by decide +kernel
theorem dX5_init_0 : decode cX5_init 0 = .ok (.aload_n 0, 1) := by decide +kernel
theorem dX5_init_1 : decode cX5_init 1 = .ok (.invokespecial 3, 3) := by decide +kernel
theorem dX5_init_4 : decode cX5_init 4 = .ok (.aload_n 0, 1) := by decide +kernel
theorem dX5_init_5 : decode cX5_init 5 = .ok (.iconst 5, 1) := by decide +kernel
theorem dX5_init_6 : decode cX5_init 6 = .ok (.anewarray 9, 3) := by decide +kernel
theorem dX5_init_9 : decode cX5_init 9 = .ok (.dup, 1) := by decide +kernel
theorem dX5_init_10 : decode cX5_init 10 = .ok (.iconst 0, 1) := by decide +kernel
theorem dX5_init_11 : decode cX5_init 11 = .ok (.new 9, 3) := by decide +kernel
theorem dX5_init_14 : decode cX5_init 14 = .ok (.dup, 1) := by decide +kernel
theorem dX5_init_15 : decode cX5_init 15 = .ok (.invokespecial 11, 3) := by decide +kernel
theorem dX5_init_18 : decode cX5_init 18 = .ok (.aastore, 1) := by decide +kernel
theorem dX5_init_19 : decode cX5_init 19 = .ok (.dup, 1) := by decide +kernel
theorem dX5_init_20 : decode cX5_init 20 = .ok (.iconst 1, 1) := by decide +kernel
theorem dX5_init_21 : decode cX5_init 21 = .ok (.new 12, 3) := by decide +kernel
theorem dX5_init_24 : decode cX5_init 24 = .ok (.dup, 1) := by decide +kernel
theorem dX5_init_25 : decode cX5_init 25 = .ok (.invokespecial 14, 3) := by decide +kernel
theorem dX5_init_28 : decode cX5_init 28 = .ok (.aastore, 1) := by decide +kernel
theorem dX5_init_29 : decode cX5_init 29 = .ok (.dup, 1) := by decide +kernel
theorem dX5_init_30 : decode cX5_init 30 = .ok (.iconst 2, 1) := by decide +kernel
theorem dX5_init_31 : decode cX5_init 31 = .ok (.new 15, 3) := by decide +kernel
theorem dX5_init_34 : decode cX5_init 34 = .ok (.dup, 1) := by decide +kernel
theorem dX5_init_35 : decode cX5_init 35 = .ok (.invokespecial 17, 3) := by decide +kernel
theorem dX5_init_38 : decode cX5_init 38 = .ok (.aastore, 1) := by decide +kernel
theorem dX5_init_39 : decode cX5_init 39 = .ok (.dup, 1) := by decide +kernel
theorem dX5_init_40 : decode cX5_init 40 = .ok (.iconst 3, 1) := by decide +kernel
theorem dX5_init_41 : decode cX5_init 41 = .ok (.new 18, 3) := by decide +kernel
theorem dX5_init_44 : decode cX5_init 44 = .ok (.dup, 1) := by decide +kernel
theorem dX5_init_45 : decode cX5_init 45 = .ok (.invokespecial 20, 3) := by decide +kernel
theorem dX5_init_48 : decode cX5_init 48 = .ok (.aastore, 1) := by decide +kernel
theorem dX5_init_49 : decode cX5_init 49 = .ok (.dup, 1) := by decide +kernel
theorem dX5_init_50 : decode cX5_init 50 = .ok (.iconst 4, 1) := by decide +kernel
theorem dX5_init_51 : decode cX5_init 51 = .ok (.new 21, 3) := by decide +kernel
theorem dX5_init_54 : decode cX5_init 54 = .ok (.dup, 1) := by decide +kernel
theorem dX5_init_55 : decode cX5_init 55 = .ok (.invokespecial 23, 3) := by decide +kernel
theorem dX5_init_58 : decode cX5_init 58 = .ok (.aastore, 1) := by decide +kernel
theorem dX5_init_59 : decode cX5_init 59 = .ok (.putfield 24, 3) := by decide +kernel
theorem dX5_init_62 : decode cX5_init 62 = .ok (.aload_n 0, 1) := by decide +kernel
theorem dX5_init_63 : decode cX5_init 63 = .ok (.bipush 8, 2) := by decide +kernel
theorem dX5_init_65 : decode cX5_init 65 = .ok (.newarray .int, 2) := by decide +kernel
theorem dX5_init_67 : decode cX5_init 67 = .ok (.putfield 30, 3) := by decide +kernel
theorem dX5_init_70 : decode cX5_init 70 = .ok (.return_, 1) := by decide +kernel
theorem dX5_has_0 : decode cX5_has 0 = .ok (.iload_n 1, 1) := by decide +kernel
theorem dX5_has_1 : decode cX5_has 1 = .ok (.ifCond .lt 15, 3) := by decide +kernel
theorem dX5_has_4 : decode cX5_has 4 = .ok (.iload_n 1, 1) := by decide +kernel
theorem dX5_has_5 : decode cX5_has 5 = .ok (.aload_n 0, 1) := by decide +kernel
theorem dX5_has_6 : decode cX5_has 6 = .ok (.getfield 34, 3) := by decide +kernel
theorem dX5_has_9 : decode cX5_has 9 = .ok (.if_icmp .ge 7, 3) := by decide +kernel
theorem dX5_has_12 : decode cX5_has 12 = .ok (.iconst 1, 1) := by decide +kernel
theorem dX5_has_13 : decode cX5_has 13 = .ok (.goto 4, 3) := by decide +kernel
theorem dX5_has_16 : decode cX5_has 16 = .ok (.iconst 0, 1) := by decide +kernel
theorem dX5_has_17 : decode cX5_has 17 = .ok (.ireturn, 1) := by decide +kernel
theorem dX5_hang_0 : decode cX5_hang 0 = .ok (.iload_n 2, 1) := by decide +kernel
theorem dX5_hang_1 : decode cX5_hang 1 = .ok (.ifCond .lt 19, 3) := by decide +kernel
theorem dX5_hang_4 : decode cX5_hang 4 = .ok (.iload_n 2, 1) := by decide +kernel
theorem dX5_hang_5 : decode cX5_hang 5 = .ok (.aload_n 0, 1) := by decide +kernel
theorem dX5_hang_6 : decode cX5_hang 6 = .ok (.getfield 24, 3) := by decide +kernel
theorem dX5_hang_9 : decode cX5_hang 9 = .ok (.arraylength, 1) := by decide +kernel
theorem dX5_hang_10 : decode cX5_hang 10 = .ok (.if_icmp .ge 10, 3) := by decide +kernel
theorem dX5_hang_13 : decode cX5_hang 13 = .ok (.aload_n 0, 1) := by decide +kernel
theorem dX5_hang_14 : decode cX5_hang 14 = .ok (.getfield 30, 3) := by decide +kernel
theorem dX5_hang_17 : decode cX5_hang 17 = .ok (.iload_n 1, 1) := by decide +kernel
theorem dX5_hang_18 : decode cX5_hang 18 = .ok (.iload_n 2, 1) := by decide +kernel
theorem dX5_hang_19 : decode cX5_hang 19 = .ok (.iastore, 1) := by decide +kernel
theorem dX5_hang_20 : decode cX5_hang 20 = .ok (.return_, 1) := by decide +kernel
theorem dX5_kindOf_0 : decode cX5_kindOf 0 = .ok (.aload_n 0, 1) := by decide +kernel
theorem dX5_kindOf_1 : decode cX5_kindOf 1 = .ok (.getfield 24, 3) := by decide +kernel
theorem dX5_kindOf_4 : decode cX5_kindOf 4 = .ok (.aload_n 0, 1) := by decide +kernel
theorem dX5_kindOf_5 : decode cX5_kindOf 5 = .ok (.getfield 30, 3) := by decide +kernel
theorem dX5_kindOf_8 : decode cX5_kindOf 8 = .ok (.iload_n 1, 1) := by decide +kernel
theorem dX5_kindOf_9 : decode cX5_kindOf 9 = .ok (.iaload, 1) := by decide +kernel
theorem dX5_kindOf_10 : decode cX5_kindOf 10 = .ok (.aaload, 1) := by decide +kernel
theorem dX5_kindOf_11 : decode cX5_kindOf 11 = .ok (.areturn, 1) := by decide +kernel
theorem dX5_feltIn_0 : decode cX5_feltIn 0 = .ok (.iconst 0, 1) := by decide +kernel
theorem dX5_feltIn_1 : decode cX5_feltIn 1 = .ok (.istore_n 2, 1) := by decide +kernel
theorem dX5_feltIn_2 : decode cX5_feltIn 2 = .ok (.iload_n 2, 1) := by decide +kernel
theorem dX5_feltIn_3 : decode cX5_feltIn 3 = .ok (.aload_n 0, 1) := by decide +kernel
theorem dX5_feltIn_4 : decode cX5_feltIn 4 = .ok (.getfield 34, 3) := by decide +kernel
theorem dX5_feltIn_7 : decode cX5_feltIn 7 = .ok (.if_icmp .ge 18, 3) := by decide +kernel
theorem dX5_feltIn_10 : decode cX5_feltIn 10 = .ok (.aload_n 1, 1) := by decide +kernel
theorem dX5_feltIn_11 : decode cX5_feltIn 11 = .ok (.getfield 38, 3) := by decide +kernel
theorem dX5_feltIn_14 : decode cX5_feltIn 14 = .ok (.iload_n 2, 1) := by decide +kernel
theorem dX5_feltIn_15 : decode cX5_feltIn 15 = .ok (.iaload, 1) := by decide +kernel
theorem dX5_feltIn_16 : decode cX5_feltIn 16 = .ok (.ifCond .ne 9, 3) := by decide +kernel
theorem dX5_feltIn_19 : decode cX5_feltIn 19 = .ok (.iinc 2 1, 3) := by decide +kernel
theorem dX5_feltIn_22 : decode cX5_feltIn 22 = .ok (.goto (-20), 3) := by decide +kernel
theorem dX5_feltIn_25 : decode cX5_feltIn 25 = .ok (.iload_n 2, 1) := by decide +kernel
theorem dX5_feltIn_26 : decode cX5_feltIn 26 = .ok (.ireturn, 1) := by decide +kernel
theorem dX5_sumOf_0 : decode cX5_sumOf 0 = .ok (.aload_n 0, 1) := by decide +kernel
theorem dX5_sumOf_1 : decode cX5_sumOf 1 = .ok (.aload_n 1, 1) := by decide +kernel
theorem dX5_sumOf_2 : decode cX5_sumOf 2 = .ok (.invokevirtual 43, 3) := by decide +kernel
theorem dX5_sumOf_5 : decode cX5_sumOf 5 = .ok (.istore_n 3, 1) := by decide +kernel
theorem dX5_sumOf_6 : decode cX5_sumOf 6 = .ok (.iconst 0, 1) := by decide +kernel
theorem dX5_sumOf_7 : decode cX5_sumOf 7 = .ok (.istore 4, 2) := by decide +kernel
theorem dX5_sumOf_9 : decode cX5_sumOf 9 = .ok (.iconst 0, 1) := by decide +kernel
theorem dX5_sumOf_10 : decode cX5_sumOf 10 = .ok (.istore 5, 2) := by decide +kernel
theorem dX5_sumOf_12 : decode cX5_sumOf 12 = .ok (.iload 5, 2) := by decide +kernel
theorem dX5_sumOf_14 : decode cX5_sumOf 14 = .ok (.iload_n 3, 1) := by decide +kernel
theorem dX5_sumOf_15 : decode cX5_sumOf 15 = .ok (.if_icmp .ge 22, 3) := by decide +kernel
theorem dX5_sumOf_18 : decode cX5_sumOf 18 = .ok (.iload 4, 2) := by decide +kernel
theorem dX5_sumOf_20 : decode cX5_sumOf 20 = .ok (.aload_n 0, 1) := by decide +kernel
theorem dX5_sumOf_21 : decode cX5_sumOf 21 = .ok (.aload_n 1, 1) := by decide +kernel
theorem dX5_sumOf_22 : decode cX5_sumOf 22 = .ok (.iload 5, 2) := by decide +kernel
theorem dX5_sumOf_24 : decode cX5_sumOf 24 = .ok (.iload_n 2, 1) := by decide +kernel
theorem dX5_sumOf_25 : decode cX5_sumOf 25 = .ok (.invokevirtual 47, 3) := by decide +kernel
theorem dX5_sumOf_28 : decode cX5_sumOf 28 = .ok (.iadd, 1) := by decide +kernel
theorem dX5_sumOf_29 : decode cX5_sumOf 29 = .ok (.istore 4, 2) := by decide +kernel
theorem dX5_sumOf_31 : decode cX5_sumOf 31 = .ok (.iinc 5 1, 3) := by decide +kernel
theorem dX5_sumOf_34 : decode cX5_sumOf 34 = .ok (.goto (-22), 3) := by decide +kernel
theorem dX5_sumOf_37 : decode cX5_sumOf 37 = .ok (.iload 4, 2) := by decide +kernel
theorem dX5_sumOf_39 : decode cX5_sumOf 39 = .ok (.ireturn, 1) := by decide +kernel
theorem dX5_pullOf_0 : decode cX5_pullOf 0 = .ok (.aload_n 0, 1) := by decide +kernel
theorem dX5_pullOf_1 : decode cX5_pullOf 1 = .ok (.aload_n 1, 1) := by decide +kernel
theorem dX5_pullOf_2 : decode cX5_pullOf 2 = .ok (.iload_n 2, 1) := by decide +kernel
theorem dX5_pullOf_3 : decode cX5_pullOf 3 = .ok (.iload_n 3, 1) := by decide +kernel
theorem dX5_pullOf_4 : decode cX5_pullOf 4 = .ok (.invokevirtual 51, 3) := by decide +kernel
theorem dX5_pullOf_7 : decode cX5_pullOf 7 = .ok (.istore 4, 2) := by decide +kernel
theorem dX5_pullOf_9 : decode cX5_pullOf 9 = .ok (.aload_n 0, 1) := by decide +kernel
theorem dX5_pullOf_10 : decode cX5_pullOf 10 = .ok (.aload_n 1, 1) := by decide +kernel
theorem dX5_pullOf_11 : decode cX5_pullOf 11 = .ok (.iload_n 2, 1) := by decide +kernel
theorem dX5_pullOf_12 : decode cX5_pullOf 12 = .ok (.iload_n 3, 1) := by decide +kernel
theorem dX5_pullOf_13 : decode cX5_pullOf 13 = .ok (.invokevirtual 54, 3) := by decide +kernel
theorem dX5_pullOf_16 : decode cX5_pullOf 16 = .ok (.istore 5, 2) := by decide +kernel
theorem dX5_pullOf_18 : decode cX5_pullOf 18 = .ok (.iload 4, 2) := by decide +kernel
theorem dX5_pullOf_20 : decode cX5_pullOf 20 = .ok (.iload 5, 2) := by decide +kernel
theorem dX5_pullOf_22 : decode cX5_pullOf 22 = .ok (.if_icmp .ne 8, 3) := by decide +kernel
theorem dX5_pullOf_25 : decode cX5_pullOf 25 = .ok (.iload 4, 2) := by decide +kernel
theorem dX5_pullOf_27 : decode cX5_pullOf 27 = .ok (.goto 4, 3) := by decide +kernel
theorem dX5_pullOf_30 : decode cX5_pullOf 30 = .ok (.iconst 0, 1) := by decide +kernel
theorem dX5_pullOf_31 : decode cX5_pullOf 31 = .ok (.istore 6, 2) := by decide +kernel
theorem dX5_pullOf_33 : decode cX5_pullOf 33 = .ok (.aload_n 0, 1) := by decide +kernel
theorem dX5_pullOf_34 : decode cX5_pullOf 34 = .ok (.iload_n 2, 1) := by decide +kernel
theorem dX5_pullOf_35 : decode cX5_pullOf 35 = .ok (.invokevirtual 57, 3) := by decide +kernel
theorem dX5_pullOf_38 : decode cX5_pullOf 38 = .ok (.aload_n 1, 1) := by decide +kernel
theorem dX5_pullOf_39 : decode cX5_pullOf 39 = .ok (.getfield 61, 3) := by decide +kernel
theorem dX5_pullOf_42 : decode cX5_pullOf 42 = .ok (.iload_n 2, 1) := by decide +kernel
theorem dX5_pullOf_43 : decode cX5_pullOf 43 = .ok (.iaload, 1) := by decide +kernel
theorem dX5_pullOf_44 : decode cX5_pullOf 44 = .ok (.aload_n 1, 1) := by decide +kernel
theorem dX5_pullOf_45 : decode cX5_pullOf 45 = .ok (.getfield 64, 3) := by decide +kernel
theorem dX5_pullOf_48 : decode cX5_pullOf 48 = .ok (.iload_n 3, 1) := by decide +kernel
theorem dX5_pullOf_49 : decode cX5_pullOf 49 = .ok (.aaload, 1) := by decide +kernel
theorem dX5_pullOf_50 : decode cX5_pullOf 50 = .ok (.iload_n 2, 1) := by decide +kernel
theorem dX5_pullOf_51 : decode cX5_pullOf 51 = .ok (.iaload, 1) := by decide +kernel
theorem dX5_pullOf_52 : decode cX5_pullOf 52 = .ok (.iload 6, 2) := by decide +kernel
theorem dX5_pullOf_54 : decode cX5_pullOf 54 = .ok (.invokevirtual 68, 3) := by decide +kernel
theorem dX5_pullOf_57 : decode cX5_pullOf 57 = .ok (.ireturn, 1) := by decide +kernel
theorem dX5_leanAhead_0 : decode cX5_leanAhead 0 = .ok (.iload_n 2, 1) := by decide +kernel
theorem dX5_leanAhead_1 : decode cX5_leanAhead 1 = .ok (.iconst 1, 1) := by decide +kernel
theorem dX5_leanAhead_2 : decode cX5_leanAhead 2 = .ok (.if_icmp .lt 12, 3) := by decide +kernel
theorem dX5_leanAhead_5 : decode cX5_leanAhead 5 = .ok (.aload_n 1, 1) := by decide +kernel
theorem dX5_leanAhead_6 : decode cX5_leanAhead 6 = .ok (.getfield 38, 3) := by decide +kernel
theorem dX5_leanAhead_9 : decode cX5_leanAhead 9 = .ok (.iload_n 2, 1) := by decide +kernel
theorem dX5_leanAhead_10 : decode cX5_leanAhead 10 = .ok (.iaload, 1) := by decide +kernel
theorem dX5_leanAhead_11 : decode cX5_leanAhead 11 = .ok (.ifCond .eq 5, 3) := by decide +kernel
theorem dX5_leanAhead_14 : decode cX5_leanAhead 14 = .ok (.iconst 0, 1) := by decide +kernel
theorem dX5_leanAhead_15 : decode cX5_leanAhead 15 = .ok (.ireturn, 1) := by decide +kernel
theorem dX5_leanAhead_16 : decode cX5_leanAhead 16 = .ok (.aload_n 1, 1) := by decide +kernel
theorem dX5_leanAhead_17 : decode cX5_leanAhead 17 = .ok (.getfield 64, 3) := by decide +kernel
theorem dX5_leanAhead_20 : decode cX5_leanAhead 20 = .ok (.iload_n 3, 1) := by decide +kernel
theorem dX5_leanAhead_21 : decode cX5_leanAhead 21 = .ok (.aaload, 1) := by decide +kernel
theorem dX5_leanAhead_22 : decode cX5_leanAhead 22 = .ok (.iload_n 2, 1) := by decide +kernel
theorem dX5_leanAhead_23 : decode cX5_leanAhead 23 = .ok (.iconst 1, 1) := by decide +kernel
theorem dX5_leanAhead_24 : decode cX5_leanAhead 24 = .ok (.isub, 1) := by decide +kernel
theorem dX5_leanAhead_25 : decode cX5_leanAhead 25 = .ok (.iaload, 1) := by decide +kernel
theorem dX5_leanAhead_26 : decode cX5_leanAhead 26 = .ok (.ireturn, 1) := by decide +kernel
theorem dX5_leanBehind_0 : decode cX5_leanBehind 0 = .ok (.iload_n 2, 1) := by decide +kernel
theorem dX5_leanBehind_1 : decode cX5_leanBehind 1 = .ok (.iconst 1, 1) := by decide +kernel
theorem dX5_leanBehind_2 : decode cX5_leanBehind 2 = .ok (.iadd, 1) := by decide +kernel
theorem dX5_leanBehind_3 : decode cX5_leanBehind 3 = .ok (.istore 4, 2) := by decide +kernel
theorem dX5_leanBehind_5 : decode cX5_leanBehind 5 = .ok (.iload 4, 2) := by decide +kernel
theorem dX5_leanBehind_7 : decode cX5_leanBehind 7 = .ok (.aload_n 0, 1) := by decide +kernel
theorem dX5_leanBehind_8 : decode cX5_leanBehind 8 = .ok (.getfield 34, 3) := by decide +kernel
theorem dX5_leanBehind_11 : decode cX5_leanBehind 11 = .ok (.if_icmp .ge 13, 3) := by decide +kernel
theorem dX5_leanBehind_14 : decode cX5_leanBehind 14 = .ok (.aload_n 1, 1) := by decide +kernel
theorem dX5_leanBehind_15 : decode cX5_leanBehind 15 = .ok (.getfield 38, 3) := by decide +kernel
theorem dX5_leanBehind_18 : decode cX5_leanBehind 18 = .ok (.iload 4, 2) := by decide +kernel
theorem dX5_leanBehind_20 : decode cX5_leanBehind 20 = .ok (.iaload, 1) := by decide +kernel
theorem dX5_leanBehind_21 : decode cX5_leanBehind 21 = .ok (.ifCond .eq 5, 3) := by decide +kernel
theorem dX5_leanBehind_24 : decode cX5_leanBehind 24 = .ok (.iconst 0, 1) := by decide +kernel
theorem dX5_leanBehind_25 : decode cX5_leanBehind 25 = .ok (.ireturn, 1) := by decide +kernel
theorem dX5_leanBehind_26 : decode cX5_leanBehind 26 = .ok (.aload_n 1, 1) := by decide +kernel
theorem dX5_leanBehind_27 : decode cX5_leanBehind 27 = .ok (.getfield 64, 3) := by decide +kernel
theorem dX5_leanBehind_30 : decode cX5_leanBehind 30 = .ok (.iload_n 3, 1) := by decide +kernel
theorem dX5_leanBehind_31 : decode cX5_leanBehind 31 = .ok (.aaload, 1) := by decide +kernel
theorem dX5_leanBehind_32 : decode cX5_leanBehind 32 = .ok (.iload 4, 2) := by decide +kernel
theorem dX5_leanBehind_34 : decode cX5_leanBehind 34 = .ok (.iaload, 1) := by decide +kernel
theorem dX5_leanBehind_35 : decode cX5_leanBehind 35 = .ok (.ireturn, 1) := by decide +kernel
theorem dX5_drift_0 : decode cX5_drift 0 = .ok (.iconst 0, 1) := by decide +kernel
theorem dX5_drift_1 : decode cX5_drift 1 = .ok (.istore_n 2, 1) := by decide +kernel
theorem dX5_drift_2 : decode cX5_drift 2 = .ok (.iload_n 2, 1) := by decide +kernel
theorem dX5_drift_3 : decode cX5_drift 3 = .ok (.iconst 3, 1) := by decide +kernel
theorem dX5_drift_4 : decode cX5_drift 4 = .ok (.if_icmp .ge 107, 3) := by decide +kernel
theorem dX5_drift_7 : decode cX5_drift 7 = .ok (.iconst 0, 1) := by decide +kernel
theorem dX5_drift_8 : decode cX5_drift 8 = .ok (.istore_n 3, 1) := by decide +kernel
theorem dX5_drift_9 : decode cX5_drift 9 = .ok (.iconst 0, 1) := by decide +kernel
theorem dX5_drift_10 : decode cX5_drift 10 = .ok (.istore 4, 2) := by decide +kernel
theorem dX5_drift_12 : decode cX5_drift 12 = .ok (.iload 4, 2) := by decide +kernel
theorem dX5_drift_14 : decode cX5_drift 14 = .ok (.aload_n 0, 1) := by decide +kernel
theorem dX5_drift_15 : decode cX5_drift 15 = .ok (.getfield 34, 3) := by decide +kernel
theorem dX5_drift_18 : decode cX5_drift 18 = .ok (.if_icmp .ge 87, 3) := by decide +kernel
theorem dX5_drift_21 : decode cX5_drift 21 = .ok (.aload_n 1, 1) := by decide +kernel
theorem dX5_drift_22 : decode cX5_drift 22 = .ok (.getfield 64, 3) := by decide +kernel
theorem dX5_drift_25 : decode cX5_drift 25 = .ok (.iload_n 2, 1) := by decide +kernel
theorem dX5_drift_26 : decode cX5_drift 26 = .ok (.aaload, 1) := by decide +kernel
theorem dX5_drift_27 : decode cX5_drift 27 = .ok (.iload 4, 2) := by decide +kernel
theorem dX5_drift_29 : decode cX5_drift 29 = .ok (.iaload, 1) := by decide +kernel
theorem dX5_drift_30 : decode cX5_drift 30 = .ok (.istore 5, 2) := by decide +kernel
theorem dX5_drift_32 : decode cX5_drift 32 = .ok (.aload_n 1, 1) := by decide +kernel
theorem dX5_drift_33 : decode cX5_drift 33 = .ok (.getfield 38, 3) := by decide +kernel
theorem dX5_drift_36 : decode cX5_drift 36 = .ok (.iload 4, 2) := by decide +kernel
theorem dX5_drift_38 : decode cX5_drift 38 = .ok (.iaload, 1) := by decide +kernel
theorem dX5_drift_39 : decode cX5_drift 39 = .ok (.ifCond .ne 7, 3) := by decide +kernel
theorem dX5_drift_42 : decode cX5_drift 42 = .ok (.iload_n 3, 1) := by decide +kernel
theorem dX5_drift_43 : decode cX5_drift 43 = .ok (.goto 4, 3) := by decide +kernel
theorem dX5_drift_46 : decode cX5_drift 46 = .ok (.iconst 0, 1) := by decide +kernel
theorem dX5_drift_47 : decode cX5_drift 47 = .ok (.istore 6, 2) := by decide +kernel
theorem dX5_drift_49 : decode cX5_drift 49 = .ok (.iload 6, 2) := by decide +kernel
theorem dX5_drift_51 : decode cX5_drift 51 = .ok (.iload 5, 2) := by decide +kernel
theorem dX5_drift_53 : decode cX5_drift 53 = .ok (.iadd, 1) := by decide +kernel
theorem dX5_drift_54 : decode cX5_drift 54 = .ok (.aload_n 0, 1) := by decide +kernel
theorem dX5_drift_55 : decode cX5_drift 55 = .ok (.aload_n 1, 1) := by decide +kernel
theorem dX5_drift_56 : decode cX5_drift 56 = .ok (.iload 4, 2) := by decide +kernel
theorem dX5_drift_58 : decode cX5_drift 58 = .ok (.iload_n 2, 1) := by decide +kernel
theorem dX5_drift_59 : decode cX5_drift 59 = .ok (.invokevirtual 54, 3) := by decide +kernel
theorem dX5_drift_62 : decode cX5_drift 62 = .ok (.iadd, 1) := by decide +kernel
theorem dX5_drift_63 : decode cX5_drift 63 = .ok (.istore 7, 2) := by decide +kernel
theorem dX5_drift_65 : decode cX5_drift 65 = .ok (.iload 7, 2) := by decide +kernel
theorem dX5_drift_67 : decode cX5_drift 67 = .ok (.ifCond .eq 29, 3) := by decide +kernel
theorem dX5_drift_70 : decode cX5_drift 70 = .ok (.aload_n 0, 1) := by decide +kernel
theorem dX5_drift_71 : decode cX5_drift 71 = .ok (.iload 4, 2) := by decide +kernel
theorem dX5_drift_73 : decode cX5_drift 73 = .ok (.invokevirtual 57, 3) := by decide +kernel
theorem dX5_drift_76 : decode cX5_drift 76 = .ok (.invokevirtual 72, 3) := by decide +kernel
theorem dX5_drift_79 : decode cX5_drift 79 = .ok (.ifCond .eq 17, 3) := by decide +kernel
theorem dX5_drift_82 : decode cX5_drift 82 = .ok (.aload_n 1, 1) := by decide +kernel
theorem dX5_drift_83 : decode cX5_drift 83 = .ok (.getfield 64, 3) := by decide +kernel
theorem dX5_drift_86 : decode cX5_drift 86 = .ok (.iload_n 2, 1) := by decide +kernel
theorem dX5_drift_87 : decode cX5_drift 87 = .ok (.aaload, 1) := by decide +kernel
theorem dX5_drift_88 : decode cX5_drift 88 = .ok (.iload 4, 2) := by decide +kernel
theorem dX5_drift_90 : decode cX5_drift 90 = .ok (.iload 7, 2) := by decide +kernel
theorem dX5_drift_92 : decode cX5_drift 92 = .ok (.invokestatic 76, 3) := by decide +kernel
theorem dX5_drift_95 : decode cX5_drift 95 = .ok (.iastore, 1) := by decide +kernel
theorem dX5_drift_96 : decode cX5_drift 96 = .ok (.iload 5, 2) := by decide +kernel
theorem dX5_drift_98 : decode cX5_drift 98 = .ok (.istore_n 3, 1) := by decide +kernel
theorem dX5_drift_99 : decode cX5_drift 99 = .ok (.iinc 4 1, 3) := by decide +kernel
theorem dX5_drift_102 : decode cX5_drift 102 = .ok (.goto (-90), 3) := by decide +kernel
theorem dX5_drift_105 : decode cX5_drift 105 = .ok (.iinc 2 1, 3) := by decide +kernel
theorem dX5_drift_108 : decode cX5_drift 108 = .ok (.goto (-106), 3) := by decide +kernel
theorem dX5_drift_111 : decode cX5_drift 111 = .ok (.return_, 1) := by decide +kernel
theorem dX6_init_0 : decode cX6_init 0 = .ok (.aload_n 0, 1) := by decide +kernel
theorem dX6_init_1 : decode cX6_init 1 = .ok (.invokespecial 3, 3) := by decide +kernel
theorem dX6_init_4 : decode cX6_init 4 = .ok (.aload_n 0, 1) := by decide +kernel
theorem dX6_init_5 : decode cX6_init 5 = .ok (.bipush 8, 2) := by decide +kernel
theorem dX6_init_7 : decode cX6_init 7 = .ok (.newarray .int, 2) := by decide +kernel
theorem dX6_init_9 : decode cX6_init 9 = .ok (.putfield 9, 3) := by decide +kernel
theorem dX6_init_12 : decode cX6_init 12 = .ok (.aload_n 0, 1) := by decide +kernel
theorem dX6_init_13 : decode cX6_init 13 = .ok (.iconst 3, 1) := by decide +kernel
theorem dX6_init_14 : decode cX6_init 14 = .ok (.bipush 8, 2) := by decide +kernel
theorem dX6_init_16 : decode cX6_init 16 = .ok (.multianewarray 15 2, 4) := by decide +kernel
theorem dX6_init_20 : decode cX6_init 20 = .ok (.putfield 17, 3) := by decide +kernel
theorem dX6_init_23 : decode cX6_init 23 = .ok (.aload_n 0, 1) := by decide +kernel
theorem dX6_init_24 : decode cX6_init 24 = .ok (.bipush 8, 2) := by decide +kernel
theorem dX6_init_26 : decode cX6_init 26 = .ok (.newarray .int, 2) := by decide +kernel
theorem dX6_init_28 : decode cX6_init 28 = .ok (.putfield 20, 3) := by decide +kernel
theorem dX6_init_31 : decode cX6_init 31 = .ok (.aload_n 0, 1) := by decide +kernel
theorem dX6_init_32 : decode cX6_init 32 = .ok (.iconst 3, 1) := by decide +kernel
theorem dX6_init_33 : decode cX6_init 33 = .ok (.newarray .int, 2) := by decide +kernel
theorem dX6_init_35 : decode cX6_init 35 = .ok (.putfield 23, 3) := by decide +kernel
theorem dX6_init_38 : decode cX6_init 38 = .ok (.aload_n 0, 1) := by decide +kernel
theorem dX6_init_39 : decode cX6_init 39 = .ok (.iconst 3, 1) := by decide +kernel
theorem dX6_init_40 : decode cX6_init 40 = .ok (.newarray .int, 2) := by decide +kernel
theorem dX6_init_42 : decode cX6_init 42 = .ok (.putfield 26, 3) := by decide +kernel
theorem dX6_init_45 : decode cX6_init 45 = .ok (.aload_n 0, 1) := by decide +kernel
theorem dX6_init_46 : decode cX6_init 46 = .ok (.bipush 6, 2) := by decide +kernel
theorem dX6_init_48 : decode cX6_init 48 = .ok (.newarray .int, 2) := by decide +kernel
theorem dX6_init_50 : decode cX6_init 50 = .ok (.putfield 29, 3) := by decide +kernel
theorem dX6_init_53 : decode cX6_init 53 = .ok (.aload_n 0, 1) := by decide +kernel
theorem dX6_init_54 : decode cX6_init 54 = .ok (.bipush 6, 2) := by decide +kernel
theorem dX6_init_56 : decode cX6_init 56 = .ok (.newarray .int, 2) := by decide +kernel
theorem dX6_init_58 : decode cX6_init 58 = .ok (.putfield 32, 3) := by decide +kernel
theorem dX6_init_61 : decode cX6_init 61 = .ok (.aload_n 0, 1) := by decide +kernel
theorem dX6_init_62 : decode cX6_init 62 = .ok (.bipush 6, 2) := by decide +kernel
theorem dX6_init_64 : decode cX6_init 64 = .ok (.newarray .int, 2) := by decide +kernel
theorem dX6_init_66 : decode cX6_init 66 = .ok (.putfield 35, 3) := by decide +kernel
theorem dX6_init_69 : decode cX6_init 69 = .ok (.return_, 1) := by decide +kernel
theorem dX6_turnRound_0 : decode cX6_turnRound 0 = .ok (.aload_n 0, 1) := by decide +kernel
theorem dX6_turnRound_1 : decode cX6_turnRound 1 = .ok (.getfield 17, 3) := by decide +kernel
theorem dX6_turnRound_4 : decode cX6_turnRound 4 = .ok (.iload_n 2, 1) := by decide +kernel
theorem dX6_turnRound_5 : decode cX6_turnRound 5 = .ok (.aaload, 1) := by decide +kernel
theorem dX6_turnRound_6 : decode cX6_turnRound 6 = .ok (.iload_n 1, 1) := by decide +kernel
theorem dX6_turnRound_7 : decode cX6_turnRound 7 = .ok (.iaload, 1) := by decide +kernel
theorem dX6_turnRound_8 : decode cX6_turnRound 8 = .ok (.istore_n 3, 1) := by decide +kernel
theorem dX6_turnRound_9 : decode cX6_turnRound 9 = .ok (.aload_n 0, 1) := by decide +kernel
theorem dX6_turnRound_10 : decode cX6_turnRound 10 = .ok (.getfield 17, 3) := by decide +kernel
theorem dX6_turnRound_13 : decode cX6_turnRound 13 = .ok (.iload_n 2, 1) := by decide +kernel
theorem dX6_turnRound_14 : decode cX6_turnRound 14 = .ok (.aaload, 1) := by decide +kernel
theorem dX6_turnRound_15 : decode cX6_turnRound 15 = .ok (.iload_n 1, 1) := by decide +kernel
theorem dX6_turnRound_16 : decode cX6_turnRound 16 = .ok (.iload_n 3, 1) := by decide +kernel
theorem dX6_turnRound_17 : decode cX6_turnRound 17 = .ok (.iconst 1, 1) := by decide +kernel
theorem dX6_turnRound_18 : decode cX6_turnRound 18 = .ok (.if_icmp .ne 7, 3) := by decide +kernel
theorem dX6_turnRound_21 : decode cX6_turnRound 21 = .ok (.iconst (-1), 1) := by decide +kernel
theorem dX6_turnRound_22 : decode cX6_turnRound 22 = .ok (.goto 6, 3) := by decide +kernel
theorem dX6_turnRound_25 : decode cX6_turnRound 25 = .ok (.iload_n 3, 1) := by decide +kernel
theorem dX6_turnRound_26 : decode cX6_turnRound 26 = .ok (.iconst 1, 1) := by decide +kernel
theorem dX6_turnRound_27 : decode cX6_turnRound 27 = .ok (.iadd, 1) := by decide +kernel
theorem dX6_turnRound_28 : decode cX6_turnRound 28 = .ok (.iastore, 1) := by decide +kernel
theorem dX6_turnRound_29 : decode cX6_turnRound 29 = .ok (.return_, 1) := by decide +kernel
theorem dX6_addSeen_0 : decode cX6_addSeen 0 = .ok (.aload_n 0, 1) := by decide +kernel
theorem dX6_addSeen_1 : decode cX6_addSeen 1 = .ok (.getfield 38, 3) := by decide +kernel
theorem dX6_addSeen_4 : decode cX6_addSeen 4 = .ok (.bipush 6, 2) := by decide +kernel
theorem dX6_addSeen_6 : decode cX6_addSeen 6 = .ok (.if_icmp .lt 4, 3) := by decide +kernel
theorem dX6_addSeen_9 : decode cX6_addSeen 9 = .ok (.return_, 1) := by decide +kernel
theorem dX6_addSeen_10 : decode cX6_addSeen 10 = .ok (.aload_n 0, 1) := by decide +kernel
theorem dX6_addSeen_11 : decode cX6_addSeen 11 = .ok (.getfield 29, 3) := by decide +kernel
theorem dX6_addSeen_14 : decode cX6_addSeen 14 = .ok (.aload_n 0, 1) := by decide +kernel
theorem dX6_addSeen_15 : decode cX6_addSeen 15 = .ok (.getfield 38, 3) := by decide +kernel
theorem dX6_addSeen_18 : decode cX6_addSeen 18 = .ok (.iload_n 1, 1) := by decide +kernel
theorem dX6_addSeen_19 : decode cX6_addSeen 19 = .ok (.iastore, 1) := by decide +kernel
theorem dX6_addSeen_20 : decode cX6_addSeen 20 = .ok (.aload_n 0, 1) := by decide +kernel
theorem dX6_addSeen_21 : decode cX6_addSeen 21 = .ok (.getfield 32, 3) := by decide +kernel
theorem dX6_addSeen_24 : decode cX6_addSeen 24 = .ok (.aload_n 0, 1) := by decide +kernel
theorem dX6_addSeen_25 : decode cX6_addSeen 25 = .ok (.getfield 38, 3) := by decide +kernel
theorem dX6_addSeen_28 : decode cX6_addSeen 28 = .ok (.iload_n 2, 1) := by decide +kernel
theorem dX6_addSeen_29 : decode cX6_addSeen 29 = .ok (.iastore, 1) := by decide +kernel
theorem dX6_addSeen_30 : decode cX6_addSeen 30 = .ok (.aload_n 0, 1) := by decide +kernel
theorem dX6_addSeen_31 : decode cX6_addSeen 31 = .ok (.getfield 35, 3) := by decide +kernel
theorem dX6_addSeen_34 : decode cX6_addSeen 34 = .ok (.aload_n 0, 1) := by decide +kernel
theorem dX6_addSeen_35 : decode cX6_addSeen 35 = .ok (.getfield 38, 3) := by decide +kernel
theorem dX6_addSeen_38 : decode cX6_addSeen 38 = .ok (.iload_n 3, 1) := by decide +kernel
theorem dX6_addSeen_39 : decode cX6_addSeen 39 = .ok (.iastore, 1) := by decide +kernel
theorem dX6_addSeen_40 : decode cX6_addSeen 40 = .ok (.aload_n 0, 1) := by decide +kernel
theorem dX6_addSeen_41 : decode cX6_addSeen 41 = .ok (.dup, 1) := by decide +kernel
theorem dX6_addSeen_42 : decode cX6_addSeen 42 = .ok (.getfield 38, 3) := by decide +kernel
theorem dX6_addSeen_45 : decode cX6_addSeen 45 = .ok (.iconst 1, 1) := by decide +kernel
theorem dX6_addSeen_46 : decode cX6_addSeen 46 = .ok (.iadd, 1) := by decide +kernel
theorem dX6_addSeen_47 : decode cX6_addSeen 47 = .ok (.putfield 38, 3) := by decide +kernel
theorem dX6_addSeen_50 : decode cX6_addSeen 50 = .ok (.return_, 1) := by decide +kernel
theorem dX6_seenAllows_0 : decode cX6_seenAllows 0 = .ok (.iconst 0, 1) := by decide +kernel
theorem dX6_seenAllows_1 : decode cX6_seenAllows 1 = .ok (.istore 4, 2) := by decide +kernel
theorem dX6_seenAllows_3 : decode cX6_seenAllows 3 = .ok (.iload 4, 2) := by decide +kernel
theorem dX6_seenAllows_5 : decode cX6_seenAllows 5 = .ok (.aload_n 0, 1) := by decide +kernel
theorem dX6_seenAllows_6 : decode cX6_seenAllows 6 = .ok (.getfield 38, 3) := by decide +kernel
theorem dX6_seenAllows_9 : decode cX6_seenAllows 9 = .ok (.if_icmp .ge 56, 3) := by decide +kernel
theorem dX6_seenAllows_12 : decode cX6_seenAllows 12 = .ok (.aload_n 0, 1) := by decide +kernel
theorem dX6_seenAllows_13 : decode cX6_seenAllows 13 = .ok (.getfield 29, 3) := by decide +kernel
theorem dX6_seenAllows_16 : decode cX6_seenAllows 16 = .ok (.iload 4, 2) := by decide +kernel
theorem dX6_seenAllows_18 : decode cX6_seenAllows 18 = .ok (.iaload, 1) := by decide +kernel
theorem dX6_seenAllows_19 : decode cX6_seenAllows 19 = .ok (.iload_n 1, 1) := by decide +kernel
theorem dX6_seenAllows_20 : decode cX6_seenAllows 20 = .ok (.if_icmp .ne 18, 3) := by decide +kernel
theorem dX6_seenAllows_23 : decode cX6_seenAllows 23 = .ok (.aload_n 0, 1) := by decide +kernel
theorem dX6_seenAllows_24 : decode cX6_seenAllows 24 = .ok (.getfield 32, 3) := by decide +kernel
theorem dX6_seenAllows_27 : decode cX6_seenAllows 27 = .ok (.iload 4, 2) := by decide +kernel
theorem dX6_seenAllows_29 : decode cX6_seenAllows 29 = .ok (.iaload, 1) := by decide +kernel
theorem dX6_seenAllows_30 : decode cX6_seenAllows 30 = .ok (.iload_n 2, 1) := by decide +kernel
theorem dX6_seenAllows_31 : decode cX6_seenAllows 31 = .ok (.if_icmp .ne 7, 3) := by decide +kernel
theorem dX6_seenAllows_34 : decode cX6_seenAllows 34 = .ok (.iconst 1, 1) := by decide +kernel
theorem dX6_seenAllows_35 : decode cX6_seenAllows 35 = .ok (.goto 4, 3) := by decide +kernel
theorem dX6_seenAllows_38 : decode cX6_seenAllows 38 = .ok (.iconst 0, 1) := by decide +kernel
theorem dX6_seenAllows_39 : decode cX6_seenAllows 39 = .ok (.istore 5, 2) := by decide +kernel
theorem dX6_seenAllows_41 : decode cX6_seenAllows 41 = .ok (.iload 5, 2) := by decide +kernel
theorem dX6_seenAllows_43 : decode cX6_seenAllows 43 = .ok (.ifCond .eq 16, 3) := by decide +kernel
theorem dX6_seenAllows_46 : decode cX6_seenAllows 46 = .ok (.aload_n 0, 1) := by decide +kernel
theorem dX6_seenAllows_47 : decode cX6_seenAllows 47 = .ok (.getfield 35, 3) := by decide +kernel
theorem dX6_seenAllows_50 : decode cX6_seenAllows 50 = .ok (.iload 4, 2) := by decide +kernel
theorem dX6_seenAllows_52 : decode cX6_seenAllows 52 = .ok (.iaload, 1) := by decide +kernel
theorem dX6_seenAllows_53 : decode cX6_seenAllows 53 = .ok (.iload_n 3, 1) := by decide +kernel
theorem dX6_seenAllows_54 : decode cX6_seenAllows 54 = .ok (.if_icmp .eq 5, 3) := by decide +kernel
theorem dX6_seenAllows_57 : decode cX6_seenAllows 57 = .ok (.iconst 0, 1) := by decide +kernel
theorem dX6_seenAllows_58 : decode cX6_seenAllows 58 = .ok (.ireturn, 1) := by decide +kernel
theorem dX6_seenAllows_59 : decode cX6_seenAllows 59 = .ok (.iinc 4 1, 3) := by decide +kernel
theorem dX6_seenAllows_62 : decode cX6_seenAllows 62 = .ok (.goto (-59), 3) := by decide +kernel
theorem dX6_seenAllows_65 : decode cX6_seenAllows 65 = .ok (.iconst 1, 1) := by decide +kernel
theorem dX6_seenAllows_66 : decode cX6_seenAllows 66 = .ok (.ireturn, 1) := by decide +kernel
theorem dX6_leanCode_0 : decode cX6_leanCode 0 = .ok (.lconst 0, 1) := by decide +kernel
theorem dX6_leanCode_1 : decode cX6_leanCode 1 = .ok (.lstore_n 1, 1) := by decide +kernel
theorem dX6_leanCode_2 : decode cX6_leanCode 2 = .ok (.iconst 0, 1) := by decide +kernel
theorem dX6_leanCode_3 : decode cX6_leanCode 3 = .ok (.istore_n 3, 1) := by decide +kernel
theorem dX6_leanCode_4 : decode cX6_leanCode 4 = .ok (.iload_n 3, 1) := by decide +kernel
theorem dX6_leanCode_5 : decode cX6_leanCode 5 = .ok (.iconst 3, 1) := by decide +kernel
theorem dX6_leanCode_6 : decode cX6_leanCode 6 = .ok (.if_icmp .ge 44, 3) := by decide +kernel
theorem dX6_leanCode_9 : decode cX6_leanCode 9 = .ok (.iconst 0, 1) := by decide +kernel
theorem dX6_leanCode_10 : decode cX6_leanCode 10 = .ok (.istore 4, 2) := by decide +kernel
theorem dX6_leanCode_12 : decode cX6_leanCode 12 = .ok (.iload 4, 2) := by decide +kernel
theorem dX6_leanCode_14 : decode cX6_leanCode 14 = .ok (.bipush 8, 2) := by decide +kernel
theorem dX6_leanCode_16 : decode cX6_leanCode 16 = .ok (.if_icmp .ge 28, 3) := by decide +kernel
theorem dX6_leanCode_19 : decode cX6_leanCode 19 = .ok (.lload_n 1, 1) := by decide +kernel
theorem dX6_leanCode_20 : decode cX6_leanCode 20 = .ok (.ldc2_w 42, 3) := by decide +kernel
theorem dX6_leanCode_23 : decode cX6_leanCode 23 = .ok (.lmul, 1) := by decide +kernel
theorem dX6_leanCode_24 : decode cX6_leanCode 24 = .ok (.aload_n 0, 1) := by decide +kernel
theorem dX6_leanCode_25 : decode cX6_leanCode 25 = .ok (.getfield 17, 3) := by decide +kernel
theorem dX6_leanCode_28 : decode cX6_leanCode 28 = .ok (.iload_n 3, 1) := by decide +kernel
theorem dX6_leanCode_29 : decode cX6_leanCode 29 = .ok (.aaload, 1) := by decide +kernel
theorem dX6_leanCode_30 : decode cX6_leanCode 30 = .ok (.iload 4, 2) := by decide +kernel
theorem dX6_leanCode_32 : decode cX6_leanCode 32 = .ok (.iaload, 1) := by decide +kernel
theorem dX6_leanCode_33 : decode cX6_leanCode 33 = .ok (.i2l, 1) := by decide +kernel
theorem dX6_leanCode_34 : decode cX6_leanCode 34 = .ok (.ladd, 1) := by decide +kernel
theorem dX6_leanCode_35 : decode cX6_leanCode 35 = .ok (.lconst 1, 1) := by decide +kernel
theorem dX6_leanCode_36 : decode cX6_leanCode 36 = .ok (.ladd, 1) := by decide +kernel
theorem dX6_leanCode_37 : decode cX6_leanCode 37 = .ok (.lstore_n 1, 1) := by decide +kernel
theorem dX6_leanCode_38 : decode cX6_leanCode 38 = .ok (.iinc 4 1, 3) := by decide +kernel
theorem dX6_leanCode_41 : decode cX6_leanCode 41 = .ok (.goto (-29), 3) := by decide +kernel
theorem dX6_leanCode_44 : decode cX6_leanCode 44 = .ok (.iinc 3 1, 3) := by decide +kernel
theorem dX6_leanCode_47 : decode cX6_leanCode 47 = .ok (.goto (-43), 3) := by decide +kernel
theorem dX6_leanCode_50 : decode cX6_leanCode 50 = .ok (.lload_n 1, 1) := by decide +kernel
theorem dX6_leanCode_51 : decode cX6_leanCode 51 = .ok (.lreturn, 1) := by decide +kernel
theorem dX6_clearAll_0 : decode cX6_clearAll 0 = .ok (.iconst 0, 1) := by decide +kernel
theorem dX6_clearAll_1 : decode cX6_clearAll 1 = .ok (.istore_n 1, 1) := by decide +kernel
theorem dX6_clearAll_2 : decode cX6_clearAll 2 = .ok (.iload_n 1, 1) := by decide +kernel
theorem dX6_clearAll_3 : decode cX6_clearAll 3 = .ok (.bipush 8, 2) := by decide +kernel
theorem dX6_clearAll_5 : decode cX6_clearAll 5 = .ok (.if_icmp .ge 45, 3) := by decide +kernel
theorem dX6_clearAll_8 : decode cX6_clearAll 8 = .ok (.aload_n 0, 1) := by decide +kernel
theorem dX6_clearAll_9 : decode cX6_clearAll 9 = .ok (.getfield 9, 3) := by decide +kernel
theorem dX6_clearAll_12 : decode cX6_clearAll 12 = .ok (.iload_n 1, 1) := by decide +kernel
theorem dX6_clearAll_13 : decode cX6_clearAll 13 = .ok (.iconst 0, 1) := by decide +kernel
theorem dX6_clearAll_14 : decode cX6_clearAll 14 = .ok (.iastore, 1) := by decide +kernel
theorem dX6_clearAll_15 : decode cX6_clearAll 15 = .ok (.aload_n 0, 1) := by decide +kernel
theorem dX6_clearAll_16 : decode cX6_clearAll 16 = .ok (.getfield 20, 3) := by decide +kernel
theorem dX6_clearAll_19 : decode cX6_clearAll 19 = .ok (.iload_n 1, 1) := by decide +kernel
theorem dX6_clearAll_20 : decode cX6_clearAll 20 = .ok (.iconst 0, 1) := by decide +kernel
theorem dX6_clearAll_21 : decode cX6_clearAll 21 = .ok (.iastore, 1) := by decide +kernel
theorem dX6_clearAll_22 : decode cX6_clearAll 22 = .ok (.iconst 0, 1) := by decide +kernel
theorem dX6_clearAll_23 : decode cX6_clearAll 23 = .ok (.istore_n 2, 1) := by decide +kernel
theorem dX6_clearAll_24 : decode cX6_clearAll 24 = .ok (.iload_n 2, 1) := by decide +kernel
theorem dX6_clearAll_25 : decode cX6_clearAll 25 = .ok (.iconst 3, 1) := by decide +kernel
theorem dX6_clearAll_26 : decode cX6_clearAll 26 = .ok (.if_icmp .ge 18, 3) := by decide +kernel
theorem dX6_clearAll_29 : decode cX6_clearAll 29 = .ok (.aload_n 0, 1) := by decide +kernel
theorem dX6_clearAll_30 : decode cX6_clearAll 30 = .ok (.getfield 17, 3) := by decide +kernel
theorem dX6_clearAll_33 : decode cX6_clearAll 33 = .ok (.iload_n 2, 1) := by decide +kernel
theorem dX6_clearAll_34 : decode cX6_clearAll 34 = .ok (.aaload, 1) := by decide +kernel
theorem dX6_clearAll_35 : decode cX6_clearAll 35 = .ok (.iload_n 1, 1) := by decide +kernel
theorem dX6_clearAll_36 : decode cX6_clearAll 36 = .ok (.iconst 0, 1) := by decide +kernel
theorem dX6_clearAll_37 : decode cX6_clearAll 37 = .ok (.iastore, 1) := by decide +kernel
theorem dX6_clearAll_38 : decode cX6_clearAll 38 = .ok (.iinc 2 1, 3) := by decide +kernel
theorem dX6_clearAll_41 : decode cX6_clearAll 41 = .ok (.goto (-17), 3) := by decide +kernel
theorem dX6_clearAll_44 : decode cX6_clearAll 44 = .ok (.iinc 1 1, 3) := by decide +kernel
theorem dX6_clearAll_47 : decode cX6_clearAll 47 = .ok (.goto (-45), 3) := by decide +kernel
theorem dX6_clearAll_50 : decode cX6_clearAll 50 = .ok (.iconst 0, 1) := by decide +kernel
theorem dX6_clearAll_51 : decode cX6_clearAll 51 = .ok (.istore_n 1, 1) := by decide +kernel
theorem dX6_clearAll_52 : decode cX6_clearAll 52 = .ok (.iload_n 1, 1) := by decide +kernel
theorem dX6_clearAll_53 : decode cX6_clearAll 53 = .ok (.iconst 3, 1) := by decide +kernel
theorem dX6_clearAll_54 : decode cX6_clearAll 54 = .ok (.if_icmp .ge 23, 3) := by decide +kernel
theorem dX6_clearAll_57 : decode cX6_clearAll 57 = .ok (.aload_n 0, 1) := by decide +kernel
theorem dX6_clearAll_58 : decode cX6_clearAll 58 = .ok (.getfield 23, 3) := by decide +kernel
theorem dX6_clearAll_61 : decode cX6_clearAll 61 = .ok (.iload_n 1, 1) := by decide +kernel
theorem dX6_clearAll_62 : decode cX6_clearAll 62 = .ok (.iconst 0, 1) := by decide +kernel
theorem dX6_clearAll_63 : decode cX6_clearAll 63 = .ok (.iastore, 1) := by decide +kernel
theorem dX6_clearAll_64 : decode cX6_clearAll 64 = .ok (.aload_n 0, 1) := by decide +kernel
theorem dX6_clearAll_65 : decode cX6_clearAll 65 = .ok (.getfield 26, 3) := by decide +kernel
theorem dX6_clearAll_68 : decode cX6_clearAll 68 = .ok (.iload_n 1, 1) := by decide +kernel
theorem dX6_clearAll_69 : decode cX6_clearAll 69 = .ok (.iconst 0, 1) := by decide +kernel
theorem dX6_clearAll_70 : decode cX6_clearAll 70 = .ok (.iastore, 1) := by decide +kernel
theorem dX6_clearAll_71 : decode cX6_clearAll 71 = .ok (.iinc 1 1, 3) := by decide +kernel
theorem dX6_clearAll_74 : decode cX6_clearAll 74 = .ok (.goto (-22), 3) := by decide +kernel
theorem dX6_clearAll_77 : decode cX6_clearAll 77 = .ok (.aload_n 0, 1) := by decide +kernel
theorem dX6_clearAll_78 : decode cX6_clearAll 78 = .ok (.iconst 0, 1) := by decide +kernel
theorem dX6_clearAll_79 : decode cX6_clearAll 79 = .ok (.putfield 38, 3) := by decide +kernel
theorem dX6_clearAll_82 : decode cX6_clearAll 82 = .ok (.aload_n 0, 1) := by decide +kernel
theorem dX6_clearAll_83 : decode cX6_clearAll 83 = .ok (.iconst 0, 1) := by decide +kernel
theorem dX6_clearAll_84 : decode cX6_clearAll 84 = .ok (.putfield 44, 3) := by decide +kernel
theorem dX6_clearAll_87 : decode cX6_clearAll 87 = .ok (.return_, 1) := by decide +kernel
theorem dX6_takeFrom_0 : decode cX6_takeFrom 0 = .ok (.aload_n 1, 1) := by decide +kernel
theorem dX6_takeFrom_1 : decode cX6_takeFrom 1 = .ok (.getfield 9, 3) := by decide +kernel
theorem dX6_takeFrom_4 : decode cX6_takeFrom 4 = .ok (.iconst 0, 1) := by decide +kernel
theorem dX6_takeFrom_5 : decode cX6_takeFrom 5 = .ok (.aload_n 0, 1) := by decide +kernel
theorem dX6_takeFrom_6 : decode cX6_takeFrom 6 = .ok (.getfield 9, 3) := by decide +kernel
theorem dX6_takeFrom_9 : decode cX6_takeFrom 9 = .ok (.iconst 0, 1) := by decide +kernel
theorem dX6_takeFrom_10 : decode cX6_takeFrom 10 = .ok (.bipush 8, 2) := by decide +kernel
theorem dX6_takeFrom_12 : decode cX6_takeFrom 12 = .ok (.invokestatic 47, 3) := by decide +kernel
theorem dX6_takeFrom_15 : decode cX6_takeFrom 15 = .ok (.aload_n 1, 1) := by decide +kernel
theorem dX6_takeFrom_16 : decode cX6_takeFrom 16 = .ok (.getfield 20, 3) := by decide +kernel
theorem dX6_takeFrom_19 : decode cX6_takeFrom 19 = .ok (.iconst 0, 1) := by decide +kernel
theorem dX6_takeFrom_20 : decode cX6_takeFrom 20 = .ok (.aload_n 0, 1) := by decide +kernel
theorem dX6_takeFrom_21 : decode cX6_takeFrom 21 = .ok (.getfield 20, 3) := by decide +kernel
theorem dX6_takeFrom_24 : decode cX6_takeFrom 24 = .ok (.iconst 0, 1) := by decide +kernel
theorem dX6_takeFrom_25 : decode cX6_takeFrom 25 = .ok (.bipush 8, 2) := by decide +kernel
theorem dX6_takeFrom_27 : decode cX6_takeFrom 27 = .ok (.invokestatic 47, 3) := by decide +kernel
theorem dX6_takeFrom_30 : decode cX6_takeFrom 30 = .ok (.iconst 0, 1) := by decide +kernel
theorem dX6_takeFrom_31 : decode cX6_takeFrom 31 = .ok (.istore_n 2, 1) := by decide +kernel
theorem dX6_takeFrom_32 : decode cX6_takeFrom 32 = .ok (.iload_n 2, 1) := by decide +kernel
theorem dX6_takeFrom_33 : decode cX6_takeFrom 33 = .ok (.iconst 3, 1) := by decide +kernel
theorem dX6_takeFrom_34 : decode cX6_takeFrom 34 = .ok (.if_icmp .ge 28, 3) := by decide +kernel
theorem dX6_takeFrom_37 : decode cX6_takeFrom 37 = .ok (.aload_n 1, 1) := by decide +kernel
theorem dX6_takeFrom_38 : decode cX6_takeFrom 38 = .ok (.getfield 17, 3) := by decide +kernel
theorem dX6_takeFrom_41 : decode cX6_takeFrom 41 = .ok (.iload_n 2, 1) := by decide +kernel
theorem dX6_takeFrom_42 : decode cX6_takeFrom 42 = .ok (.aaload, 1) := by decide +kernel
theorem dX6_takeFrom_43 : decode cX6_takeFrom 43 = .ok (.iconst 0, 1) := by decide +kernel
theorem dX6_takeFrom_44 : decode cX6_takeFrom 44 = .ok (.aload_n 0, 1) := by decide +kernel
theorem dX6_takeFrom_45 : decode cX6_takeFrom 45 = .ok (.getfield 17, 3) := by decide +kernel
theorem dX6_takeFrom_48 : decode cX6_takeFrom 48 = .ok (.iload_n 2, 1) := by decide +kernel
theorem dX6_takeFrom_49 : decode cX6_takeFrom 49 = .ok (.aaload, 1) := by decide +kernel
theorem dX6_takeFrom_50 : decode cX6_takeFrom 50 = .ok (.iconst 0, 1) := by decide +kernel
theorem dX6_takeFrom_51 : decode cX6_takeFrom 51 = .ok (.bipush 8, 2) := by decide +kernel
theorem dX6_takeFrom_53 : decode cX6_takeFrom 53 = .ok (.invokestatic 47, 3) := by decide +kernel
theorem dX6_takeFrom_56 : decode cX6_takeFrom 56 = .ok (.iinc 2 1, 3) := by decide +kernel
theorem dX6_takeFrom_59 : decode cX6_takeFrom 59 = .ok (.goto (-27), 3) := by decide +kernel
theorem dX6_takeFrom_62 : decode cX6_takeFrom 62 = .ok (.aload_n 1, 1) := by decide +kernel
theorem dX6_takeFrom_63 : decode cX6_takeFrom 63 = .ok (.getfield 23, 3) := by decide +kernel
theorem dX6_takeFrom_66 : decode cX6_takeFrom 66 = .ok (.iconst 0, 1) := by decide +kernel
theorem dX6_takeFrom_67 : decode cX6_takeFrom 67 = .ok (.aload_n 0, 1) := by decide +kernel
theorem dX6_takeFrom_68 : decode cX6_takeFrom 68 = .ok (.getfield 23, 3) := by decide +kernel
theorem dX6_takeFrom_71 : decode cX6_takeFrom 71 = .ok (.iconst 0, 1) := by decide +kernel
theorem dX6_takeFrom_72 : decode cX6_takeFrom 72 = .ok (.iconst 3, 1) := by decide +kernel
theorem dX6_takeFrom_73 : decode cX6_takeFrom 73 = .ok (.invokestatic 47, 3) := by decide +kernel
theorem dX6_takeFrom_76 : decode cX6_takeFrom 76 = .ok (.aload_n 1, 1) := by decide +kernel
theorem dX6_takeFrom_77 : decode cX6_takeFrom 77 = .ok (.getfield 26, 3) := by decide +kernel
theorem dX6_takeFrom_80 : decode cX6_takeFrom 80 = .ok (.iconst 0, 1) := by decide +kernel
theorem dX6_takeFrom_81 : decode cX6_takeFrom 81 = .ok (.aload_n 0, 1) := by decide +kernel
theorem dX6_takeFrom_82 : decode cX6_takeFrom 82 = .ok (.getfield 26, 3) := by decide +kernel
theorem dX6_takeFrom_85 : decode cX6_takeFrom 85 = .ok (.iconst 0, 1) := by decide +kernel
theorem dX6_takeFrom_86 : decode cX6_takeFrom 86 = .ok (.iconst 3, 1) := by decide +kernel
theorem dX6_takeFrom_87 : decode cX6_takeFrom 87 = .ok (.invokestatic 47, 3) := by decide +kernel
theorem dX6_takeFrom_90 : decode cX6_takeFrom 90 = .ok (.aload_n 1, 1) := by decide +kernel
theorem dX6_takeFrom_91 : decode cX6_takeFrom 91 = .ok (.getfield 29, 3) := by decide +kernel
theorem dX6_takeFrom_94 : decode cX6_takeFrom 94 = .ok (.iconst 0, 1) := by decide +kernel
theorem dX6_takeFrom_95 : decode cX6_takeFrom 95 = .ok (.aload_n 0, 1) := by decide +kernel
theorem dX6_takeFrom_96 : decode cX6_takeFrom 96 = .ok (.getfield 29, 3) := by decide +kernel
theorem dX6_takeFrom_99 : decode cX6_takeFrom 99 = .ok (.iconst 0, 1) := by decide +kernel
theorem dX6_takeFrom_100 : decode cX6_takeFrom 100 = .ok (.bipush 6, 2) := by decide +kernel
theorem dX6_takeFrom_102 : decode cX6_takeFrom 102 = .ok (.invokestatic 47, 3) := by decide +kernel
theorem dX6_takeFrom_105 : decode cX6_takeFrom 105 = .ok (.aload_n 1, 1) := by decide +kernel
theorem dX6_takeFrom_106 : decode cX6_takeFrom 106 = .ok (.getfield 32, 3) := by decide +kernel
theorem dX6_takeFrom_109 : decode cX6_takeFrom 109 = .ok (.iconst 0, 1) := by decide +kernel
theorem dX6_takeFrom_110 : decode cX6_takeFrom 110 = .ok (.aload_n 0, 1) := by decide +kernel
theorem dX6_takeFrom_111 : decode cX6_takeFrom 111 = .ok (.getfield 32, 3) := by decide +kernel
theorem dX6_takeFrom_114 : decode cX6_takeFrom 114 = .ok (.iconst 0, 1) := by decide +kernel
theorem dX6_takeFrom_115 : decode cX6_takeFrom 115 = .ok (.bipush 6, 2) := by decide +kernel
theorem dX6_takeFrom_117 : decode cX6_takeFrom 117 = .ok (.invokestatic 47, 3) := by decide +kernel
theorem dX6_takeFrom_120 : decode cX6_takeFrom 120 = .ok (.aload_n 1, 1) := by decide +kernel
theorem dX6_takeFrom_121 : decode cX6_takeFrom 121 = .ok (.getfield 35, 3) := by decide +kernel
theorem dX6_takeFrom_124 : decode cX6_takeFrom 124 = .ok (.iconst 0, 1) := by decide +kernel
theorem dX6_takeFrom_125 : decode cX6_takeFrom 125 = .ok (.aload_n 0, 1) := by decide +kernel
theorem dX6_takeFrom_126 : decode cX6_takeFrom 126 = .ok (.getfield 35, 3) := by decide +kernel
theorem dX6_takeFrom_129 : decode cX6_takeFrom 129 = .ok (.iconst 0, 1) := by decide +kernel
theorem dX6_takeFrom_130 : decode cX6_takeFrom 130 = .ok (.bipush 6, 2) := by decide +kernel
theorem dX6_takeFrom_132 : decode cX6_takeFrom 132 = .ok (.invokestatic 47, 3) := by decide +kernel
theorem dX6_takeFrom_135 : decode cX6_takeFrom 135 = .ok (.aload_n 0, 1) := by decide +kernel
theorem dX6_takeFrom_136 : decode cX6_takeFrom 136 = .ok (.aload_n 1, 1) := by decide +kernel
theorem dX6_takeFrom_137 : decode cX6_takeFrom 137 = .ok (.getfield 38, 3) := by decide +kernel
theorem dX6_takeFrom_140 : decode cX6_takeFrom 140 = .ok (.putfield 38, 3) := by decide +kernel
theorem dX6_takeFrom_143 : decode cX6_takeFrom 143 = .ok (.aload_n 0, 1) := by decide +kernel
theorem dX6_takeFrom_144 : decode cX6_takeFrom 144 = .ok (.aload_n 1, 1) := by decide +kernel
theorem dX6_takeFrom_145 : decode cX6_takeFrom 145 = .ok (.getfield 44, 3) := by decide +kernel
theorem dX6_takeFrom_148 : decode cX6_takeFrom 148 = .ok (.putfield 44, 3) := by decide +kernel
theorem dX6_takeFrom_151 : decode cX6_takeFrom 151 = .ok (.return_, 1) := by decide +kernel
theorem dX7_init_0 : decode cX7_init 0 = .ok (.aload_n 0, 1) := by decide +kernel
theorem dX7_init_1 : decode cX7_init 1 = .ok (.invokespecial 1, 3) := by decide +kernel
theorem dX7_init_4 : decode cX7_init 4 = .ok (.return_, 1) := by decide +kernel
theorem dX7_number_0 : decode cX7_number 0 = .ok (.iconst 4, 1) := by decide +kernel
theorem dX7_number_1 : decode cX7_number 1 = .ok (.ireturn, 1) := by decide +kernel
theorem dX7_pulled_0 : decode cX7_pulled 0 = .ok (.iload_n 3, 1) := by decide +kernel
theorem dX7_pulled_1 : decode cX7_pulled 1 = .ok (.ifCond .eq 9, 3) := by decide +kernel
theorem dX7_pulled_4 : decode cX7_pulled 4 = .ok (.iload_n 1, 1) := by decide +kernel
theorem dX7_pulled_5 : decode cX7_pulled 5 = .ok (.iload_n 3, 1) := by decide +kernel
theorem dX7_pulled_6 : decode cX7_pulled 6 = .ok (.imul, 1) := by decide +kernel
theorem dX7_pulled_7 : decode cX7_pulled 7 = .ok (.goto 6, 3) := by decide +kernel
theorem dX7_pulled_10 : decode cX7_pulled 10 = .ok (.iload_n 1, 1) := by decide +kernel
theorem dX7_pulled_11 : decode cX7_pulled 11 = .ok (.iload_n 2, 1) := by decide +kernel
theorem dX7_pulled_12 : decode cX7_pulled 12 = .ok (.imul, 1) := by decide +kernel
theorem dX7_pulled_13 : decode cX7_pulled 13 = .ok (.ireturn, 1) := by decide +kernel
theorem dX8_init_0 : decode cX8_init 0 = .ok (.aload_n 0, 1) := by decide +kernel
theorem dX8_init_1 : decode cX8_init 1 = .ok (.invokespecial 1, 3) := by decide +kernel
theorem dX8_init_4 : decode cX8_init 4 = .ok (.aload_n 0, 1) := by decide +kernel
theorem dX8_init_5 : decode cX8_init 5 = .ok (.new 7, 3) := by decide +kernel
theorem dX8_init_8 : decode cX8_init 8 = .ok (.dup, 1) := by decide +kernel
theorem dX8_init_9 : decode cX8_init 9 = .ok (.invokespecial 9, 3) := by decide +kernel
theorem dX8_init_12 : decode cX8_init 12 = .ok (.putfield 10, 3) := by decide +kernel
theorem dX8_init_15 : decode cX8_init 15 = .ok (.aload_n 0, 1) := by decide +kernel
theorem dX8_init_16 : decode cX8_init 16 = .ok (.new 16, 3) := by decide +kernel
theorem dX8_init_19 : decode cX8_init 19 = .ok (.dup, 1) := by decide +kernel
theorem dX8_init_20 : decode cX8_init 20 = .ok (.invokespecial 18, 3) := by decide +kernel
theorem dX8_init_23 : decode cX8_init 23 = .ok (.putfield 19, 3) := by decide +kernel
theorem dX8_init_26 : decode cX8_init 26 = .ok (.aload_n 0, 1) := by decide +kernel
theorem dX8_init_27 : decode cX8_init 27 = .ok (.new 23, 3) := by decide +kernel
theorem dX8_init_30 : decode cX8_init 30 = .ok (.dup, 1) := by decide +kernel
theorem dX8_init_31 : decode cX8_init 31 = .ok (.invokespecial 25, 3) := by decide +kernel
theorem dX8_init_34 : decode cX8_init 34 = .ok (.putfield 26, 3) := by decide +kernel
theorem dX8_init_37 : decode cX8_init 37 = .ok (.aload_n 0, 1) := by decide +kernel
theorem dX8_init_38 : decode cX8_init 38 = .ok (.new 23, 3) := by decide +kernel
theorem dX8_init_41 : decode cX8_init 41 = .ok (.dup, 1) := by decide +kernel
theorem dX8_init_42 : decode cX8_init 42 = .ok (.invokespecial 25, 3) := by decide +kernel
theorem dX8_init_45 : decode cX8_init 45 = .ok (.putfield 30, 3) := by decide +kernel
theorem dX8_init_48 : decode cX8_init 48 = .ok (.aload_n 0, 1) := by decide +kernel
theorem dX8_init_49 : decode cX8_init 49 = .ok (.new 23, 3) := by decide +kernel
theorem dX8_init_52 : decode cX8_init 52 = .ok (.dup, 1) := by decide +kernel
theorem dX8_init_53 : decode cX8_init 53 = .ok (.invokespecial 25, 3) := by decide +kernel
theorem dX8_init_56 : decode cX8_init 56 = .ok (.putfield 33, 3) := by decide +kernel
theorem dX8_init_59 : decode cX8_init 59 = .ok (.aload_n 0, 1) := by decide +kernel
theorem dX8_init_60 : decode cX8_init 60 = .ok (.sipush 256, 3) := by decide +kernel
theorem dX8_init_63 : decode cX8_init 63 = .ok (.newarray .int, 2) := by decide +kernel
theorem dX8_init_65 : decode cX8_init 65 = .ok (.putfield 36, 3) := by decide +kernel
theorem dX8_init_68 : decode cX8_init 68 = .ok (.aload_n 0, 1) := by decide +kernel
theorem dX8_init_69 : decode cX8_init 69 = .ok (.bipush 9, 2) := by decide +kernel
theorem dX8_init_71 : decode cX8_init 71 = .ok (.newarray .int, 2) := by decide +kernel
theorem dX8_init_73 : decode cX8_init 73 = .ok (.putfield 40, 3) := by decide +kernel
theorem dX8_init_76 : decode cX8_init 76 = .ok (.aload_n 0, 1) := by decide +kernel
theorem dX8_init_77 : decode cX8_init 77 = .ok (.iconst 3, 1) := by decide +kernel
theorem dX8_init_78 : decode cX8_init 78 = .ok (.newarray .int, 2) := by decide +kernel
theorem dX8_init_80 : decode cX8_init 80 = .ok (.putfield 43, 3) := by decide +kernel
theorem dX8_init_83 : decode cX8_init 83 = .ok (.aload_n 0, 1) := by decide +kernel
theorem dX8_init_84 : decode cX8_init 84 = .ok (.bipush 64, 2) := by decide +kernel
theorem dX8_init_86 : decode cX8_init 86 = .ok (.newarray .long, 2) := by decide +kernel
theorem dX8_init_88 : decode cX8_init 88 = .ok (.putfield 46, 3) := by decide +kernel
theorem dX8_init_91 : decode cX8_init 91 = .ok (.return_, 1) := by decide +kernel
theorem dX8_letter_0 : decode cX8_letter 0 = .ok (.iload_n 1, 1) := by decide +kernel
theorem dX8_letter_1 : decode cX8_letter 1 = .ok (.bipush 32, 2) := by decide +kernel
theorem dX8_letter_3 : decode cX8_letter 3 = .ok (.if_icmp .lt 9, 3) := by decide +kernel
theorem dX8_letter_6 : decode cX8_letter 6 = .ok (.iload_n 1, 1) := by decide +kernel
theorem dX8_letter_7 : decode cX8_letter 7 = .ok (.bipush 126, 2) := by decide +kernel
theorem dX8_letter_9 : decode cX8_letter 9 = .ok (.if_icmp .le 6, 3) := by decide +kernel
theorem dX8_letter_12 : decode cX8_letter 12 = .ok (.bipush (-102), 2) := by decide +kernel
theorem dX8_letter_14 : decode cX8_letter 14 = .ok (.ireturn, 1) := by decide +kernel
theorem dX8_letter_15 : decode cX8_letter 15 = .ok (.aload_n 0, 1) := by decide +kernel
theorem dX8_letter_16 : decode cX8_letter 16 = .ok (.getfield 10, 3) := by decide +kernel
theorem dX8_letter_19 : decode cX8_letter 19 = .ok (.getfield 50, 3) := by decide +kernel
theorem dX8_letter_22 : decode cX8_letter 22 = .ok (.bipush 50, 2) := by decide +kernel
theorem dX8_letter_24 : decode cX8_letter 24 = .ok (.if_icmp .lt 6, 3) := by decide +kernel
theorem dX8_letter_27 : decode cX8_letter 27 = .ok (.bipush (-104), 2) := by decide +kernel
theorem dX8_letter_29 : decode cX8_letter 29 = .ok (.ireturn, 1) := by decide +kernel
theorem dX8_letter_30 : decode cX8_letter 30 = .ok (.aload_n 0, 1) := by decide +kernel
theorem dX8_letter_31 : decode cX8_letter 31 = .ok (.getfield 10, 3) := by decide +kernel
theorem dX8_letter_34 : decode cX8_letter 34 = .ok (.getfield 54, 3) := by decide +kernel
theorem dX8_letter_37 : decode cX8_letter 37 = .ok (.aload_n 0, 1) := by decide +kernel
theorem dX8_letter_38 : decode cX8_letter 38 = .ok (.getfield 10, 3) := by decide +kernel
theorem dX8_letter_41 : decode cX8_letter 41 = .ok (.getfield 50, 3) := by decide +kernel
theorem dX8_letter_44 : decode cX8_letter 44 = .ok (.iload_n 1, 1) := by decide +kernel
theorem dX8_letter_45 : decode cX8_letter 45 = .ok (.iastore, 1) := by decide +kernel
theorem dX8_letter_46 : decode cX8_letter 46 = .ok (.aload_n 0, 1) := by decide +kernel
theorem dX8_letter_47 : decode cX8_letter 47 = .ok (.getfield 10, 3) := by decide +kernel
theorem dX8_letter_50 : decode cX8_letter 50 = .ok (.dup, 1) := by decide +kernel
theorem dX8_letter_51 : decode cX8_letter 51 = .ok (.getfield 50, 3) := by decide +kernel
theorem dX8_letter_54 : decode cX8_letter 54 = .ok (.iconst 1, 1) := by decide +kernel
theorem dX8_letter_55 : decode cX8_letter 55 = .ok (.iadd, 1) := by decide +kernel
theorem dX8_letter_56 : decode cX8_letter 56 = .ok (.putfield 50, 3) := by decide +kernel
theorem dX8_letter_59 : decode cX8_letter 59 = .ok (.aload_n 0, 1) := by decide +kernel
theorem dX8_letter_60 : decode cX8_letter 60 = .ok (.getfield 10, 3) := by decide +kernel
theorem dX8_letter_63 : decode cX8_letter 63 = .ok (.getfield 50, 3) := by decide +kernel
theorem dX8_letter_66 : decode cX8_letter 66 = .ok (.ireturn, 1) := by decide +kernel
theorem dX8_blank_0 : decode cX8_blank 0 = .ok (.aload_n 0, 1) := by decide +kernel
theorem dX8_blank_1 : decode cX8_blank 1 = .ok (.getfield 10, 3) := by decide +kernel
theorem dX8_blank_4 : decode cX8_blank 4 = .ok (.getfield 50, 3) := by decide +kernel
theorem dX8_blank_7 : decode cX8_blank 7 = .ok (.istore_n 1, 1) := by decide +kernel
theorem dX8_blank_8 : decode cX8_blank 8 = .ok (.aload_n 0, 1) := by decide +kernel
theorem dX8_blank_9 : decode cX8_blank 9 = .ok (.getfield 10, 3) := by decide +kernel
theorem dX8_blank_12 : decode cX8_blank 12 = .ok (.iconst 0, 1) := by decide +kernel
theorem dX8_blank_13 : decode cX8_blank 13 = .ok (.putfield 50, 3) := by decide +kernel
theorem dX8_blank_16 : decode cX8_blank 16 = .ok (.iload_n 1, 1) := by decide +kernel
theorem dX8_blank_17 : decode cX8_blank 17 = .ok (.ireturn, 1) := by decide +kernel
theorem dX8_fault_0 : decode cX8_fault 0 = .ok (.aload_n 0, 1) := by decide +kernel
theorem dX8_fault_1 : decode cX8_fault 1 = .ok (.getfield 10, 3) := by decide +kernel
theorem dX8_fault_4 : decode cX8_fault 4 = .ok (.invokevirtual 57, 3) := by decide +kernel
theorem dX8_fault_7 : decode cX8_fault 7 = .ok (.ireturn, 1) := by decide +kernel
theorem dX8_rope_0 : decode cX8_rope 0 = .ok (.aload_n 0, 1) := by decide +kernel
theorem dX8_rope_1 : decode cX8_rope 1 = .ok (.getfield 10, 3) := by decide +kernel
theorem dX8_rope_4 : decode cX8_rope 4 = .ok (.invokevirtual 61, 3) := by decide +kernel
theorem dX8_rope_7 : decode cX8_rope 7 = .ok (.ifCond .ne 6, 3) := by decide +kernel
theorem dX8_rope_10 : decode cX8_rope 10 = .ok (.bipush (-103), 2) := by decide +kernel
theorem dX8_rope_12 : decode cX8_rope 12 = .ok (.ireturn, 1) := by decide +kernel
theorem dX8_rope_13 : decode cX8_rope 13 = .ok (.aload_n 0, 1) := by decide +kernel
theorem dX8_rope_14 : decode cX8_rope 14 = .ok (.getfield 26, 3) := by decide +kernel
theorem dX8_rope_17 : decode cX8_rope 17 = .ok (.invokevirtual 65, 3) := by decide +kernel
theorem dX8_rope_20 : decode cX8_rope 20 = .ok (.aload_n 0, 1) := by decide +kernel
theorem dX8_rope_21 : decode cX8_rope 21 = .ok (.getfield 19, 3) := by decide +kernel
theorem dX8_rope_24 : decode cX8_rope 24 = .ok (.aload_n 0, 1) := by decide +kernel
theorem dX8_rope_25 : decode cX8_rope 25 = .ok (.getfield 10, 3) := by decide +kernel
theorem dX8_rope_28 : decode cX8_rope 28 = .ok (.getfield 50, 3) := by decide +kernel
theorem dX8_rope_31 : decode cX8_rope 31 = .ok (.iconst 1, 1) := by decide +kernel
theorem dX8_rope_32 : decode cX8_rope 32 = .ok (.iadd, 1) := by decide +kernel
theorem dX8_rope_33 : decode cX8_rope 33 = .ok (.bipush 6, 2) := by decide +kernel
theorem dX8_rope_35 : decode cX8_rope 35 = .ok (.idiv, 1) := by decide +kernel
theorem dX8_rope_36 : decode cX8_rope 36 = .ok (.putfield 68, 3) := by decide +kernel
theorem dX8_rope_39 : decode cX8_rope 39 = .ok (.iconst 0, 1) := by decide +kernel
theorem dX8_rope_40 : decode cX8_rope 40 = .ok (.istore_n 1, 1) := by decide +kernel
theorem dX8_rope_41 : decode cX8_rope 41 = .ok (.iload_n 1, 1) := by decide +kernel
theorem dX8_rope_42 : decode cX8_rope 42 = .ok (.aload_n 0, 1) := by decide +kernel
theorem dX8_rope_43 : decode cX8_rope 43 = .ok (.getfield 19, 3) := by decide +kernel
theorem dX8_rope_46 : decode cX8_rope 46 = .ok (.getfield 68, 3) := by decide +kernel
theorem dX8_rope_49 : decode cX8_rope 49 = .ok (.if_icmp .ge 75, 3) := by decide +kernel
theorem dX8_rope_52 : decode cX8_rope 52 = .ok (.aload_n 0, 1) := by decide +kernel
theorem dX8_rope_53 : decode cX8_rope 53 = .ok (.getfield 19, 3) := by decide +kernel
theorem dX8_rope_56 : decode cX8_rope 56 = .ok (.iload_n 1, 1) := by decide +kernel
theorem dX8_rope_57 : decode cX8_rope 57 = .ok (.aload_n 0, 1) := by decide +kernel
theorem dX8_rope_58 : decode cX8_rope 58 = .ok (.getfield 10, 3) := by decide +kernel
theorem dX8_rope_61 : decode cX8_rope 61 = .ok (.iload_n 1, 1) := by decide +kernel
theorem dX8_rope_62 : decode cX8_rope 62 = .ok (.invokevirtual 71, 3) := by decide +kernel
theorem dX8_rope_65 : decode cX8_rope 65 = .ok (.invokevirtual 75, 3) := by decide +kernel
theorem dX8_rope_68 : decode cX8_rope 68 = .ok (.aload_n 0, 1) := by decide +kernel
theorem dX8_rope_69 : decode cX8_rope 69 = .ok (.getfield 26, 3) := by decide +kernel
theorem dX8_rope_72 : decode cX8_rope 72 = .ok (.getfield 79, 3) := by decide +kernel
theorem dX8_rope_75 : decode cX8_rope 75 = .ok (.iload_n 1, 1) := by decide +kernel
theorem dX8_rope_76 : decode cX8_rope 76 = .ok (.aload_n 0, 1) := by decide +kernel
theorem dX8_rope_77 : decode cX8_rope 77 = .ok (.getfield 10, 3) := by decide +kernel
theorem dX8_rope_80 : decode cX8_rope 80 = .ok (.iload_n 1, 1) := by decide +kernel
theorem dX8_rope_81 : decode cX8_rope 81 = .ok (.invokevirtual 82, 3) := by decide +kernel
theorem dX8_rope_84 : decode cX8_rope 84 = .ok (.iastore, 1) := by decide +kernel
theorem dX8_rope_85 : decode cX8_rope 85 = .ok (.iconst 0, 1) := by decide +kernel
theorem dX8_rope_86 : decode cX8_rope 86 = .ok (.istore_n 2, 1) := by decide +kernel
theorem dX8_rope_87 : decode cX8_rope 87 = .ok (.iload_n 2, 1) := by decide +kernel
theorem dX8_rope_88 : decode cX8_rope 88 = .ok (.iconst 3, 1) := by decide +kernel
theorem dX8_rope_89 : decode cX8_rope 89 = .ok (.if_icmp .ge 29, 3) := by decide +kernel
theorem dX8_rope_92 : decode cX8_rope 92 = .ok (.aload_n 0, 1) := by decide +kernel
theorem dX8_rope_93 : decode cX8_rope 93 = .ok (.getfield 26, 3) := by decide +kernel
theorem dX8_rope_96 : decode cX8_rope 96 = .ok (.getfield 85, 3) := by decide +kernel
theorem dX8_rope_99 : decode cX8_rope 99 = .ok (.iload_n 2, 1) := by decide +kernel
theorem dX8_rope_100 : decode cX8_rope 100 = .ok (.aaload, 1) := by decide +kernel
theorem dX8_rope_101 : decode cX8_rope 101 = .ok (.iload_n 1, 1) := by decide +kernel
theorem dX8_rope_102 : decode cX8_rope 102 = .ok (.aload_n 0, 1) := by decide +kernel
theorem dX8_rope_103 : decode cX8_rope 103 = .ok (.getfield 10, 3) := by decide +kernel
theorem dX8_rope_106 : decode cX8_rope 106 = .ok (.iload_n 1, 1) := by decide +kernel
theorem dX8_rope_107 : decode cX8_rope 107 = .ok (.iload_n 2, 1) := by decide +kernel
theorem dX8_rope_108 : decode cX8_rope 108 = .ok (.invokevirtual 89, 3) := by decide +kernel
theorem dX8_rope_111 : decode cX8_rope 111 = .ok (.iastore, 1) := by decide +kernel
theorem dX8_rope_112 : decode cX8_rope 112 = .ok (.iinc 2 1, 3) := by decide +kernel
theorem dX8_rope_115 : decode cX8_rope 115 = .ok (.goto (-28), 3) := by decide +kernel
theorem dX8_rope_118 : decode cX8_rope 118 = .ok (.iinc 1 1, 3) := by decide +kernel
theorem dX8_rope_121 : decode cX8_rope 121 = .ok (.goto (-80), 3) := by decide +kernel
theorem dX8_rope_124 : decode cX8_rope 124 = .ok (.aload_n 0, 1) := by decide +kernel
theorem dX8_rope_125 : decode cX8_rope 125 = .ok (.getfield 10, 3) := by decide +kernel
theorem dX8_rope_128 : decode cX8_rope 128 = .ok (.iconst 0, 1) := by decide +kernel
theorem dX8_rope_129 : decode cX8_rope 129 = .ok (.putfield 50, 3) := by decide +kernel
theorem dX8_rope_132 : decode cX8_rope 132 = .ok (.aload_n 0, 1) := by decide +kernel
theorem dX8_rope_133 : decode cX8_rope 133 = .ok (.iconst 0, 1) := by decide +kernel
theorem dX8_rope_134 : decode cX8_rope 134 = .ok (.putfield 93, 3) := by decide +kernel
theorem dX8_rope_137 : decode cX8_rope 137 = .ok (.aload_n 0, 1) := by decide +kernel
theorem dX8_rope_138 : decode cX8_rope 138 = .ok (.dup, 1) := by decide +kernel
theorem dX8_rope_139 : decode cX8_rope 139 = .ok (.getfield 97, 3) := by decide +kernel
theorem dX8_rope_142 : decode cX8_rope 142 = .ok (.iconst 1, 1) := by decide +kernel
theorem dX8_rope_143 : decode cX8_rope 143 = .ok (.iadd, 1) := by decide +kernel
theorem dX8_rope_144 : decode cX8_rope 144 = .ok (.putfield 97, 3) := by decide +kernel
theorem dX8_rope_147 : decode cX8_rope 147 = .ok (.aload_n 0, 1) := by decide +kernel
theorem dX8_rope_148 : decode cX8_rope 148 = .ok (.getfield 19, 3) := by decide +kernel
theorem dX8_rope_151 : decode cX8_rope 151 = .ok (.getfield 68, 3) := by decide +kernel
theorem dX8_rope_154 : decode cX8_rope 154 = .ok (.ireturn, 1) := by decide +kernel
theorem dX8_mussel_0 : decode cX8_mussel 0 = .ok (.aload_n 0, 1) := by decide +kernel
theorem dX8_mussel_1 : decode cX8_mussel 1 = .ok (.getfield 19, 3) := by decide +kernel
theorem dX8_mussel_4 : decode cX8_mussel 4 = .ok (.iload_n 1, 1) := by decide +kernel
theorem dX8_mussel_5 : decode cX8_mussel 5 = .ok (.invokevirtual 100, 3) := by decide +kernel
theorem dX8_mussel_8 : decode cX8_mussel 8 = .ok (.ifCond .ne 6, 3) := by decide +kernel
theorem dX8_mussel_11 : decode cX8_mussel 11 = .ok (.bipush (-101), 2) := by decide +kernel
theorem dX8_mussel_13 : decode cX8_mussel 13 = .ok (.ireturn, 1) := by decide +kernel
theorem dX8_mussel_14 : decode cX8_mussel 14 = .ok (.iload_n 2, 1) := by decide +kernel
theorem dX8_mussel_15 : decode cX8_mussel 15 = .ok (.bipush 10, 2) := by decide +kernel
theorem dX8_mussel_17 : decode cX8_mussel 17 = .ok (.if_icmp .lt 29, 3) := by decide +kernel
theorem dX8_mussel_20 : decode cX8_mussel 20 = .ok (.iload_n 2, 1) := by decide +kernel
theorem dX8_mussel_21 : decode cX8_mussel 21 = .ok (.bipush 13, 2) := by decide +kernel
theorem dX8_mussel_23 : decode cX8_mussel 23 = .ok (.if_icmp .ge 23, 3) := by decide +kernel
theorem dX8_mussel_26 : decode cX8_mussel 26 = .ok (.bipush 100, 2) := by decide +kernel
theorem dX8_mussel_28 : decode cX8_mussel 28 = .ok (.aload_n 0, 1) := by decide +kernel
theorem dX8_mussel_29 : decode cX8_mussel 29 = .ok (.getfield 19, 3) := by decide +kernel
theorem dX8_mussel_32 : decode cX8_mussel 32 = .ok (.aload_n 0, 1) := by decide +kernel
theorem dX8_mussel_33 : decode cX8_mussel 33 = .ok (.getfield 26, 3) := by decide +kernel
theorem dX8_mussel_36 : decode cX8_mussel 36 = .ok (.iload_n 1, 1) := by decide +kernel
theorem dX8_mussel_37 : decode cX8_mussel 37 = .ok (.iload_n 2, 1) := by decide +kernel
theorem dX8_mussel_38 : decode cX8_mussel 38 = .ok (.bipush 10, 2) := by decide +kernel
theorem dX8_mussel_40 : decode cX8_mussel 40 = .ok (.isub, 1) := by decide +kernel
theorem dX8_mussel_41 : decode cX8_mussel 41 = .ok (.invokevirtual 104, 3) := by decide +kernel
theorem dX8_mussel_44 : decode cX8_mussel 44 = .ok (.iadd, 1) := by decide +kernel
theorem dX8_mussel_45 : decode cX8_mussel 45 = .ok (.ireturn, 1) := by decide +kernel
theorem dX8_mussel_46 : decode cX8_mussel 46 = .ok (.iload_n 2, 1) := by decide +kernel
theorem dX8_mussel_47 : decode cX8_mussel 47 = .ok (.bipush 20, 2) := by decide +kernel
theorem dX8_mussel_49 : decode cX8_mussel 49 = .ok (.if_icmp .lt 19, 3) := by decide +kernel
theorem dX8_mussel_52 : decode cX8_mussel 52 = .ok (.iload_n 2, 1) := by decide +kernel
theorem dX8_mussel_53 : decode cX8_mussel 53 = .ok (.bipush 23, 2) := by decide +kernel
theorem dX8_mussel_55 : decode cX8_mussel 55 = .ok (.if_icmp .ge 13, 3) := by decide +kernel
theorem dX8_mussel_58 : decode cX8_mussel 58 = .ok (.aload_n 0, 1) := by decide +kernel
theorem dX8_mussel_59 : decode cX8_mussel 59 = .ok (.iload_n 1, 1) := by decide +kernel
theorem dX8_mussel_60 : decode cX8_mussel 60 = .ok (.iload_n 2, 1) := by decide +kernel
theorem dX8_mussel_61 : decode cX8_mussel 61 = .ok (.bipush 20, 2) := by decide +kernel
theorem dX8_mussel_63 : decode cX8_mussel 63 = .ok (.isub, 1) := by decide +kernel
theorem dX8_mussel_64 : decode cX8_mussel 64 = .ok (.invokevirtual 108, 3) := by decide +kernel
theorem dX8_mussel_67 : decode cX8_mussel 67 = .ok (.ireturn, 1) := by decide +kernel
theorem dX8_mussel_68 : decode cX8_mussel 68 = .ok (.iload_n 2, 1) := by decide +kernel
theorem dX8_mussel_69 : decode cX8_mussel 69 = .ok (.tableswitch 122 0 7 #[47, 59, 69, 69, 69, 83, 104, 116], 47) := by decide +kernel
theorem dX8_mussel_116 : decode cX8_mussel 116 = .ok (.aload_n 0, 1) := by decide +kernel
theorem dX8_mussel_117 : decode cX8_mussel 117 = .ok (.getfield 19, 3) := by decide +kernel
theorem dX8_mussel_120 : decode cX8_mussel 120 = .ok (.iload_n 1, 1) := by decide +kernel
theorem dX8_mussel_121 : decode cX8_mussel 121 = .ok (.invokevirtual 111, 3) := by decide +kernel
theorem dX8_mussel_124 : decode cX8_mussel 124 = .ok (.invokevirtual 115, 3) := by decide +kernel
theorem dX8_mussel_127 : decode cX8_mussel 127 = .ok (.ireturn, 1) := by decide +kernel
theorem dX8_mussel_128 : decode cX8_mussel 128 = .ok (.aload_n 0, 1) := by decide +kernel
theorem dX8_mussel_129 : decode cX8_mussel 129 = .ok (.getfield 26, 3) := by decide +kernel
theorem dX8_mussel_132 : decode cX8_mussel 132 = .ok (.getfield 79, 3) := by decide +kernel
theorem dX8_mussel_135 : decode cX8_mussel 135 = .ok (.iload_n 1, 1) := by decide +kernel
theorem dX8_mussel_136 : decode cX8_mussel 136 = .ok (.iaload, 1) := by decide +kernel
theorem dX8_mussel_137 : decode cX8_mussel 137 = .ok (.ireturn, 1) := by decide +kernel
theorem dX8_mussel_138 : decode cX8_mussel 138 = .ok (.aload_n 0, 1) := by decide +kernel
theorem dX8_mussel_139 : decode cX8_mussel 139 = .ok (.getfield 26, 3) := by decide +kernel
theorem dX8_mussel_142 : decode cX8_mussel 142 = .ok (.getfield 85, 3) := by decide +kernel
theorem dX8_mussel_145 : decode cX8_mussel 145 = .ok (.iload_n 2, 1) := by decide +kernel
theorem dX8_mussel_146 : decode cX8_mussel 146 = .ok (.iconst 2, 1) := by decide +kernel
theorem dX8_mussel_147 : decode cX8_mussel 147 = .ok (.isub, 1) := by decide +kernel
theorem dX8_mussel_148 : decode cX8_mussel 148 = .ok (.aaload, 1) := by decide +kernel
theorem dX8_mussel_149 : decode cX8_mussel 149 = .ok (.iload_n 1, 1) := by decide +kernel
theorem dX8_mussel_150 : decode cX8_mussel 150 = .ok (.iaload, 1) := by decide +kernel
theorem dX8_mussel_151 : decode cX8_mussel 151 = .ok (.ireturn, 1) := by decide +kernel
theorem dX8_mussel_152 : decode cX8_mussel 152 = .ok (.iload_n 1, 1) := by decide +kernel
theorem dX8_mussel_153 : decode cX8_mussel 153 = .ok (.aload_n 0, 1) := by decide +kernel
theorem dX8_mussel_154 : decode cX8_mussel 154 = .ok (.getfield 19, 3) := by decide +kernel
theorem dX8_mussel_157 : decode cX8_mussel 157 = .ok (.aload_n 0, 1) := by decide +kernel
theorem dX8_mussel_158 : decode cX8_mussel 158 = .ok (.getfield 26, 3) := by decide +kernel
theorem dX8_mussel_161 : decode cX8_mussel 161 = .ok (.invokevirtual 120, 3) := by decide +kernel
theorem dX8_mussel_164 : decode cX8_mussel 164 = .ok (.if_icmp .ge 7, 3) := by decide +kernel
theorem dX8_mussel_167 : decode cX8_mussel 167 = .ok (.iconst 1, 1) := by decide +kernel
theorem dX8_mussel_168 : decode cX8_mussel 168 = .ok (.goto 4, 3) := by decide +kernel
theorem dX8_mussel_171 : decode cX8_mussel 171 = .ok (.iconst 0, 1) := by decide +kernel
theorem dX8_mussel_172 : decode cX8_mussel 172 = .ok (.ireturn, 1) := by decide +kernel
theorem dX8_mussel_173 : decode cX8_mussel 173 = .ok (.iconst 1, 1) := by decide +kernel
theorem dX8_mussel_174 : decode cX8_mussel 174 = .ok (.aload_n 0, 1) := by decide +kernel
theorem dX8_mussel_175 : decode cX8_mussel 175 = .ok (.getfield 26, 3) := by decide +kernel
theorem dX8_mussel_178 : decode cX8_mussel 178 = .ok (.getfield 124, 3) := by decide +kernel
theorem dX8_mussel_181 : decode cX8_mussel 181 = .ok (.iload_n 1, 1) := by decide +kernel
theorem dX8_mussel_182 : decode cX8_mussel 182 = .ok (.iaload, 1) := by decide +kernel
theorem dX8_mussel_183 : decode cX8_mussel 183 = .ok (.isub, 1) := by decide +kernel
theorem dX8_mussel_184 : decode cX8_mussel 184 = .ok (.ireturn, 1) := by decide +kernel
theorem dX8_mussel_185 : decode cX8_mussel 185 = .ok (.aload_n 0, 1) := by decide +kernel
theorem dX8_mussel_186 : decode cX8_mussel 186 = .ok (.iload_n 1, 1) := by decide +kernel
theorem dX8_mussel_187 : decode cX8_mussel 187 = .ok (.invokevirtual 127, 3) := by decide +kernel
theorem dX8_mussel_190 : decode cX8_mussel 190 = .ok (.ireturn, 1) := by decide +kernel
theorem dX8_mussel_191 : decode cX8_mussel 191 = .ok (.bipush (-102), 2) := by decide +kernel
theorem dX8_mussel_193 : decode cX8_mussel 193 = .ok (.ireturn, 1) := by decide +kernel
theorem dX8_as_0 : decode cX8_as 0 = .ok (.aload_n 0, 1) := by decide +kernel
theorem dX8_as_1 : decode cX8_as 1 = .ok (.getfield 19, 3) := by decide +kernel
theorem dX8_as_4 : decode cX8_as 4 = .ok (.iload_n 1, 1) := by decide +kernel
theorem dX8_as_5 : decode cX8_as 5 = .ok (.invokevirtual 100, 3) := by decide +kernel
theorem dX8_as_8 : decode cX8_as 8 = .ok (.ifCond .ne 6, 3) := by decide +kernel
theorem dX8_as_11 : decode cX8_as 11 = .ok (.bipush (-101), 2) := by decide +kernel
theorem dX8_as_13 : decode cX8_as 13 = .ok (.ireturn, 1) := by decide +kernel
theorem dX8_as_14 : decode cX8_as 14 = .ok (.iload_n 2, 1) := by decide +kernel
theorem dX8_as_15 : decode cX8_as 15 = .ok (.ifCond .lt 12, 3) := by decide +kernel
theorem dX8_as_18 : decode cX8_as 18 = .ok (.iload_n 2, 1) := by decide +kernel
theorem dX8_as_19 : decode cX8_as 19 = .ok (.ldc 130, 2) := by decide +kernel
theorem dX8_as_21 : decode cX8_as 21 = .ok (.invokevirtual 132, 3) := by decide +kernel
theorem dX8_as_24 : decode cX8_as 24 = .ok (.if_icmp .lt 6, 3) := by decide +kernel
theorem dX8_as_27 : decode cX8_as 27 = .ok (.bipush (-102), 2) := by decide +kernel
theorem dX8_as_29 : decode cX8_as 29 = .ok (.ireturn, 1) := by decide +kernel
theorem dX8_as_30 : decode cX8_as 30 = .ok (.aload_n 0, 1) := by decide +kernel
theorem dX8_as_31 : decode cX8_as 31 = .ok (.getfield 19, 3) := by decide +kernel
theorem dX8_as_34 : decode cX8_as 34 = .ok (.iload_n 1, 1) := by decide +kernel
theorem dX8_as_35 : decode cX8_as 35 = .ok (.invokevirtual 111, 3) := by decide +kernel
theorem dX8_as_38 : decode cX8_as 38 = .ok (.iload_n 2, 1) := by decide +kernel
theorem dX8_as_39 : decode cX8_as 39 = .ok (.invokestatic 136, 3) := by decide +kernel
theorem dX8_as_42 : decode cX8_as 42 = .ok (.ifCond .eq 7, 3) := by decide +kernel
theorem dX8_as_45 : decode cX8_as 45 = .ok (.iload_n 1, 1) := by decide +kernel
theorem dX8_as_46 : decode cX8_as 46 = .ok (.goto 4, 3) := by decide +kernel
theorem dX8_as_49 : decode cX8_as 49 = .ok (.iconst (-1), 1) := by decide +kernel
theorem dX8_as_50 : decode cX8_as 50 = .ok (.ireturn, 1) := by decide +kernel
theorem dX8_question_0 : decode cX8_question 0 = .ok (.aload_n 0, 1) := by decide +kernel
theorem dX8_question_1 : decode cX8_question 1 = .ok (.iload_n 1, 1) := by decide +kernel
theorem dX8_question_2 : decode cX8_question 2 = .ok (.invokevirtual 140, 3) := by decide +kernel
theorem dX8_question_5 : decode cX8_question 5 = .ok (.ifCond .ne 6, 3) := by decide +kernel
theorem dX8_question_8 : decode cX8_question 8 = .ok (.bipush (-101), 2) := by decide +kernel
theorem dX8_question_10 : decode cX8_question 10 = .ok (.ireturn, 1) := by decide +kernel
theorem dX8_question_11 : decode cX8_question 11 = .ok (.iload_n 2, 1) := by decide +kernel
theorem dX8_question_12 : decode cX8_question 12 = .ok (.tableswitch 107 0 5 #[40, 57, 73, 83, 93, 100], 40) := by decide +kernel
theorem dX8_question_52 : decode cX8_question 52 = .ok (.sipush 200, 3) := by decide +kernel
theorem dX8_question_55 : decode cX8_question 55 = .ok (.aload_n 0, 1) := by decide +kernel
theorem dX8_question_56 : decode cX8_question 56 = .ok (.getfield 19, 3) := by decide +kernel
theorem dX8_question_59 : decode cX8_question 59 = .ok (.aload_n 0, 1) := by decide +kernel
theorem dX8_question_60 : decode cX8_question 60 = .ok (.getfield 26, 3) := by decide +kernel
theorem dX8_question_63 : decode cX8_question 63 = .ok (.iload_n 1, 1) := by decide +kernel
theorem dX8_question_64 : decode cX8_question 64 = .ok (.invokevirtual 143, 3) := by decide +kernel
theorem dX8_question_67 : decode cX8_question 67 = .ok (.iadd, 1) := by decide +kernel
theorem dX8_question_68 : decode cX8_question 68 = .ok (.ireturn, 1) := by decide +kernel
theorem dX8_question_69 : decode cX8_question 69 = .ok (.aload_n 0, 1) := by decide +kernel
theorem dX8_question_70 : decode cX8_question 70 = .ok (.getfield 19, 3) := by decide +kernel
theorem dX8_question_73 : decode cX8_question 73 = .ok (.aload_n 0, 1) := by decide +kernel
theorem dX8_question_74 : decode cX8_question 74 = .ok (.getfield 26, 3) := by decide +kernel
theorem dX8_question_77 : decode cX8_question 77 = .ok (.iload_n 1, 1) := by decide +kernel
theorem dX8_question_78 : decode cX8_question 78 = .ok (.invokevirtual 143, 3) := by decide +kernel
theorem dX8_question_81 : decode cX8_question 81 = .ok (.invokestatic 147, 3) := by decide +kernel
theorem dX8_question_84 : decode cX8_question 84 = .ok (.ireturn, 1) := by decide +kernel
theorem dX8_question_85 : decode cX8_question 85 = .ok (.aload_n 0, 1) := by decide +kernel
theorem dX8_question_86 : decode cX8_question 86 = .ok (.getfield 26, 3) := by decide +kernel
theorem dX8_question_89 : decode cX8_question 89 = .ok (.getfield 150, 3) := by decide +kernel
theorem dX8_question_92 : decode cX8_question 92 = .ok (.iload_n 1, 1) := by decide +kernel
theorem dX8_question_93 : decode cX8_question 93 = .ok (.iaload, 1) := by decide +kernel
theorem dX8_question_94 : decode cX8_question 94 = .ok (.ireturn, 1) := by decide +kernel
theorem dX8_question_95 : decode cX8_question 95 = .ok (.aload_n 0, 1) := by decide +kernel
theorem dX8_question_96 : decode cX8_question 96 = .ok (.getfield 26, 3) := by decide +kernel
theorem dX8_question_99 : decode cX8_question 99 = .ok (.getfield 153, 3) := by decide +kernel
theorem dX8_question_102 : decode cX8_question 102 = .ok (.iload_n 1, 1) := by decide +kernel
theorem dX8_question_103 : decode cX8_question 103 = .ok (.iaload, 1) := by decide +kernel
theorem dX8_question_104 : decode cX8_question 104 = .ok (.ireturn, 1) := by decide +kernel
theorem dX8_question_105 : decode cX8_question 105 = .ok (.aload_n 0, 1) := by decide +kernel
theorem dX8_question_106 : decode cX8_question 106 = .ok (.iload_n 1, 1) := by decide +kernel
theorem dX8_question_107 : decode cX8_question 107 = .ok (.iconst 1, 1) := by decide +kernel
theorem dX8_question_108 : decode cX8_question 108 = .ok (.invokevirtual 156, 3) := by decide +kernel
theorem dX8_question_111 : decode cX8_question 111 = .ok (.ireturn, 1) := by decide +kernel
theorem dX8_question_112 : decode cX8_question 112 = .ok (.aload_n 0, 1) := by decide +kernel
theorem dX8_question_113 : decode cX8_question 113 = .ok (.iload_n 1, 1) := by decide +kernel
theorem dX8_question_114 : decode cX8_question 114 = .ok (.iconst (-1), 1) := by decide +kernel
theorem dX8_question_115 : decode cX8_question 115 = .ok (.invokevirtual 156, 3) := by decide +kernel
theorem dX8_question_118 : decode cX8_question 118 = .ok (.ireturn, 1) := by decide +kernel
theorem dX8_question_119 : decode cX8_question 119 = .ok (.bipush (-102), 2) := by decide +kernel
theorem dX8_question_121 : decode cX8_question 121 = .ok (.ireturn, 1) := by decide +kernel
theorem dX8_ask_0 : decode cX8_ask 0 = .ok (.aload_n 0, 1) := by decide +kernel
theorem dX8_ask_1 : decode cX8_ask 1 = .ok (.iload_n 1, 1) := by decide +kernel
theorem dX8_ask_2 : decode cX8_ask 2 = .ok (.invokevirtual 140, 3) := by decide +kernel
theorem dX8_ask_5 : decode cX8_ask 5 = .ok (.ifCond .ne 6, 3) := by decide +kernel
theorem dX8_ask_8 : decode cX8_ask 8 = .ok (.bipush (-101), 2) := by decide +kernel
theorem dX8_ask_10 : decode cX8_ask 10 = .ok (.ireturn, 1) := by decide +kernel
theorem dX8_ask_11 : decode cX8_ask 11 = .ok (.aload_n 0, 1) := by decide +kernel
theorem dX8_ask_12 : decode cX8_ask 12 = .ok (.getfield 26, 3) := by decide +kernel
theorem dX8_ask_15 : decode cX8_ask 15 = .ok (.getfield 150, 3) := by decide +kernel
theorem dX8_ask_18 : decode cX8_ask 18 = .ok (.iload_n 1, 1) := by decide +kernel
theorem dX8_ask_19 : decode cX8_ask 19 = .ok (.iaload, 1) := by decide +kernel
theorem dX8_ask_20 : decode cX8_ask 20 = .ok (.bipush 99, 2) := by decide +kernel
theorem dX8_ask_22 : decode cX8_ask 22 = .ok (.if_icmp .lt 6, 3) := by decide +kernel
theorem dX8_ask_25 : decode cX8_ask 25 = .ok (.bipush (-104), 2) := by decide +kernel
theorem dX8_ask_27 : decode cX8_ask 27 = .ok (.ireturn, 1) := by decide +kernel
theorem dX8_ask_28 : decode cX8_ask 28 = .ok (.aload_n 0, 1) := by decide +kernel
theorem dX8_ask_29 : decode cX8_ask 29 = .ok (.getfield 19, 3) := by decide +kernel
theorem dX8_ask_32 : decode cX8_ask 32 = .ok (.aload_n 0, 1) := by decide +kernel
theorem dX8_ask_33 : decode cX8_ask 33 = .ok (.getfield 26, 3) := by decide +kernel
theorem dX8_ask_36 : decode cX8_ask 36 = .ok (.iload_n 1, 1) := by decide +kernel
theorem dX8_ask_37 : decode cX8_ask 37 = .ok (.invokevirtual 143, 3) := by decide +kernel
theorem dX8_ask_40 : decode cX8_ask 40 = .ok (.invokestatic 147, 3) := by decide +kernel
theorem dX8_ask_43 : decode cX8_ask 43 = .ok (.istore_n 2, 1) := by decide +kernel
theorem dX8_ask_44 : decode cX8_ask 44 = .ok (.aload_n 0, 1) := by decide +kernel
theorem dX8_ask_45 : decode cX8_ask 45 = .ok (.getfield 26, 3) := by decide +kernel
theorem dX8_ask_48 : decode cX8_ask 48 = .ok (.getfield 150, 3) := by decide +kernel
theorem dX8_ask_51 : decode cX8_ask 51 = .ok (.iload_n 1, 1) := by decide +kernel
theorem dX8_ask_52 : decode cX8_ask 52 = .ok (.dup2, 1) := by decide +kernel
theorem dX8_ask_53 : decode cX8_ask 53 = .ok (.iaload, 1) := by decide +kernel
theorem dX8_ask_54 : decode cX8_ask 54 = .ok (.iconst 1, 1) := by decide +kernel
theorem dX8_ask_55 : decode cX8_ask 55 = .ok (.iadd, 1) := by decide +kernel
theorem dX8_ask_56 : decode cX8_ask 56 = .ok (.iastore, 1) := by decide +kernel
theorem dX8_ask_57 : decode cX8_ask 57 = .ok (.iload_n 2, 1) := by decide +kernel
theorem dX8_ask_58 : decode cX8_ask 58 = .ok (.ifCond .le 16, 3) := by decide +kernel
theorem dX8_ask_61 : decode cX8_ask 61 = .ok (.aload_n 0, 1) := by decide +kernel
theorem dX8_ask_62 : decode cX8_ask 62 = .ok (.getfield 26, 3) := by decide +kernel
theorem dX8_ask_65 : decode cX8_ask 65 = .ok (.getfield 153, 3) := by decide +kernel
theorem dX8_ask_68 : decode cX8_ask 68 = .ok (.iload_n 1, 1) := by decide +kernel
theorem dX8_ask_69 : decode cX8_ask 69 = .ok (.dup2, 1) := by decide +kernel
theorem dX8_ask_70 : decode cX8_ask 70 = .ok (.iaload, 1) := by decide +kernel
theorem dX8_ask_71 : decode cX8_ask 71 = .ok (.iconst 1, 1) := by decide +kernel
theorem dX8_ask_72 : decode cX8_ask 72 = .ok (.iadd, 1) := by decide +kernel
theorem dX8_ask_73 : decode cX8_ask 73 = .ok (.iastore, 1) := by decide +kernel
theorem dX8_ask_74 : decode cX8_ask 74 = .ok (.iload_n 2, 1) := by decide +kernel
theorem dX8_ask_75 : decode cX8_ask 75 = .ok (.ifCond .ge 7, 3) := by decide +kernel
theorem dX8_ask_78 : decode cX8_ask 78 = .ok (.iconst 2, 1) := by decide +kernel
theorem dX8_ask_79 : decode cX8_ask 79 = .ok (.goto 4, 3) := by decide +kernel
theorem dX8_ask_82 : decode cX8_ask 82 = .ok (.iload_n 2, 1) := by decide +kernel
theorem dX8_ask_83 : decode cX8_ask 83 = .ok (.ireturn, 1) := by decide +kernel
theorem dX8_tide_0 : decode cX8_tide 0 = .ok (.aload_n 0, 1) := by decide +kernel
theorem dX8_tide_1 : decode cX8_tide 1 = .ok (.getfield 19, 3) := by decide +kernel
theorem dX8_tide_4 : decode cX8_tide 4 = .ok (.getfield 68, 3) := by decide +kernel
theorem dX8_tide_7 : decode cX8_tide 7 = .ok (.ifCond .ne 6, 3) := by decide +kernel
theorem dX8_tide_10 : decode cX8_tide 10 = .ok (.bipush (-103), 2) := by decide +kernel
theorem dX8_tide_12 : decode cX8_tide 12 = .ok (.ireturn, 1) := by decide +kernel
theorem dX8_tide_13 : decode cX8_tide 13 = .ok (.aload_n 0, 1) := by decide +kernel
theorem dX8_tide_14 : decode cX8_tide 14 = .ok (.getfield 26, 3) := by decide +kernel
theorem dX8_tide_17 : decode cX8_tide 17 = .ok (.getfield 159, 3) := by decide +kernel
theorem dX8_tide_20 : decode cX8_tide 20 = .ok (.sipush 999, 3) := by decide +kernel
theorem dX8_tide_23 : decode cX8_tide 23 = .ok (.if_icmp .lt 6, 3) := by decide +kernel
theorem dX8_tide_26 : decode cX8_tide 26 = .ok (.bipush (-104), 2) := by decide +kernel
theorem dX8_tide_28 : decode cX8_tide 28 = .ok (.ireturn, 1) := by decide +kernel
theorem dX8_tide_29 : decode cX8_tide 29 = .ok (.aload_n 0, 1) := by decide +kernel
theorem dX8_tide_30 : decode cX8_tide 30 = .ok (.getfield 19, 3) := by decide +kernel
theorem dX8_tide_33 : decode cX8_tide 33 = .ok (.aload_n 0, 1) := by decide +kernel
theorem dX8_tide_34 : decode cX8_tide 34 = .ok (.getfield 26, 3) := by decide +kernel
theorem dX8_tide_37 : decode cX8_tide 37 = .ok (.invokevirtual 162, 3) := by decide +kernel
theorem dX8_tide_40 : decode cX8_tide 40 = .ok (.aload_n 0, 1) := by decide +kernel
theorem dX8_tide_41 : decode cX8_tide 41 = .ok (.getfield 26, 3) := by decide +kernel
theorem dX8_tide_44 : decode cX8_tide 44 = .ok (.dup, 1) := by decide +kernel
theorem dX8_tide_45 : decode cX8_tide 45 = .ok (.getfield 159, 3) := by decide +kernel
theorem dX8_tide_48 : decode cX8_tide 48 = .ok (.iconst 1, 1) := by decide +kernel
theorem dX8_tide_49 : decode cX8_tide 49 = .ok (.iadd, 1) := by decide +kernel
theorem dX8_tide_50 : decode cX8_tide 50 = .ok (.putfield 159, 3) := by decide +kernel
theorem dX8_tide_53 : decode cX8_tide 53 = .ok (.aload_n 0, 1) := by decide +kernel
theorem dX8_tide_54 : decode cX8_tide 54 = .ok (.getfield 26, 3) := by decide +kernel
theorem dX8_tide_57 : decode cX8_tide 57 = .ok (.getfield 159, 3) := by decide +kernel
theorem dX8_tide_60 : decode cX8_tide 60 = .ok (.ireturn, 1) := by decide +kernel
theorem dX8_cut_0 : decode cX8_cut 0 = .ok (.aload_n 0, 1) := by decide +kernel
theorem dX8_cut_1 : decode cX8_cut 1 = .ok (.getfield 19, 3) := by decide +kernel
theorem dX8_cut_4 : decode cX8_cut 4 = .ok (.iload_n 1, 1) := by decide +kernel
theorem dX8_cut_5 : decode cX8_cut 5 = .ok (.invokevirtual 100, 3) := by decide +kernel
theorem dX8_cut_8 : decode cX8_cut 8 = .ok (.ifCond .ne 6, 3) := by decide +kernel
theorem dX8_cut_11 : decode cX8_cut 11 = .ok (.bipush (-101), 2) := by decide +kernel
theorem dX8_cut_13 : decode cX8_cut 13 = .ok (.ireturn, 1) := by decide +kernel
theorem dX8_cut_14 : decode cX8_cut 14 = .ok (.aload_n 0, 1) := by decide +kernel
theorem dX8_cut_15 : decode cX8_cut 15 = .ok (.getfield 26, 3) := by decide +kernel
theorem dX8_cut_18 : decode cX8_cut 18 = .ok (.getfield 124, 3) := by decide +kernel
theorem dX8_cut_21 : decode cX8_cut 21 = .ok (.iload_n 1, 1) := by decide +kernel
theorem dX8_cut_22 : decode cX8_cut 22 = .ok (.iaload, 1) := by decide +kernel
theorem dX8_cut_23 : decode cX8_cut 23 = .ok (.iconst 1, 1) := by decide +kernel
theorem dX8_cut_24 : decode cX8_cut 24 = .ok (.if_icmp .ne 6, 3) := by decide +kernel
theorem dX8_cut_27 : decode cX8_cut 27 = .ok (.bipush (-103), 2) := by decide +kernel
theorem dX8_cut_29 : decode cX8_cut 29 = .ok (.ireturn, 1) := by decide +kernel
theorem dX8_cut_30 : decode cX8_cut 30 = .ok (.aload_n 0, 1) := by decide +kernel
theorem dX8_cut_31 : decode cX8_cut 31 = .ok (.getfield 26, 3) := by decide +kernel
theorem dX8_cut_34 : decode cX8_cut 34 = .ok (.getfield 124, 3) := by decide +kernel
theorem dX8_cut_37 : decode cX8_cut 37 = .ok (.iload_n 1, 1) := by decide +kernel
theorem dX8_cut_38 : decode cX8_cut 38 = .ok (.iconst 1, 1) := by decide +kernel
theorem dX8_cut_39 : decode cX8_cut 39 = .ok (.iastore, 1) := by decide +kernel
theorem dX8_cut_40 : decode cX8_cut 40 = .ok (.aload_n 0, 1) := by decide +kernel
theorem dX8_cut_41 : decode cX8_cut 41 = .ok (.getfield 19, 3) := by decide +kernel
theorem dX8_cut_44 : decode cX8_cut 44 = .ok (.aload_n 0, 1) := by decide +kernel
theorem dX8_cut_45 : decode cX8_cut 45 = .ok (.getfield 26, 3) := by decide +kernel
theorem dX8_cut_48 : decode cX8_cut 48 = .ok (.invokevirtual 120, 3) := by decide +kernel
theorem dX8_cut_51 : decode cX8_cut 51 = .ok (.ireturn, 1) := by decide +kernel
theorem dX8_tie_0 : decode cX8_tie 0 = .ok (.aload_n 0, 1) := by decide +kernel
theorem dX8_tie_1 : decode cX8_tie 1 = .ok (.getfield 19, 3) := by decide +kernel
theorem dX8_tie_4 : decode cX8_tie 4 = .ok (.iload_n 1, 1) := by decide +kernel
theorem dX8_tie_5 : decode cX8_tie 5 = .ok (.invokevirtual 100, 3) := by decide +kernel
theorem dX8_tie_8 : decode cX8_tie 8 = .ok (.ifCond .ne 6, 3) := by decide +kernel
theorem dX8_tie_11 : decode cX8_tie 11 = .ok (.bipush (-101), 2) := by decide +kernel
theorem dX8_tie_13 : decode cX8_tie 13 = .ok (.ireturn, 1) := by decide +kernel
theorem dX8_tie_14 : decode cX8_tie 14 = .ok (.aload_n 0, 1) := by decide +kernel
theorem dX8_tie_15 : decode cX8_tie 15 = .ok (.getfield 26, 3) := by decide +kernel
theorem dX8_tie_18 : decode cX8_tie 18 = .ok (.getfield 124, 3) := by decide +kernel
theorem dX8_tie_21 : decode cX8_tie 21 = .ok (.iload_n 1, 1) := by decide +kernel
theorem dX8_tie_22 : decode cX8_tie 22 = .ok (.iaload, 1) := by decide +kernel
theorem dX8_tie_23 : decode cX8_tie 23 = .ok (.ifCond .ne 6, 3) := by decide +kernel
theorem dX8_tie_26 : decode cX8_tie 26 = .ok (.bipush (-103), 2) := by decide +kernel
theorem dX8_tie_28 : decode cX8_tie 28 = .ok (.ireturn, 1) := by decide +kernel
theorem dX8_tie_29 : decode cX8_tie 29 = .ok (.aload_n 0, 1) := by decide +kernel
theorem dX8_tie_30 : decode cX8_tie 30 = .ok (.getfield 26, 3) := by decide +kernel
theorem dX8_tie_33 : decode cX8_tie 33 = .ok (.getfield 124, 3) := by decide +kernel
theorem dX8_tie_36 : decode cX8_tie 36 = .ok (.iload_n 1, 1) := by decide +kernel
theorem dX8_tie_37 : decode cX8_tie 37 = .ok (.iconst 0, 1) := by decide +kernel
theorem dX8_tie_38 : decode cX8_tie 38 = .ok (.iastore, 1) := by decide +kernel
theorem dX8_tie_39 : decode cX8_tie 39 = .ok (.aload_n 0, 1) := by decide +kernel
theorem dX8_tie_40 : decode cX8_tie 40 = .ok (.getfield 19, 3) := by decide +kernel
theorem dX8_tie_43 : decode cX8_tie 43 = .ok (.aload_n 0, 1) := by decide +kernel
theorem dX8_tie_44 : decode cX8_tie 44 = .ok (.getfield 26, 3) := by decide +kernel
theorem dX8_tie_47 : decode cX8_tie 47 = .ok (.invokevirtual 120, 3) := by decide +kernel
theorem dX8_tie_50 : decode cX8_tie 50 = .ok (.ireturn, 1) := by decide +kernel
theorem dX8_turn_0 : decode cX8_turn 0 = .ok (.aload_n 0, 1) := by decide +kernel
theorem dX8_turn_1 : decode cX8_turn 1 = .ok (.getfield 19, 3) := by decide +kernel
theorem dX8_turn_4 : decode cX8_turn 4 = .ok (.iload_n 1, 1) := by decide +kernel
theorem dX8_turn_5 : decode cX8_turn 5 = .ok (.invokevirtual 100, 3) := by decide +kernel
theorem dX8_turn_8 : decode cX8_turn 8 = .ok (.ifCond .eq 11, 3) := by decide +kernel
theorem dX8_turn_11 : decode cX8_turn 11 = .ok (.aload_n 0, 1) := by decide +kernel
theorem dX8_turn_12 : decode cX8_turn 12 = .ok (.iload_n 2, 1) := by decide +kernel
theorem dX8_turn_13 : decode cX8_turn 13 = .ok (.invokevirtual 140, 3) := by decide +kernel
theorem dX8_turn_16 : decode cX8_turn 16 = .ok (.ifCond .ne 6, 3) := by decide +kernel
theorem dX8_turn_19 : decode cX8_turn 19 = .ok (.bipush (-101), 2) := by decide +kernel
theorem dX8_turn_21 : decode cX8_turn 21 = .ok (.ireturn, 1) := by decide +kernel
theorem dX8_turn_22 : decode cX8_turn 22 = .ok (.iload_n 3, 1) := by decide +kernel
theorem dX8_turn_23 : decode cX8_turn 23 = .ok (.invokestatic 166, 3) := by decide +kernel
theorem dX8_turn_26 : decode cX8_turn 26 = .ok (.ifCond .ne 6, 3) := by decide +kernel
theorem dX8_turn_29 : decode cX8_turn 29 = .ok (.bipush (-102), 2) := by decide +kernel
theorem dX8_turn_31 : decode cX8_turn 31 = .ok (.ireturn, 1) := by decide +kernel
theorem dX8_turn_32 : decode cX8_turn 32 = .ok (.aload_n 0, 1) := by decide +kernel
theorem dX8_turn_33 : decode cX8_turn 33 = .ok (.getfield 26, 3) := by decide +kernel
theorem dX8_turn_36 : decode cX8_turn 36 = .ok (.getfield 85, 3) := by decide +kernel
theorem dX8_turn_39 : decode cX8_turn 39 = .ok (.iload_n 2, 1) := by decide +kernel
theorem dX8_turn_40 : decode cX8_turn 40 = .ok (.aaload, 1) := by decide +kernel
theorem dX8_turn_41 : decode cX8_turn 41 = .ok (.iload_n 1, 1) := by decide +kernel
theorem dX8_turn_42 : decode cX8_turn 42 = .ok (.iaload, 1) := by decide +kernel
theorem dX8_turn_43 : decode cX8_turn 43 = .ok (.istore 4, 2) := by decide +kernel
theorem dX8_turn_45 : decode cX8_turn 45 = .ok (.aload_n 0, 1) := by decide +kernel
theorem dX8_turn_46 : decode cX8_turn 46 = .ok (.getfield 26, 3) := by decide +kernel
theorem dX8_turn_49 : decode cX8_turn 49 = .ok (.getfield 85, 3) := by decide +kernel
theorem dX8_turn_52 : decode cX8_turn 52 = .ok (.iload_n 2, 1) := by decide +kernel
theorem dX8_turn_53 : decode cX8_turn 53 = .ok (.aaload, 1) := by decide +kernel
theorem dX8_turn_54 : decode cX8_turn 54 = .ok (.iload_n 1, 1) := by decide +kernel
theorem dX8_turn_55 : decode cX8_turn 55 = .ok (.iload_n 3, 1) := by decide +kernel
theorem dX8_turn_56 : decode cX8_turn 56 = .ok (.iastore, 1) := by decide +kernel
theorem dX8_turn_57 : decode cX8_turn 57 = .ok (.iload 4, 2) := by decide +kernel
theorem dX8_turn_59 : decode cX8_turn 59 = .ok (.iconst 1, 1) := by decide +kernel
theorem dX8_turn_60 : decode cX8_turn 60 = .ok (.iadd, 1) := by decide +kernel
theorem dX8_turn_61 : decode cX8_turn 61 = .ok (.ireturn, 1) := by decide +kernel
theorem dX8_grow_0 : decode cX8_grow 0 = .ok (.aload_n 0, 1) := by decide +kernel
theorem dX8_grow_1 : decode cX8_grow 1 = .ok (.getfield 19, 3) := by decide +kernel
theorem dX8_grow_4 : decode cX8_grow 4 = .ok (.iload_n 1, 1) := by decide +kernel
theorem dX8_grow_5 : decode cX8_grow 5 = .ok (.invokevirtual 100, 3) := by decide +kernel
theorem dX8_grow_8 : decode cX8_grow 8 = .ok (.ifCond .ne 6, 3) := by decide +kernel
theorem dX8_grow_11 : decode cX8_grow 11 = .ok (.bipush (-101), 2) := by decide +kernel
theorem dX8_grow_13 : decode cX8_grow 13 = .ok (.ireturn, 1) := by decide +kernel
theorem dX8_grow_14 : decode cX8_grow 14 = .ok (.iload_n 2, 1) := by decide +kernel
theorem dX8_grow_15 : decode cX8_grow 15 = .ok (.iconst 1, 1) := by decide +kernel
theorem dX8_grow_16 : decode cX8_grow 16 = .ok (.if_icmp .lt 9, 3) := by decide +kernel
theorem dX8_grow_19 : decode cX8_grow 19 = .ok (.iload_n 2, 1) := by decide +kernel
theorem dX8_grow_20 : decode cX8_grow 20 = .ok (.bipush 9, 2) := by decide +kernel
theorem dX8_grow_22 : decode cX8_grow 22 = .ok (.if_icmp .le 6, 3) := by decide +kernel
theorem dX8_grow_25 : decode cX8_grow 25 = .ok (.bipush (-102), 2) := by decide +kernel
theorem dX8_grow_27 : decode cX8_grow 27 = .ok (.ireturn, 1) := by decide +kernel
theorem dX8_grow_28 : decode cX8_grow 28 = .ok (.aload_n 0, 1) := by decide +kernel
theorem dX8_grow_29 : decode cX8_grow 29 = .ok (.getfield 26, 3) := by decide +kernel
theorem dX8_grow_32 : decode cX8_grow 32 = .ok (.getfield 79, 3) := by decide +kernel
theorem dX8_grow_35 : decode cX8_grow 35 = .ok (.iload_n 1, 1) := by decide +kernel
theorem dX8_grow_36 : decode cX8_grow 36 = .ok (.iaload, 1) := by decide +kernel
theorem dX8_grow_37 : decode cX8_grow 37 = .ok (.istore_n 3, 1) := by decide +kernel
theorem dX8_grow_38 : decode cX8_grow 38 = .ok (.aload_n 0, 1) := by decide +kernel
theorem dX8_grow_39 : decode cX8_grow 39 = .ok (.getfield 26, 3) := by decide +kernel
theorem dX8_grow_42 : decode cX8_grow 42 = .ok (.getfield 79, 3) := by decide +kernel
theorem dX8_grow_45 : decode cX8_grow 45 = .ok (.iload_n 1, 1) := by decide +kernel
theorem dX8_grow_46 : decode cX8_grow 46 = .ok (.iload_n 2, 1) := by decide +kernel
theorem dX8_grow_47 : decode cX8_grow 47 = .ok (.iastore, 1) := by decide +kernel
theorem dX8_grow_48 : decode cX8_grow 48 = .ok (.iload_n 3, 1) := by decide +kernel
theorem dX8_grow_49 : decode cX8_grow 49 = .ok (.ireturn, 1) := by decide +kernel
theorem dX8_say_0 : decode cX8_say 0 = .ok (.aload_n 0, 1) := by decide +kernel
theorem dX8_say_1 : decode cX8_say 1 = .ok (.getfield 19, 3) := by decide +kernel
theorem dX8_say_4 : decode cX8_say 4 = .ok (.iload_n 1, 1) := by decide +kernel
theorem dX8_say_5 : decode cX8_say 5 = .ok (.invokevirtual 100, 3) := by decide +kernel
theorem dX8_say_8 : decode cX8_say 8 = .ok (.ifCond .eq 11, 3) := by decide +kernel
theorem dX8_say_11 : decode cX8_say 11 = .ok (.aload_n 0, 1) := by decide +kernel
theorem dX8_say_12 : decode cX8_say 12 = .ok (.iload_n 2, 1) := by decide +kernel
theorem dX8_say_13 : decode cX8_say 13 = .ok (.invokevirtual 140, 3) := by decide +kernel
theorem dX8_say_16 : decode cX8_say 16 = .ok (.ifCond .ne 6, 3) := by decide +kernel
theorem dX8_say_19 : decode cX8_say 19 = .ok (.bipush (-101), 2) := by decide +kernel
theorem dX8_say_21 : decode cX8_say 21 = .ok (.ireturn, 1) := by decide +kernel
theorem dX8_say_22 : decode cX8_say 22 = .ok (.iload_n 3, 1) := by decide +kernel
theorem dX8_say_23 : decode cX8_say 23 = .ok (.invokestatic 169, 3) := by decide +kernel
theorem dX8_say_26 : decode cX8_say 26 = .ok (.ifCond .ne 6, 3) := by decide +kernel
theorem dX8_say_29 : decode cX8_say 29 = .ok (.bipush (-102), 2) := by decide +kernel
theorem dX8_say_31 : decode cX8_say 31 = .ok (.ireturn, 1) := by decide +kernel
theorem dX8_say_32 : decode cX8_say 32 = .ok (.aload_n 0, 1) := by decide +kernel
theorem dX8_say_33 : decode cX8_say 33 = .ok (.getfield 19, 3) := by decide +kernel
theorem dX8_say_36 : decode cX8_say 36 = .ok (.aload_n 0, 1) := by decide +kernel
theorem dX8_say_37 : decode cX8_say 37 = .ok (.getfield 26, 3) := by decide +kernel
theorem dX8_say_40 : decode cX8_say 40 = .ok (.invokevirtual 120, 3) := by decide +kernel
theorem dX8_say_43 : decode cX8_say 43 = .ok (.istore 4, 2) := by decide +kernel
theorem dX8_say_45 : decode cX8_say 45 = .ok (.aload_n 0, 1) := by decide +kernel
theorem dX8_say_46 : decode cX8_say 46 = .ok (.iload_n 1, 1) := by decide +kernel
theorem dX8_say_47 : decode cX8_say 47 = .ok (.iload_n 2, 1) := by decide +kernel
theorem dX8_say_48 : decode cX8_say 48 = .ok (.iload 4, 2) := by decide +kernel
theorem dX8_say_50 : decode cX8_say 50 = .ok (.invokevirtual 172, 3) := by decide +kernel
theorem dX8_say_53 : decode cX8_say 53 = .ok (.getstatic 176, 3) := by decide +kernel
theorem dX8_say_56 : decode cX8_say 56 = .ok (.iload 4, 2) := by decide +kernel
theorem dX8_say_58 : decode cX8_say 58 = .ok (.iaload, 1) := by decide +kernel
theorem dX8_say_59 : decode cX8_say 59 = .ok (.iload_n 3, 1) := by decide +kernel
theorem dX8_say_60 : decode cX8_say 60 = .ok (.invokestatic 179, 3) := by decide +kernel
theorem dX8_say_63 : decode cX8_say 63 = .ok (.ireturn, 1) := by decide +kernel
theorem dX8_chance_0 : decode cX8_chance 0 = .ok (.aload_n 0, 1) := by decide +kernel
theorem dX8_chance_1 : decode cX8_chance 1 = .ok (.iload_n 1, 1) := by decide +kernel
theorem dX8_chance_2 : decode cX8_chance 2 = .ok (.invokevirtual 140, 3) := by decide +kernel
theorem dX8_chance_5 : decode cX8_chance 5 = .ok (.ifCond .ne 6, 3) := by decide +kernel
theorem dX8_chance_8 : decode cX8_chance 8 = .ok (.bipush (-101), 2) := by decide +kernel
theorem dX8_chance_10 : decode cX8_chance 10 = .ok (.ireturn, 1) := by decide +kernel
theorem dX8_chance_11 : decode cX8_chance 11 = .ok (.iload_n 2, 1) := by decide +kernel
theorem dX8_chance_12 : decode cX8_chance 12 = .ok (.ifCond .lt 16, 3) := by decide +kernel
theorem dX8_chance_15 : decode cX8_chance 15 = .ok (.iload_n 2, 1) := by decide +kernel
theorem dX8_chance_16 : decode cX8_chance 16 = .ok (.bipush 10, 2) := by decide +kernel
theorem dX8_chance_18 : decode cX8_chance 18 = .ok (.if_icmp .gt 10, 3) := by decide +kernel
theorem dX8_chance_21 : decode cX8_chance 21 = .ok (.iload_n 3, 1) := by decide +kernel
theorem dX8_chance_22 : decode cX8_chance 22 = .ok (.invokestatic 169, 3) := by decide +kernel
theorem dX8_chance_25 : decode cX8_chance 25 = .ok (.ifCond .ne 6, 3) := by decide +kernel
theorem dX8_chance_28 : decode cX8_chance 28 = .ok (.bipush (-102), 2) := by decide +kernel
theorem dX8_chance_30 : decode cX8_chance 30 = .ok (.ireturn, 1) := by decide +kernel
theorem dX8_chance_31 : decode cX8_chance 31 = .ok (.aload_n 0, 1) := by decide +kernel
theorem dX8_chance_32 : decode cX8_chance 32 = .ok (.getfield 19, 3) := by decide +kernel
theorem dX8_chance_35 : decode cX8_chance 35 = .ok (.aload_n 0, 1) := by decide +kernel
theorem dX8_chance_36 : decode cX8_chance 36 = .ok (.getfield 26, 3) := by decide +kernel
theorem dX8_chance_39 : decode cX8_chance 39 = .ok (.invokevirtual 120, 3) := by decide +kernel
theorem dX8_chance_42 : decode cX8_chance 42 = .ok (.istore 4, 2) := by decide +kernel
theorem dX8_chance_44 : decode cX8_chance 44 = .ok (.aload_n 0, 1) := by decide +kernel
theorem dX8_chance_45 : decode cX8_chance 45 = .ok (.iload_n 1, 1) := by decide +kernel
theorem dX8_chance_46 : decode cX8_chance 46 = .ok (.iload_n 2, 1) := by decide +kernel
theorem dX8_chance_47 : decode cX8_chance 47 = .ok (.iload 4, 2) := by decide +kernel
theorem dX8_chance_49 : decode cX8_chance 49 = .ok (.invokevirtual 182, 3) := by decide +kernel
theorem dX8_chance_52 : decode cX8_chance 52 = .ok (.bipush 10, 2) := by decide +kernel
theorem dX8_chance_54 : decode cX8_chance 54 = .ok (.iload 4, 2) := by decide +kernel
theorem dX8_chance_56 : decode cX8_chance 56 = .ok (.invokestatic 185, 3) := by decide +kernel
theorem dX8_chance_59 : decode cX8_chance 59 = .ok (.iload_n 3, 1) := by decide +kernel
theorem dX8_chance_60 : decode cX8_chance 60 = .ok (.invokestatic 179, 3) := by decide +kernel
theorem dX8_chance_63 : decode cX8_chance 63 = .ok (.ireturn, 1) := by decide +kernel
theorem dX8_cuts_0 : decode cX8_cuts 0 = .ok (.aload_n 0, 1) := by decide +kernel
theorem dX8_cuts_1 : decode cX8_cuts 1 = .ok (.iload_n 1, 1) := by decide +kernel
theorem dX8_cuts_2 : decode cX8_cuts 2 = .ok (.invokevirtual 140, 3) := by decide +kernel
theorem dX8_cuts_5 : decode cX8_cuts 5 = .ok (.ifCond .ne 6, 3) := by decide +kernel
theorem dX8_cuts_8 : decode cX8_cuts 8 = .ok (.bipush (-101), 2) := by decide +kernel
theorem dX8_cuts_10 : decode cX8_cuts 10 = .ok (.ireturn, 1) := by decide +kernel
theorem dX8_cuts_11 : decode cX8_cuts 11 = .ok (.iload_n 2, 1) := by decide +kernel
theorem dX8_cuts_12 : decode cX8_cuts 12 = .ok (.invokestatic 166, 3) := by decide +kernel
theorem dX8_cuts_15 : decode cX8_cuts 15 = .ok (.ifCond .eq 10, 3) := by decide +kernel
theorem dX8_cuts_18 : decode cX8_cuts 18 = .ok (.iload_n 3, 1) := by decide +kernel
theorem dX8_cuts_19 : decode cX8_cuts 19 = .ok (.invokestatic 169, 3) := by decide +kernel
theorem dX8_cuts_22 : decode cX8_cuts 22 = .ok (.ifCond .ne 6, 3) := by decide +kernel
theorem dX8_cuts_25 : decode cX8_cuts 25 = .ok (.bipush (-102), 2) := by decide +kernel
theorem dX8_cuts_27 : decode cX8_cuts 27 = .ok (.ireturn, 1) := by decide +kernel
theorem dX8_cuts_28 : decode cX8_cuts 28 = .ok (.aload_n 0, 1) := by decide +kernel
theorem dX8_cuts_29 : decode cX8_cuts 29 = .ok (.iload_n 1, 1) := by decide +kernel
theorem dX8_cuts_30 : decode cX8_cuts 30 = .ok (.iload_n 2, 1) := by decide +kernel
theorem dX8_cuts_31 : decode cX8_cuts 31 = .ok (.invokevirtual 188, 3) := by decide +kernel
theorem dX8_cuts_34 : decode cX8_cuts 34 = .ok (.iload_n 3, 1) := by decide +kernel
theorem dX8_cuts_35 : decode cX8_cuts 35 = .ok (.invokestatic 191, 3) := by decide +kernel
theorem dX8_cuts_38 : decode cX8_cuts 38 = .ok (.ireturn, 1) := by decide +kernel
theorem dX8_fewTurns_0 : decode cX8_fewTurns 0 = .ok (.aload_n 0, 1) := by decide +kernel
theorem dX8_fewTurns_1 : decode cX8_fewTurns 1 = .ok (.iload_n 1, 1) := by decide +kernel
theorem dX8_fewTurns_2 : decode cX8_fewTurns 2 = .ok (.invokevirtual 140, 3) := by decide +kernel
theorem dX8_fewTurns_5 : decode cX8_fewTurns 5 = .ok (.ifCond .ne 6, 3) := by decide +kernel
theorem dX8_fewTurns_8 : decode cX8_fewTurns 8 = .ok (.bipush (-101), 2) := by decide +kernel
theorem dX8_fewTurns_10 : decode cX8_fewTurns 10 = .ok (.ireturn, 1) := by decide +kernel
theorem dX8_fewTurns_11 : decode cX8_fewTurns 11 = .ok (.iload_n 2, 1) := by decide +kernel
theorem dX8_fewTurns_12 : decode cX8_fewTurns 12 = .ok (.invokestatic 166, 3) := by decide +kernel
theorem dX8_fewTurns_15 : decode cX8_fewTurns 15 = .ok (.ifCond .eq 10, 3) := by decide +kernel
theorem dX8_fewTurns_18 : decode cX8_fewTurns 18 = .ok (.iload_n 3, 1) := by decide +kernel
theorem dX8_fewTurns_19 : decode cX8_fewTurns 19 = .ok (.invokestatic 169, 3) := by decide +kernel
theorem dX8_fewTurns_22 : decode cX8_fewTurns 22 = .ok (.ifCond .ne 6, 3) := by decide +kernel
theorem dX8_fewTurns_25 : decode cX8_fewTurns 25 = .ok (.bipush (-102), 2) := by decide +kernel
theorem dX8_fewTurns_27 : decode cX8_fewTurns 27 = .ok (.ireturn, 1) := by decide +kernel
theorem dX8_fewTurns_28 : decode cX8_fewTurns 28 = .ok (.aload_n 0, 1) := by decide +kernel
theorem dX8_fewTurns_29 : decode cX8_fewTurns 29 = .ok (.getfield 194, 3) := by decide +kernel
theorem dX8_fewTurns_32 : decode cX8_fewTurns 32 = .ok (.bipush 20, 2) := by decide +kernel
theorem dX8_fewTurns_34 : decode cX8_fewTurns 34 = .ok (.if_icmp .lt 6, 3) := by decide +kernel
theorem dX8_fewTurns_37 : decode cX8_fewTurns 37 = .ok (.bipush (-103), 2) := by decide +kernel
theorem dX8_fewTurns_39 : decode cX8_fewTurns 39 = .ok (.ireturn, 1) := by decide +kernel
theorem dX8_fewTurns_40 : decode cX8_fewTurns 40 = .ok (.aload_n 0, 1) := by decide +kernel
theorem dX8_fewTurns_41 : decode cX8_fewTurns 41 = .ok (.dup, 1) := by decide +kernel
theorem dX8_fewTurns_42 : decode cX8_fewTurns 42 = .ok (.getfield 194, 3) := by decide +kernel
theorem dX8_fewTurns_45 : decode cX8_fewTurns 45 = .ok (.iconst 1, 1) := by decide +kernel
theorem dX8_fewTurns_46 : decode cX8_fewTurns 46 = .ok (.iadd, 1) := by decide +kernel
theorem dX8_fewTurns_47 : decode cX8_fewTurns 47 = .ok (.putfield 194, 3) := by decide +kernel
theorem dX8_fewTurns_50 : decode cX8_fewTurns 50 = .ok (.aload_n 0, 1) := by decide +kernel
theorem dX8_fewTurns_51 : decode cX8_fewTurns 51 = .ok (.iload_n 1, 1) := by decide +kernel
theorem dX8_fewTurns_52 : decode cX8_fewTurns 52 = .ok (.iload_n 2, 1) := by decide +kernel
theorem dX8_fewTurns_53 : decode cX8_fewTurns 53 = .ok (.invokevirtual 197, 3) := by decide +kernel
theorem dX8_fewTurns_56 : decode cX8_fewTurns 56 = .ok (.iload_n 3, 1) := by decide +kernel
theorem dX8_fewTurns_57 : decode cX8_fewTurns 57 = .ok (.invokestatic 191, 3) := by decide +kernel
theorem dX8_fewTurns_60 : decode cX8_fewTurns 60 = .ok (.ireturn, 1) := by decide +kernel
theorem dX8_settle_0 : decode cX8_settle 0 = .ok (.iload_n 1, 1) := by decide +kernel
theorem dX8_settle_1 : decode cX8_settle 1 = .ok (.invokestatic 169, 3) := by decide +kernel
theorem dX8_settle_4 : decode cX8_settle 4 = .ok (.ifCond .ne 6, 3) := by decide +kernel
theorem dX8_settle_7 : decode cX8_settle 7 = .ok (.bipush (-102), 2) := by decide +kernel
theorem dX8_settle_9 : decode cX8_settle 9 = .ok (.ireturn, 1) := by decide +kernel
theorem dX8_settle_10 : decode cX8_settle 10 = .ok (.aload_n 0, 1) := by decide +kernel
theorem dX8_settle_11 : decode cX8_settle 11 = .ok (.getfield 19, 3) := by decide +kernel
theorem dX8_settle_14 : decode cX8_settle 14 = .ok (.getfield 68, 3) := by decide +kernel
theorem dX8_settle_17 : decode cX8_settle 17 = .ok (.ifCond .ne 6, 3) := by decide +kernel
theorem dX8_settle_20 : decode cX8_settle 20 = .ok (.bipush (-103), 2) := by decide +kernel
theorem dX8_settle_22 : decode cX8_settle 22 = .ok (.ireturn, 1) := by decide +kernel
theorem dX8_settle_23 : decode cX8_settle 23 = .ok (.aload_n 0, 1) := by decide +kernel
theorem dX8_settle_24 : decode cX8_settle 24 = .ok (.invokevirtual 200, 3) := by decide +kernel
theorem dX8_settle_27 : decode cX8_settle 27 = .ok (.istore_n 2, 1) := by decide +kernel
theorem dX8_settle_28 : decode cX8_settle 28 = .ok (.iload_n 1, 1) := by decide +kernel
theorem dX8_settle_29 : decode cX8_settle 29 = .ok (.ifCond .ne 7, 3) := by decide +kernel
theorem dX8_settle_32 : decode cX8_settle 32 = .ok (.iload_n 2, 1) := by decide +kernel
theorem dX8_settle_33 : decode cX8_settle 33 = .ok (.goto 8, 3) := by decide +kernel
theorem dX8_settle_36 : decode cX8_settle 36 = .ok (.aload_n 0, 1) := by decide +kernel
theorem dX8_settle_37 : decode cX8_settle 37 = .ok (.iload_n 2, 1) := by decide +kernel
theorem dX8_settle_38 : decode cX8_settle 38 = .ok (.invokevirtual 203, 3) := by decide +kernel
theorem dX8_settle_41 : decode cX8_settle 41 = .ok (.ireturn, 1) := by decide +kernel
theorem dX8_see_0 : decode cX8_see 0 = .ok (.aload_n 0, 1) := by decide +kernel
theorem dX8_see_1 : decode cX8_see 1 = .ok (.getfield 19, 3) := by decide +kernel
theorem dX8_see_4 : decode cX8_see 4 = .ok (.iload_n 1, 1) := by decide +kernel
theorem dX8_see_5 : decode cX8_see 5 = .ok (.invokevirtual 100, 3) := by decide +kernel
theorem dX8_see_8 : decode cX8_see 8 = .ok (.ifCond .eq 11, 3) := by decide +kernel
theorem dX8_see_11 : decode cX8_see 11 = .ok (.aload_n 0, 1) := by decide +kernel
theorem dX8_see_12 : decode cX8_see 12 = .ok (.iload_n 2, 1) := by decide +kernel
theorem dX8_see_13 : decode cX8_see 13 = .ok (.invokevirtual 140, 3) := by decide +kernel
theorem dX8_see_16 : decode cX8_see 16 = .ok (.ifCond .ne 6, 3) := by decide +kernel
theorem dX8_see_19 : decode cX8_see 19 = .ok (.bipush (-101), 2) := by decide +kernel
theorem dX8_see_21 : decode cX8_see 21 = .ok (.ireturn, 1) := by decide +kernel
theorem dX8_see_22 : decode cX8_see 22 = .ok (.iload_n 3, 1) := by decide +kernel
theorem dX8_see_23 : decode cX8_see 23 = .ok (.ifCond .lt 10, 3) := by decide +kernel
theorem dX8_see_26 : decode cX8_see 26 = .ok (.iload_n 3, 1) := by decide +kernel
theorem dX8_see_27 : decode cX8_see 27 = .ok (.sipush 400, 3) := by decide +kernel
theorem dX8_see_30 : decode cX8_see 30 = .ok (.if_icmp .le 6, 3) := by decide +kernel
theorem dX8_see_33 : decode cX8_see 33 = .ok (.bipush (-102), 2) := by decide +kernel
theorem dX8_see_35 : decode cX8_see 35 = .ok (.ireturn, 1) := by decide +kernel
theorem dX8_see_36 : decode cX8_see 36 = .ok (.aload_n 0, 1) := by decide +kernel
theorem dX8_see_37 : decode cX8_see 37 = .ok (.getfield 26, 3) := by decide +kernel
theorem dX8_see_40 : decode cX8_see 40 = .ok (.getfield 206, 3) := by decide +kernel
theorem dX8_see_43 : decode cX8_see 43 = .ok (.bipush 6, 2) := by decide +kernel
theorem dX8_see_45 : decode cX8_see 45 = .ok (.if_icmp .lt 6, 3) := by decide +kernel
theorem dX8_see_48 : decode cX8_see 48 = .ok (.bipush (-104), 2) := by decide +kernel
theorem dX8_see_50 : decode cX8_see 50 = .ok (.ireturn, 1) := by decide +kernel
theorem dX8_see_51 : decode cX8_see 51 = .ok (.aload_n 0, 1) := by decide +kernel
theorem dX8_see_52 : decode cX8_see 52 = .ok (.getfield 26, 3) := by decide +kernel
theorem dX8_see_55 : decode cX8_see 55 = .ok (.iload_n 1, 1) := by decide +kernel
theorem dX8_see_56 : decode cX8_see 56 = .ok (.iload_n 2, 1) := by decide +kernel
theorem dX8_see_57 : decode cX8_see 57 = .ok (.iload_n 3, 1) := by decide +kernel
theorem dX8_see_58 : decode cX8_see 58 = .ok (.sipush 200, 3) := by decide +kernel
theorem dX8_see_61 : decode cX8_see 61 = .ok (.isub, 1) := by decide +kernel
theorem dX8_see_62 : decode cX8_see 62 = .ok (.invokevirtual 209, 3) := by decide +kernel
theorem dX8_see_65 : decode cX8_see 65 = .ok (.aload_n 0, 1) := by decide +kernel
theorem dX8_see_66 : decode cX8_see 66 = .ok (.getfield 26, 3) := by decide +kernel
theorem dX8_see_69 : decode cX8_see 69 = .ok (.getfield 206, 3) := by decide +kernel
theorem dX8_see_72 : decode cX8_see 72 = .ok (.ireturn, 1) := by decide +kernel
theorem dX8_forget_0 : decode cX8_forget 0 = .ok (.aload_n 0, 1) := by decide +kernel
theorem dX8_forget_1 : decode cX8_forget 1 = .ok (.getfield 26, 3) := by decide +kernel
theorem dX8_forget_4 : decode cX8_forget 4 = .ok (.getfield 206, 3) := by decide +kernel
theorem dX8_forget_7 : decode cX8_forget 7 = .ok (.istore_n 1, 1) := by decide +kernel
theorem dX8_forget_8 : decode cX8_forget 8 = .ok (.aload_n 0, 1) := by decide +kernel
theorem dX8_forget_9 : decode cX8_forget 9 = .ok (.getfield 26, 3) := by decide +kernel
theorem dX8_forget_12 : decode cX8_forget 12 = .ok (.iconst 0, 1) := by decide +kernel
theorem dX8_forget_13 : decode cX8_forget 13 = .ok (.putfield 206, 3) := by decide +kernel
theorem dX8_forget_16 : decode cX8_forget 16 = .ok (.iload_n 1, 1) := by decide +kernel
theorem dX8_forget_17 : decode cX8_forget 17 = .ok (.ireturn, 1) := by decide +kernel
theorem dX8_tides_0 : decode cX8_tides 0 = .ok (.iload_n 1, 1) := by decide +kernel
theorem dX8_tides_1 : decode cX8_tides 1 = .ok (.iconst 1, 1) := by decide +kernel
theorem dX8_tides_2 : decode cX8_tides 2 = .ok (.if_icmp .lt 22, 3) := by decide +kernel
theorem dX8_tides_5 : decode cX8_tides 5 = .ok (.iload_n 1, 1) := by decide +kernel
theorem dX8_tides_6 : decode cX8_tides 6 = .ok (.bipush 60, 2) := by decide +kernel
theorem dX8_tides_8 : decode cX8_tides 8 = .ok (.if_icmp .gt 16, 3) := by decide +kernel
theorem dX8_tides_11 : decode cX8_tides 11 = .ok (.iload_n 2, 1) := by decide +kernel
theorem dX8_tides_12 : decode cX8_tides 12 = .ok (.ifCond .lt 12, 3) := by decide +kernel
theorem dX8_tides_15 : decode cX8_tides 15 = .ok (.iload_n 3, 1) := by decide +kernel
theorem dX8_tides_16 : decode cX8_tides 16 = .ok (.ifCond .lt 8, 3) := by decide +kernel
theorem dX8_tides_19 : decode cX8_tides 19 = .ok (.iload_n 3, 1) := by decide +kernel
theorem dX8_tides_20 : decode cX8_tides 20 = .ok (.iconst 2, 1) := by decide +kernel
theorem dX8_tides_21 : decode cX8_tides 21 = .ok (.if_icmp .le 6, 3) := by decide +kernel
theorem dX8_tides_24 : decode cX8_tides 24 = .ok (.bipush (-102), 2) := by decide +kernel
theorem dX8_tides_26 : decode cX8_tides 26 = .ok (.ireturn, 1) := by decide +kernel
theorem dX8_tides_27 : decode cX8_tides 27 = .ok (.aload_n 0, 1) := by decide +kernel
theorem dX8_tides_28 : decode cX8_tides 28 = .ok (.getfield 19, 3) := by decide +kernel
theorem dX8_tides_31 : decode cX8_tides 31 = .ok (.getfield 68, 3) := by decide +kernel
theorem dX8_tides_34 : decode cX8_tides 34 = .ok (.ifCond .ne 6, 3) := by decide +kernel
theorem dX8_tides_37 : decode cX8_tides 37 = .ok (.bipush (-103), 2) := by decide +kernel
theorem dX8_tides_39 : decode cX8_tides 39 = .ok (.ireturn, 1) := by decide +kernel
theorem dX8_tides_40 : decode cX8_tides 40 = .ok (.aload_n 0, 1) := by decide +kernel
theorem dX8_tides_41 : decode cX8_tides 41 = .ok (.getfield 33, 3) := by decide +kernel
theorem dX8_tides_44 : decode cX8_tides 44 = .ok (.aload_n 0, 1) := by decide +kernel
theorem dX8_tides_45 : decode cX8_tides 45 = .ok (.getfield 26, 3) := by decide +kernel
theorem dX8_tides_48 : decode cX8_tides 48 = .ok (.invokevirtual 213, 3) := by decide +kernel
theorem dX8_tides_51 : decode cX8_tides 51 = .ok (.iload_n 2, 1) := by decide +kernel
theorem dX8_tides_52 : decode cX8_tides 52 = .ok (.istore 4, 2) := by decide +kernel
theorem dX8_tides_54 : decode cX8_tides 54 = .ok (.iconst 0, 1) := by decide +kernel
theorem dX8_tides_55 : decode cX8_tides 55 = .ok (.istore 5, 2) := by decide +kernel
theorem dX8_tides_57 : decode cX8_tides 57 = .ok (.iconst 0, 1) := by decide +kernel
theorem dX8_tides_58 : decode cX8_tides 58 = .ok (.istore 6, 2) := by decide +kernel
theorem dX8_tides_60 : decode cX8_tides 60 = .ok (.iconst 0, 1) := by decide +kernel
theorem dX8_tides_61 : decode cX8_tides 61 = .ok (.istore 7, 2) := by decide +kernel
theorem dX8_tides_63 : decode cX8_tides 63 = .ok (.iload 7, 2) := by decide +kernel
theorem dX8_tides_65 : decode cX8_tides 65 = .ok (.iload_n 1, 1) := by decide +kernel
theorem dX8_tides_66 : decode cX8_tides 66 = .ok (.if_icmp .ge 93, 3) := by decide +kernel
theorem dX8_tides_69 : decode cX8_tides 69 = .ok (.iload 4, 2) := by decide +kernel
theorem dX8_tides_71 : decode cX8_tides 71 = .ok (.invokestatic 216, 3) := by decide +kernel
theorem dX8_tides_74 : decode cX8_tides 74 = .ok (.istore 4, 2) := by decide +kernel
theorem dX8_tides_76 : decode cX8_tides 76 = .ok (.iload 4, 2) := by decide +kernel
theorem dX8_tides_78 : decode cX8_tides 78 = .ok (.iconst 3, 1) := by decide +kernel
theorem dX8_tides_79 : decode cX8_tides 79 = .ok (.invokestatic 219, 3) := by decide +kernel
theorem dX8_tides_82 : decode cX8_tides 82 = .ok (.istore 8, 2) := by decide +kernel
theorem dX8_tides_84 : decode cX8_tides 84 = .ok (.aload_n 0, 1) := by decide +kernel
theorem dX8_tides_85 : decode cX8_tides 85 = .ok (.getfield 19, 3) := by decide +kernel
theorem dX8_tides_88 : decode cX8_tides 88 = .ok (.aload_n 0, 1) := by decide +kernel
theorem dX8_tides_89 : decode cX8_tides 89 = .ok (.getfield 33, 3) := by decide +kernel
theorem dX8_tides_92 : decode cX8_tides 92 = .ok (.iload 8, 2) := by decide +kernel
theorem dX8_tides_94 : decode cX8_tides 94 = .ok (.invokevirtual 143, 3) := by decide +kernel
theorem dX8_tides_97 : decode cX8_tides 97 = .ok (.istore 9, 2) := by decide +kernel
theorem dX8_tides_99 : decode cX8_tides 99 = .ok (.iload 6, 2) := by decide +kernel
theorem dX8_tides_101 : decode cX8_tides 101 = .ok (.iload 9, 2) := by decide +kernel
theorem dX8_tides_103 : decode cX8_tides 103 = .ok (.iadd, 1) := by decide +kernel
theorem dX8_tides_104 : decode cX8_tides 104 = .ok (.istore 6, 2) := by decide +kernel
theorem dX8_tides_106 : decode cX8_tides 106 = .ok (.iload 9, 2) := by decide +kernel
theorem dX8_tides_108 : decode cX8_tides 108 = .ok (.ifCond .le 6, 3) := by decide +kernel
theorem dX8_tides_111 : decode cX8_tides 111 = .ok (.iinc 5 1, 3) := by decide +kernel
theorem dX8_tides_114 : decode cX8_tides 114 = .ok (.iload 4, 2) := by decide +kernel
theorem dX8_tides_116 : decode cX8_tides 116 = .ok (.invokestatic 216, 3) := by decide +kernel
theorem dX8_tides_119 : decode cX8_tides 119 = .ok (.istore 4, 2) := by decide +kernel
theorem dX8_tides_121 : decode cX8_tides 121 = .ok (.aload_n 0, 1) := by decide +kernel
theorem dX8_tides_122 : decode cX8_tides 122 = .ok (.getfield 33, 3) := by decide +kernel
theorem dX8_tides_125 : decode cX8_tides 125 = .ok (.iload 4, 2) := by decide +kernel
theorem dX8_tides_127 : decode cX8_tides 127 = .ok (.aload_n 0, 1) := by decide +kernel
theorem dX8_tides_128 : decode cX8_tides 128 = .ok (.getfield 19, 3) := by decide +kernel
theorem dX8_tides_131 : decode cX8_tides 131 = .ok (.getfield 68, 3) := by decide +kernel
theorem dX8_tides_134 : decode cX8_tides 134 = .ok (.invokestatic 219, 3) := by decide +kernel
theorem dX8_tides_137 : decode cX8_tides 137 = .ok (.iload 8, 2) := by decide +kernel
theorem dX8_tides_139 : decode cX8_tides 139 = .ok (.invokevirtual 222, 3) := by decide +kernel
theorem dX8_tides_142 : decode cX8_tides 142 = .ok (.aload_n 0, 1) := by decide +kernel
theorem dX8_tides_143 : decode cX8_tides 143 = .ok (.getfield 19, 3) := by decide +kernel
theorem dX8_tides_146 : decode cX8_tides 146 = .ok (.aload_n 0, 1) := by decide +kernel
theorem dX8_tides_147 : decode cX8_tides 147 = .ok (.getfield 33, 3) := by decide +kernel
theorem dX8_tides_150 : decode cX8_tides 150 = .ok (.invokevirtual 162, 3) := by decide +kernel
theorem dX8_tides_153 : decode cX8_tides 153 = .ok (.iinc 7 1, 3) := by decide +kernel
theorem dX8_tides_156 : decode cX8_tides 156 = .ok (.goto (-93), 3) := by decide +kernel
theorem dX8_tides_159 : decode cX8_tides 159 = .ok (.iload_n 3, 1) := by decide +kernel
theorem dX8_tides_160 : decode cX8_tides 160 = .ok (.ifCond .ne 6, 3) := by decide +kernel
theorem dX8_tides_163 : decode cX8_tides 163 = .ok (.iload 5, 2) := by decide +kernel
theorem dX8_tides_165 : decode cX8_tides 165 = .ok (.ireturn, 1) := by decide +kernel
theorem dX8_tides_166 : decode cX8_tides 166 = .ok (.iload_n 3, 1) := by decide +kernel
theorem dX8_tides_167 : decode cX8_tides 167 = .ok (.iconst 1, 1) := by decide +kernel
theorem dX8_tides_168 : decode cX8_tides 168 = .ok (.if_icmp .ne 12, 3) := by decide +kernel
theorem dX8_tides_171 : decode cX8_tides 171 = .ok (.sipush 10000, 3) := by decide +kernel
theorem dX8_tides_174 : decode cX8_tides 174 = .ok (.iload 6, 2) := by decide +kernel
theorem dX8_tides_176 : decode cX8_tides 176 = .ok (.iadd, 1) := by decide +kernel
theorem dX8_tides_177 : decode cX8_tides 177 = .ok (.goto 5, 3) := by decide +kernel
theorem dX8_tides_180 : decode cX8_tides 180 = .ok (.iload 4, 2) := by decide +kernel
theorem dX8_tides_182 : decode cX8_tides 182 = .ok (.ireturn, 1) := by decide +kernel
theorem dX8_image_0 : decode cX8_image 0 = .ok (.aload_n 0, 1) := by decide +kernel
theorem dX8_image_1 : decode cX8_image 1 = .ok (.getfield 19, 3) := by decide +kernel
theorem dX8_image_4 : decode cX8_image 4 = .ok (.getfield 68, 3) := by decide +kernel
theorem dX8_image_7 : decode cX8_image 7 = .ok (.ifCond .ne 6, 3) := by decide +kernel
theorem dX8_image_10 : decode cX8_image 10 = .ok (.bipush (-103), 2) := by decide +kernel
theorem dX8_image_12 : decode cX8_image 12 = .ok (.ireturn, 1) := by decide +kernel
theorem dX8_image_13 : decode cX8_image 13 = .ok (.aload_n 0, 1) := by decide +kernel
theorem dX8_image_14 : decode cX8_image 14 = .ok (.getfield 30, 3) := by decide +kernel
theorem dX8_image_17 : decode cX8_image 17 = .ok (.aload_n 0, 1) := by decide +kernel
theorem dX8_image_18 : decode cX8_image 18 = .ok (.getfield 26, 3) := by decide +kernel
theorem dX8_image_21 : decode cX8_image 21 = .ok (.invokevirtual 213, 3) := by decide +kernel
theorem dX8_image_24 : decode cX8_image 24 = .ok (.aload_n 0, 1) := by decide +kernel
theorem dX8_image_25 : decode cX8_image 25 = .ok (.iconst 1, 1) := by decide +kernel
theorem dX8_image_26 : decode cX8_image 26 = .ok (.putfield 93, 3) := by decide +kernel
theorem dX8_image_29 : decode cX8_image 29 = .ok (.aload_n 0, 1) := by decide +kernel
theorem dX8_image_30 : decode cX8_image 30 = .ok (.getfield 26, 3) := by decide +kernel
theorem dX8_image_33 : decode cX8_image 33 = .ok (.getfield 159, 3) := by decide +kernel
theorem dX8_image_36 : decode cX8_image 36 = .ok (.ireturn, 1) := by decide +kernel
theorem dX8_restore_0 : decode cX8_restore 0 = .ok (.aload_n 0, 1) := by decide +kernel
theorem dX8_restore_1 : decode cX8_restore 1 = .ok (.getfield 93, 3) := by decide +kernel
theorem dX8_restore_4 : decode cX8_restore 4 = .ok (.ifCond .ne 6, 3) := by decide +kernel
theorem dX8_restore_7 : decode cX8_restore 7 = .ok (.bipush (-103), 2) := by decide +kernel
theorem dX8_restore_9 : decode cX8_restore 9 = .ok (.ireturn, 1) := by decide +kernel
theorem dX8_restore_10 : decode cX8_restore 10 = .ok (.aload_n 0, 1) := by decide +kernel
theorem dX8_restore_11 : decode cX8_restore 11 = .ok (.getfield 26, 3) := by decide +kernel
theorem dX8_restore_14 : decode cX8_restore 14 = .ok (.aload_n 0, 1) := by decide +kernel
theorem dX8_restore_15 : decode cX8_restore 15 = .ok (.getfield 30, 3) := by decide +kernel
theorem dX8_restore_18 : decode cX8_restore 18 = .ok (.invokevirtual 213, 3) := by decide +kernel
theorem dX8_restore_21 : decode cX8_restore 21 = .ok (.aload_n 0, 1) := by decide +kernel
theorem dX8_restore_22 : decode cX8_restore 22 = .ok (.getfield 26, 3) := by decide +kernel
theorem dX8_restore_25 : decode cX8_restore 25 = .ok (.getfield 159, 3) := by decide +kernel
theorem dX8_restore_28 : decode cX8_restore 28 = .ok (.ireturn, 1) := by decide +kernel
theorem dX8_count_0 : decode cX8_count 0 = .ok (.iload_n 1, 1) := by decide +kernel
theorem dX8_count_1 : decode cX8_count 1 = .ok (.tableswitch 166 0 11 #[63, 71, 83, 94, 105, 113, 124, 135, 140, 148, 156, 161], 63) := by decide +kernel
theorem dX8_count_64 : decode cX8_count 64 = .ok (.aload_n 0, 1) := by decide +kernel
theorem dX8_count_65 : decode cX8_count 65 = .ok (.getfield 19, 3) := by decide +kernel
theorem dX8_count_68 : decode cX8_count 68 = .ok (.getfield 68, 3) := by decide +kernel
theorem dX8_count_71 : decode cX8_count 71 = .ok (.ireturn, 1) := by decide +kernel
theorem dX8_count_72 : decode cX8_count 72 = .ok (.aload_n 0, 1) := by decide +kernel
theorem dX8_count_73 : decode cX8_count 73 = .ok (.getfield 19, 3) := by decide +kernel
theorem dX8_count_76 : decode cX8_count 76 = .ok (.aload_n 0, 1) := by decide +kernel
theorem dX8_count_77 : decode cX8_count 77 = .ok (.getfield 26, 3) := by decide +kernel
theorem dX8_count_80 : decode cX8_count 80 = .ok (.invokevirtual 120, 3) := by decide +kernel
theorem dX8_count_83 : decode cX8_count 83 = .ok (.ireturn, 1) := by decide +kernel
theorem dX8_count_84 : decode cX8_count 84 = .ok (.aload_n 0, 1) := by decide +kernel
