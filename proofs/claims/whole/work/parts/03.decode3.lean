theorem dX9_pulls_41 : decode cX9_pulls 41 = .ok (.iaload, 1) := by decide +kernel
theorem dX9_pulls_42 : decode cX9_pulls 42 = .ok (.tableswitch 88 1 4 #[30, 35, 39, 63], 30) := by decide +kernel
theorem dX9_pulls_72 : decode cX9_pulls 72 = .ok (.iconst 2, 1) := by decide +kernel
theorem dX9_pulls_73 : decode cX9_pulls 73 = .ok (.iload 4, 2) := by decide +kernel
theorem dX9_pulls_75 : decode cX9_pulls 75 = .ok (.imul, 1) := by decide +kernel
theorem dX9_pulls_76 : decode cX9_pulls 76 = .ok (.ireturn, 1) := by decide +kernel
theorem dX9_pulls_77 : decode cX9_pulls 77 = .ok (.iload 4, 2) := by decide +kernel
theorem dX9_pulls_79 : decode cX9_pulls 79 = .ok (.ineg, 1) := by decide +kernel
theorem dX9_pulls_80 : decode cX9_pulls 80 = .ok (.ireturn, 1) := by decide +kernel
theorem dX9_pulls_81 : decode cX9_pulls 81 = .ok (.iload 5, 2) := by decide +kernel
theorem dX9_pulls_83 : decode cX9_pulls 83 = .ok (.iconst 2, 1) := by decide +kernel
theorem dX9_pulls_84 : decode cX9_pulls 84 = .ok (.if_icmp .ne 7, 3) := by decide +kernel
theorem dX9_pulls_87 : decode cX9_pulls 87 = .ok (.iload_n 3, 1) := by decide +kernel
theorem dX9_pulls_88 : decode cX9_pulls 88 = .ok (.goto 16, 3) := by decide +kernel
theorem dX9_pulls_91 : decode cX9_pulls 91 = .ok (.iload 5, 2) := by decide +kernel
theorem dX9_pulls_93 : decode cX9_pulls 93 = .ok (.bipush (-2), 2) := by decide +kernel
theorem dX9_pulls_95 : decode cX9_pulls 95 = .ok (.if_icmp .ne 8, 3) := by decide +kernel
theorem dX9_pulls_98 : decode cX9_pulls 98 = .ok (.iload_n 3, 1) := by decide +kernel
theorem dX9_pulls_99 : decode cX9_pulls 99 = .ok (.ineg, 1) := by decide +kernel
theorem dX9_pulls_100 : decode cX9_pulls 100 = .ok (.goto 4, 3) := by decide +kernel
theorem dX9_pulls_103 : decode cX9_pulls 103 = .ok (.iconst 0, 1) := by decide +kernel
theorem dX9_pulls_104 : decode cX9_pulls 104 = .ok (.ireturn, 1) := by decide +kernel
theorem dX9_pulls_105 : decode cX9_pulls 105 = .ok (.iload 5, 2) := by decide +kernel
theorem dX9_pulls_107 : decode cX9_pulls 107 = .ok (.iconst 2, 1) := by decide +kernel
theorem dX9_pulls_108 : decode cX9_pulls 108 = .ok (.if_icmp .ne 7, 3) := by decide +kernel
theorem dX9_pulls_111 : decode cX9_pulls 111 = .ok (.iload_n 3, 1) := by decide +kernel
theorem dX9_pulls_112 : decode cX9_pulls 112 = .ok (.goto 17, 3) := by decide +kernel
theorem dX9_pulls_115 : decode cX9_pulls 115 = .ok (.iload 5, 2) := by decide +kernel
theorem dX9_pulls_117 : decode cX9_pulls 117 = .ok (.bipush (-2), 2) := by decide +kernel
theorem dX9_pulls_119 : decode cX9_pulls 119 = .ok (.if_icmp .ne 8, 3) := by decide +kernel
theorem dX9_pulls_122 : decode cX9_pulls 122 = .ok (.iload_n 3, 1) := by decide +kernel
theorem dX9_pulls_123 : decode cX9_pulls 123 = .ok (.ineg, 1) := by decide +kernel
theorem dX9_pulls_124 : decode cX9_pulls 124 = .ok (.goto 5, 3) := by decide +kernel
theorem dX9_pulls_127 : decode cX9_pulls 127 = .ok (.iload 4, 2) := by decide +kernel
theorem dX9_pulls_129 : decode cX9_pulls 129 = .ok (.ireturn, 1) := by decide +kernel
theorem dX9_pulls_130 : decode cX9_pulls 130 = .ok (.iload 4, 2) := by decide +kernel
theorem dX9_pulls_132 : decode cX9_pulls 132 = .ok (.ireturn, 1) := by decide +kernel
theorem dX9_sumOf_0 : decode cX9_sumOf 0 = .ok (.iconst 0, 1) := by decide +kernel
theorem dX9_sumOf_1 : decode cX9_sumOf 1 = .ok (.istore_n 2, 1) := by decide +kernel
theorem dX9_sumOf_2 : decode cX9_sumOf 2 = .ok (.iconst 0, 1) := by decide +kernel
theorem dX9_sumOf_3 : decode cX9_sumOf 3 = .ok (.istore_n 3, 1) := by decide +kernel
theorem dX9_sumOf_4 : decode cX9_sumOf 4 = .ok (.iload_n 3, 1) := by decide +kernel
theorem dX9_sumOf_5 : decode cX9_sumOf 5 = .ok (.aload_n 0, 1) := by decide +kernel
theorem dX9_sumOf_6 : decode cX9_sumOf 6 = .ok (.getfield 112, 3) := by decide +kernel
theorem dX9_sumOf_9 : decode cX9_sumOf 9 = .ok (.if_icmp .ge 30, 3) := by decide +kernel
theorem dX9_sumOf_12 : decode cX9_sumOf 12 = .ok (.iload_n 2, 1) := by decide +kernel
theorem dX9_sumOf_13 : decode cX9_sumOf 13 = .ok (.aload_n 0, 1) := by decide +kernel
theorem dX9_sumOf_14 : decode cX9_sumOf 14 = .ok (.iload_n 3, 1) := by decide +kernel
theorem dX9_sumOf_15 : decode cX9_sumOf 15 = .ok (.invokevirtual 127, 3) := by decide +kernel
theorem dX9_sumOf_18 : decode cX9_sumOf 18 = .ok (.ifCond .eq 12, 3) := by decide +kernel
theorem dX9_sumOf_21 : decode cX9_sumOf 21 = .ok (.aload_n 0, 1) := by decide +kernel
theorem dX9_sumOf_22 : decode cX9_sumOf 22 = .ok (.iload_n 3, 1) := by decide +kernel
theorem dX9_sumOf_23 : decode cX9_sumOf 23 = .ok (.iload_n 1, 1) := by decide +kernel
theorem dX9_sumOf_24 : decode cX9_sumOf 24 = .ok (.invokevirtual 140, 3) := by decide +kernel
theorem dX9_sumOf_27 : decode cX9_sumOf 27 = .ok (.goto 4, 3) := by decide +kernel
theorem dX9_sumOf_30 : decode cX9_sumOf 30 = .ok (.iconst 0, 1) := by decide +kernel
theorem dX9_sumOf_31 : decode cX9_sumOf 31 = .ok (.iadd, 1) := by decide +kernel
theorem dX9_sumOf_32 : decode cX9_sumOf 32 = .ok (.istore_n 2, 1) := by decide +kernel
theorem dX9_sumOf_33 : decode cX9_sumOf 33 = .ok (.iinc 3 1, 3) := by decide +kernel
theorem dX9_sumOf_36 : decode cX9_sumOf 36 = .ok (.goto (-32), 3) := by decide +kernel
theorem dX9_sumOf_39 : decode cX9_sumOf 39 = .ok (.iload_n 2, 1) := by decide +kernel
theorem dX9_sumOf_40 : decode cX9_sumOf 40 = .ok (.ireturn, 1) := by decide +kernel
theorem dX9_outOf_0 : decode cX9_outOf 0 = .ok (.aload_n 0, 1) := by decide +kernel
theorem dX9_outOf_1 : decode cX9_outOf 1 = .ok (.iload_n 1, 1) := by decide +kernel
theorem dX9_outOf_2 : decode cX9_outOf 2 = .ok (.invokevirtual 143, 3) := by decide +kernel
theorem dX9_outOf_5 : decode cX9_outOf 5 = .ok (.istore_n 2, 1) := by decide +kernel
theorem dX9_outOf_6 : decode cX9_outOf 6 = .ok (.iload_n 2, 1) := by decide +kernel
theorem dX9_outOf_7 : decode cX9_outOf 7 = .ok (.ifCond .le 7, 3) := by decide +kernel
theorem dX9_outOf_10 : decode cX9_outOf 10 = .ok (.iconst 1, 1) := by decide +kernel
theorem dX9_outOf_11 : decode cX9_outOf 11 = .ok (.goto 12, 3) := by decide +kernel
theorem dX9_outOf_14 : decode cX9_outOf 14 = .ok (.iload_n 2, 1) := by decide +kernel
theorem dX9_outOf_15 : decode cX9_outOf 15 = .ok (.ifCond .ge 7, 3) := by decide +kernel
theorem dX9_outOf_18 : decode cX9_outOf 18 = .ok (.iconst (-1), 1) := by decide +kernel
theorem dX9_outOf_19 : decode cX9_outOf 19 = .ok (.goto 4, 3) := by decide +kernel
theorem dX9_outOf_22 : decode cX9_outOf 22 = .ok (.iconst 0, 1) := by decide +kernel
theorem dX9_outOf_23 : decode cX9_outOf 23 = .ok (.ireturn, 1) := by decide +kernel
theorem dX9_leaning_0 : decode cX9_leaning 0 = .ok (.iconst 0, 1) := by decide +kernel
theorem dX9_leaning_1 : decode cX9_leaning 1 = .ok (.istore_n 3, 1) := by decide +kernel
theorem dX9_leaning_2 : decode cX9_leaning 2 = .ok (.iconst 0, 1) := by decide +kernel
theorem dX9_leaning_3 : decode cX9_leaning 3 = .ok (.istore 4, 2) := by decide +kernel
theorem dX9_leaning_5 : decode cX9_leaning 5 = .ok (.iload 4, 2) := by decide +kernel
theorem dX9_leaning_7 : decode cX9_leaning 7 = .ok (.aload_n 0, 1) := by decide +kernel
theorem dX9_leaning_8 : decode cX9_leaning 8 = .ok (.getfield 112, 3) := by decide +kernel
theorem dX9_leaning_11 : decode cX9_leaning 11 = .ok (.if_icmp .ge 32, 3) := by decide +kernel
theorem dX9_leaning_14 : decode cX9_leaning 14 = .ok (.iload_n 3, 1) := by decide +kernel
theorem dX9_leaning_15 : decode cX9_leaning 15 = .ok (.aload_n 0, 1) := by decide +kernel
theorem dX9_leaning_16 : decode cX9_leaning 16 = .ok (.getfield 16, 3) := by decide +kernel
theorem dX9_leaning_19 : decode cX9_leaning 19 = .ok (.iconst 3, 1) := by decide +kernel
theorem dX9_leaning_20 : decode cX9_leaning 20 = .ok (.iload 4, 2) := by decide +kernel
theorem dX9_leaning_22 : decode cX9_leaning 22 = .ok (.imul, 1) := by decide +kernel
theorem dX9_leaning_23 : decode cX9_leaning 23 = .ok (.iload_n 1, 1) := by decide +kernel
theorem dX9_leaning_24 : decode cX9_leaning 24 = .ok (.iadd, 1) := by decide +kernel
theorem dX9_leaning_25 : decode cX9_leaning 25 = .ok (.iaload, 1) := by decide +kernel
theorem dX9_leaning_26 : decode cX9_leaning 26 = .ok (.iload_n 2, 1) := by decide +kernel
theorem dX9_leaning_27 : decode cX9_leaning 27 = .ok (.if_icmp .ne 7, 3) := by decide +kernel
theorem dX9_leaning_30 : decode cX9_leaning 30 = .ok (.iconst 1, 1) := by decide +kernel
theorem dX9_leaning_31 : decode cX9_leaning 31 = .ok (.goto 4, 3) := by decide +kernel
theorem dX9_leaning_34 : decode cX9_leaning 34 = .ok (.iconst 0, 1) := by decide +kernel
theorem dX9_leaning_35 : decode cX9_leaning 35 = .ok (.iadd, 1) := by decide +kernel
theorem dX9_leaning_36 : decode cX9_leaning 36 = .ok (.istore_n 3, 1) := by decide +kernel
theorem dX9_leaning_37 : decode cX9_leaning 37 = .ok (.iinc 4 1, 3) := by decide +kernel
theorem dX9_leaning_40 : decode cX9_leaning 40 = .ok (.goto (-35), 3) := by decide +kernel
theorem dX9_leaning_43 : decode cX9_leaning 43 = .ok (.iload_n 3, 1) := by decide +kernel
theorem dX9_leaning_44 : decode cX9_leaning 44 = .ok (.ireturn, 1) := by decide +kernel
theorem dX9_musselNow_0 : decode cX9_musselNow 0 = .ok (.iload_n 2, 1) := by decide +kernel
theorem dX9_musselNow_1 : decode cX9_musselNow 1 = .ok (.bipush 20, 2) := by decide +kernel
theorem dX9_musselNow_3 : decode cX9_musselNow 3 = .ok (.if_icmp .lt 13, 3) := by decide +kernel
theorem dX9_musselNow_6 : decode cX9_musselNow 6 = .ok (.aload_n 0, 1) := by decide +kernel
theorem dX9_musselNow_7 : decode cX9_musselNow 7 = .ok (.iload_n 1, 1) := by decide +kernel
theorem dX9_musselNow_8 : decode cX9_musselNow 8 = .ok (.iload_n 2, 1) := by decide +kernel
theorem dX9_musselNow_9 : decode cX9_musselNow 9 = .ok (.bipush 20, 2) := by decide +kernel
theorem dX9_musselNow_11 : decode cX9_musselNow 11 = .ok (.isub, 1) := by decide +kernel
theorem dX9_musselNow_12 : decode cX9_musselNow 12 = .ok (.invokevirtual 146, 3) := by decide +kernel
theorem dX9_musselNow_15 : decode cX9_musselNow 15 = .ok (.ireturn, 1) := by decide +kernel
theorem dX9_musselNow_16 : decode cX9_musselNow 16 = .ok (.iload_n 2, 1) := by decide +kernel
theorem dX9_musselNow_17 : decode cX9_musselNow 17 = .ok (.bipush 10, 2) := by decide +kernel
theorem dX9_musselNow_19 : decode cX9_musselNow 19 = .ok (.if_icmp .lt 16, 3) := by decide +kernel
theorem dX9_musselNow_22 : decode cX9_musselNow 22 = .ok (.aload_n 0, 1) := by decide +kernel
theorem dX9_musselNow_23 : decode cX9_musselNow 23 = .ok (.iload_n 1, 1) := by decide +kernel
theorem dX9_musselNow_24 : decode cX9_musselNow 24 = .ok (.iload_n 2, 1) := by decide +kernel
theorem dX9_musselNow_25 : decode cX9_musselNow 25 = .ok (.bipush 10, 2) := by decide +kernel
theorem dX9_musselNow_27 : decode cX9_musselNow 27 = .ok (.isub, 1) := by decide +kernel
theorem dX9_musselNow_28 : decode cX9_musselNow 28 = .ok (.invokevirtual 140, 3) := by decide +kernel
theorem dX9_musselNow_31 : decode cX9_musselNow 31 = .ok (.bipush 100, 2) := by decide +kernel
theorem dX9_musselNow_33 : decode cX9_musselNow 33 = .ok (.iadd, 1) := by decide +kernel
theorem dX9_musselNow_34 : decode cX9_musselNow 34 = .ok (.ireturn, 1) := by decide +kernel
theorem dX9_musselNow_35 : decode cX9_musselNow 35 = .ok (.iload_n 2, 1) := by decide +kernel
theorem dX9_musselNow_36 : decode cX9_musselNow 36 = .ok (.tableswitch 102 0 6 #[44, 51, 58, 58, 58, 71, 85], 44) := by decide +kernel
theorem dX9_musselNow_80 : decode cX9_musselNow 80 = .ok (.aload_n 0, 1) := by decide +kernel
theorem dX9_musselNow_81 : decode cX9_musselNow 81 = .ok (.getfield 7, 3) := by decide +kernel
theorem dX9_musselNow_84 : decode cX9_musselNow 84 = .ok (.iload_n 1, 1) := by decide +kernel
theorem dX9_musselNow_85 : decode cX9_musselNow 85 = .ok (.iaload, 1) := by decide +kernel
theorem dX9_musselNow_86 : decode cX9_musselNow 86 = .ok (.ireturn, 1) := by decide +kernel
theorem dX9_musselNow_87 : decode cX9_musselNow 87 = .ok (.aload_n 0, 1) := by decide +kernel
theorem dX9_musselNow_88 : decode cX9_musselNow 88 = .ok (.getfield 13, 3) := by decide +kernel
theorem dX9_musselNow_91 : decode cX9_musselNow 91 = .ok (.iload_n 1, 1) := by decide +kernel
theorem dX9_musselNow_92 : decode cX9_musselNow 92 = .ok (.iaload, 1) := by decide +kernel
theorem dX9_musselNow_93 : decode cX9_musselNow 93 = .ok (.ireturn, 1) := by decide +kernel
theorem dX9_musselNow_94 : decode cX9_musselNow 94 = .ok (.aload_n 0, 1) := by decide +kernel
theorem dX9_musselNow_95 : decode cX9_musselNow 95 = .ok (.getfield 16, 3) := by decide +kernel
theorem dX9_musselNow_98 : decode cX9_musselNow 98 = .ok (.iconst 3, 1) := by decide +kernel
theorem dX9_musselNow_99 : decode cX9_musselNow 99 = .ok (.iload_n 1, 1) := by decide +kernel
theorem dX9_musselNow_100 : decode cX9_musselNow 100 = .ok (.imul, 1) := by decide +kernel
theorem dX9_musselNow_101 : decode cX9_musselNow 101 = .ok (.iload_n 2, 1) := by decide +kernel
theorem dX9_musselNow_102 : decode cX9_musselNow 102 = .ok (.iadd, 1) := by decide +kernel
theorem dX9_musselNow_103 : decode cX9_musselNow 103 = .ok (.iconst 2, 1) := by decide +kernel
theorem dX9_musselNow_104 : decode cX9_musselNow 104 = .ok (.isub, 1) := by decide +kernel
theorem dX9_musselNow_105 : decode cX9_musselNow 105 = .ok (.iaload, 1) := by decide +kernel
theorem dX9_musselNow_106 : decode cX9_musselNow 106 = .ok (.ireturn, 1) := by decide +kernel
theorem dX9_musselNow_107 : decode cX9_musselNow 107 = .ok (.aload_n 0, 1) := by decide +kernel
theorem dX9_musselNow_108 : decode cX9_musselNow 108 = .ok (.iload_n 1, 1) := by decide +kernel
theorem dX9_musselNow_109 : decode cX9_musselNow 109 = .ok (.invokevirtual 127, 3) := by decide +kernel
theorem dX9_musselNow_112 : decode cX9_musselNow 112 = .ok (.ifCond .eq 7, 3) := by decide +kernel
theorem dX9_musselNow_115 : decode cX9_musselNow 115 = .ok (.iconst 1, 1) := by decide +kernel
theorem dX9_musselNow_116 : decode cX9_musselNow 116 = .ok (.goto 4, 3) := by decide +kernel
theorem dX9_musselNow_119 : decode cX9_musselNow 119 = .ok (.iconst 0, 1) := by decide +kernel
theorem dX9_musselNow_120 : decode cX9_musselNow 120 = .ok (.ireturn, 1) := by decide +kernel
theorem dX9_musselNow_121 : decode cX9_musselNow 121 = .ok (.aload_n 0, 1) := by decide +kernel
theorem dX9_musselNow_122 : decode cX9_musselNow 122 = .ok (.getfield 115, 3) := by decide +kernel
theorem dX9_musselNow_125 : decode cX9_musselNow 125 = .ok (.iload_n 1, 1) := by decide +kernel
theorem dX9_musselNow_126 : decode cX9_musselNow 126 = .ok (.invokestatic 130, 3) := by decide +kernel
theorem dX9_musselNow_129 : decode cX9_musselNow 129 = .ok (.ifCond .eq 7, 3) := by decide +kernel
theorem dX9_musselNow_132 : decode cX9_musselNow 132 = .ok (.iconst 0, 1) := by decide +kernel
theorem dX9_musselNow_133 : decode cX9_musselNow 133 = .ok (.goto 4, 3) := by decide +kernel
theorem dX9_musselNow_136 : decode cX9_musselNow 136 = .ok (.iconst 1, 1) := by decide +kernel
theorem dX9_musselNow_137 : decode cX9_musselNow 137 = .ok (.ireturn, 1) := by decide +kernel
theorem dX9_musselNow_138 : decode cX9_musselNow 138 = .ok (.aload_n 0, 1) := by decide +kernel
theorem dX9_musselNow_139 : decode cX9_musselNow 139 = .ok (.iload_n 1, 1) := by decide +kernel
theorem dX9_musselNow_140 : decode cX9_musselNow 140 = .ok (.invokevirtual 149, 3) := by decide +kernel
theorem dX9_musselNow_143 : decode cX9_musselNow 143 = .ok (.ireturn, 1) := by decide +kernel
theorem dX9_isTold_0 : decode cX9_isTold 0 = .ok (.iload_n 0, 1) := by decide +kernel
theorem dX9_isTold_1 : decode cX9_isTold 1 = .ok (.iconst 0, 1) := by decide +kernel
theorem dX9_isTold_2 : decode cX9_isTold 2 = .ok (.bipush 7, 2) := by decide +kernel
theorem dX9_isTold_4 : decode cX9_isTold 4 = .ok (.invokestatic 79, 3) := by decide +kernel
theorem dX9_isTold_7 : decode cX9_isTold 7 = .ok (.ifCond .ne 25, 3) := by decide +kernel
theorem dX9_isTold_10 : decode cX9_isTold 10 = .ok (.iload_n 0, 1) := by decide +kernel
theorem dX9_isTold_11 : decode cX9_isTold 11 = .ok (.bipush 10, 2) := by decide +kernel
theorem dX9_isTold_13 : decode cX9_isTold 13 = .ok (.bipush 12, 2) := by decide +kernel
theorem dX9_isTold_15 : decode cX9_isTold 15 = .ok (.invokestatic 79, 3) := by decide +kernel
theorem dX9_isTold_18 : decode cX9_isTold 18 = .ok (.ifCond .ne 14, 3) := by decide +kernel
theorem dX9_isTold_21 : decode cX9_isTold 21 = .ok (.iload_n 0, 1) := by decide +kernel
theorem dX9_isTold_22 : decode cX9_isTold 22 = .ok (.bipush 20, 2) := by decide +kernel
theorem dX9_isTold_24 : decode cX9_isTold 24 = .ok (.bipush 22, 2) := by decide +kernel
theorem dX9_isTold_26 : decode cX9_isTold 26 = .ok (.invokestatic 79, 3) := by decide +kernel
theorem dX9_isTold_29 : decode cX9_isTold 29 = .ok (.ifCond .eq 7, 3) := by decide +kernel
theorem dX9_isTold_32 : decode cX9_isTold 32 = .ok (.iconst 1, 1) := by decide +kernel
theorem dX9_isTold_33 : decode cX9_isTold 33 = .ok (.goto 4, 3) := by decide +kernel
theorem dX9_isTold_36 : decode cX9_isTold 36 = .ok (.iconst 0, 1) := by decide +kernel
theorem dX9_isTold_37 : decode cX9_isTold 37 = .ok (.ireturn, 1) := by decide +kernel
theorem dX9_mussel_0 : decode cX9_mussel 0 = .ok (.aload_n 0, 1) := by decide +kernel
theorem dX9_mussel_1 : decode cX9_mussel 1 = .ok (.iload_n 1, 1) := by decide +kernel
theorem dX9_mussel_2 : decode cX9_mussel 2 = .ok (.invokevirtual 152, 3) := by decide +kernel
theorem dX9_mussel_5 : decode cX9_mussel 5 = .ok (.ifCond .ne 8, 3) := by decide +kernel
theorem dX9_mussel_8 : decode cX9_mussel 8 = .ok (.bipush (-101), 2) := by decide +kernel
theorem dX9_mussel_10 : decode cX9_mussel 10 = .ok (.goto 21, 3) := by decide +kernel
theorem dX9_mussel_13 : decode cX9_mussel 13 = .ok (.iload_n 2, 1) := by decide +kernel
theorem dX9_mussel_14 : decode cX9_mussel 14 = .ok (.invokestatic 155, 3) := by decide +kernel
theorem dX9_mussel_17 : decode cX9_mussel 17 = .ok (.ifCond .eq 12, 3) := by decide +kernel
theorem dX9_mussel_20 : decode cX9_mussel 20 = .ok (.aload_n 0, 1) := by decide +kernel
theorem dX9_mussel_21 : decode cX9_mussel 21 = .ok (.iload_n 1, 1) := by decide +kernel
theorem dX9_mussel_22 : decode cX9_mussel 22 = .ok (.iload_n 2, 1) := by decide +kernel
theorem dX9_mussel_23 : decode cX9_mussel 23 = .ok (.invokevirtual 158, 3) := by decide +kernel
theorem dX9_mussel_26 : decode cX9_mussel 26 = .ok (.goto 5, 3) := by decide +kernel
theorem dX9_mussel_29 : decode cX9_mussel 29 = .ok (.bipush (-102), 2) := by decide +kernel
theorem dX9_mussel_31 : decode cX9_mussel 31 = .ok (.ireturn, 1) := by decide +kernel
theorem dX9_as_0 : decode cX9_as 0 = .ok (.aload_n 0, 1) := by decide +kernel
theorem dX9_as_1 : decode cX9_as 1 = .ok (.iload_n 1, 1) := by decide +kernel
theorem dX9_as_2 : decode cX9_as 2 = .ok (.invokevirtual 152, 3) := by decide +kernel
theorem dX9_as_5 : decode cX9_as 5 = .ok (.ifCond .ne 6, 3) := by decide +kernel
theorem dX9_as_8 : decode cX9_as 8 = .ok (.bipush (-101), 2) := by decide +kernel
theorem dX9_as_10 : decode cX9_as 10 = .ok (.ireturn, 1) := by decide +kernel
theorem dX9_as_11 : decode cX9_as 11 = .ok (.iload_n 2, 1) := by decide +kernel
theorem dX9_as_12 : decode cX9_as 12 = .ok (.iconst 0, 1) := by decide +kernel
theorem dX9_as_13 : decode cX9_as 13 = .ok (.iconst 4, 1) := by decide +kernel
theorem dX9_as_14 : decode cX9_as 14 = .ok (.invokestatic 79, 3) := by decide +kernel
theorem dX9_as_17 : decode cX9_as 17 = .ok (.ifCond .ne 6, 3) := by decide +kernel
theorem dX9_as_20 : decode cX9_as 20 = .ok (.bipush (-102), 2) := by decide +kernel
theorem dX9_as_22 : decode cX9_as 22 = .ok (.ireturn, 1) := by decide +kernel
theorem dX9_as_23 : decode cX9_as 23 = .ok (.aload_n 0, 1) := by decide +kernel
theorem dX9_as_24 : decode cX9_as 24 = .ok (.getfield 7, 3) := by decide +kernel
theorem dX9_as_27 : decode cX9_as 27 = .ok (.iload_n 1, 1) := by decide +kernel
theorem dX9_as_28 : decode cX9_as 28 = .ok (.iaload, 1) := by decide +kernel
theorem dX9_as_29 : decode cX9_as 29 = .ok (.istore_n 3, 1) := by decide +kernel
theorem dX9_as_30 : decode cX9_as 30 = .ok (.iload_n 2, 1) := by decide +kernel
theorem dX9_as_31 : decode cX9_as 31 = .ok (.ifCond .eq 18, 3) := by decide +kernel
theorem dX9_as_34 : decode cX9_as 34 = .ok (.iload_n 3, 1) := by decide +kernel
theorem dX9_as_35 : decode cX9_as 35 = .ok (.iload_n 2, 1) := by decide +kernel
theorem dX9_as_36 : decode cX9_as 36 = .ok (.if_icmp .eq 13, 3) := by decide +kernel
theorem dX9_as_39 : decode cX9_as 39 = .ok (.iload_n 2, 1) := by decide +kernel
theorem dX9_as_40 : decode cX9_as 40 = .ok (.iconst 3, 1) := by decide +kernel
theorem dX9_as_41 : decode cX9_as 41 = .ok (.if_icmp .ne 12, 3) := by decide +kernel
theorem dX9_as_44 : decode cX9_as 44 = .ok (.iload_n 3, 1) := by decide +kernel
theorem dX9_as_45 : decode cX9_as 45 = .ok (.iconst 4, 1) := by decide +kernel
theorem dX9_as_46 : decode cX9_as 46 = .ok (.if_icmp .ne 7, 3) := by decide +kernel
theorem dX9_as_49 : decode cX9_as 49 = .ok (.iload_n 1, 1) := by decide +kernel
theorem dX9_as_50 : decode cX9_as 50 = .ok (.goto 4, 3) := by decide +kernel
theorem dX9_as_53 : decode cX9_as 53 = .ok (.iconst (-1), 1) := by decide +kernel
theorem dX9_as_54 : decode cX9_as 54 = .ok (.ireturn, 1) := by decide +kernel
theorem dX9_questionNow_0 : decode cX9_questionNow 0 = .ok (.iload_n 2, 1) := by decide +kernel
theorem dX9_questionNow_1 : decode cX9_questionNow 1 = .ok (.tableswitch 72 0 4 #[35, 45, 51, 58, 65], 35) := by decide +kernel
theorem dX9_questionNow_36 : decode cX9_questionNow 36 = .ok (.aload_n 0, 1) := by decide +kernel
theorem dX9_questionNow_37 : decode cX9_questionNow 37 = .ok (.iload_n 1, 1) := by decide +kernel
theorem dX9_questionNow_38 : decode cX9_questionNow 38 = .ok (.invokevirtual 143, 3) := by decide +kernel
theorem dX9_questionNow_41 : decode cX9_questionNow 41 = .ok (.sipush 200, 3) := by decide +kernel
theorem dX9_questionNow_44 : decode cX9_questionNow 44 = .ok (.iadd, 1) := by decide +kernel
theorem dX9_questionNow_45 : decode cX9_questionNow 45 = .ok (.ireturn, 1) := by decide +kernel
theorem dX9_questionNow_46 : decode cX9_questionNow 46 = .ok (.aload_n 0, 1) := by decide +kernel
theorem dX9_questionNow_47 : decode cX9_questionNow 47 = .ok (.iload_n 1, 1) := by decide +kernel
theorem dX9_questionNow_48 : decode cX9_questionNow 48 = .ok (.invokevirtual 161, 3) := by decide +kernel
theorem dX9_questionNow_51 : decode cX9_questionNow 51 = .ok (.ireturn, 1) := by decide +kernel
theorem dX9_questionNow_52 : decode cX9_questionNow 52 = .ok (.aload_n 0, 1) := by decide +kernel
theorem dX9_questionNow_53 : decode cX9_questionNow 53 = .ok (.getfield 19, 3) := by decide +kernel
theorem dX9_questionNow_56 : decode cX9_questionNow 56 = .ok (.iload_n 1, 1) := by decide +kernel
theorem dX9_questionNow_57 : decode cX9_questionNow 57 = .ok (.iaload, 1) := by decide +kernel
theorem dX9_questionNow_58 : decode cX9_questionNow 58 = .ok (.ireturn, 1) := by decide +kernel
theorem dX9_questionNow_59 : decode cX9_questionNow 59 = .ok (.aload_n 0, 1) := by decide +kernel
theorem dX9_questionNow_60 : decode cX9_questionNow 60 = .ok (.getfield 22, 3) := by decide +kernel
theorem dX9_questionNow_63 : decode cX9_questionNow 63 = .ok (.iload_n 1, 1) := by decide +kernel
theorem dX9_questionNow_64 : decode cX9_questionNow 64 = .ok (.iaload, 1) := by decide +kernel
theorem dX9_questionNow_65 : decode cX9_questionNow 65 = .ok (.ireturn, 1) := by decide +kernel
theorem dX9_questionNow_66 : decode cX9_questionNow 66 = .ok (.aload_n 0, 1) := by decide +kernel
theorem dX9_questionNow_67 : decode cX9_questionNow 67 = .ok (.iload_n 1, 1) := by decide +kernel
theorem dX9_questionNow_68 : decode cX9_questionNow 68 = .ok (.iconst 1, 1) := by decide +kernel
theorem dX9_questionNow_69 : decode cX9_questionNow 69 = .ok (.invokevirtual 164, 3) := by decide +kernel
theorem dX9_questionNow_72 : decode cX9_questionNow 72 = .ok (.ireturn, 1) := by decide +kernel
theorem dX9_questionNow_73 : decode cX9_questionNow 73 = .ok (.aload_n 0, 1) := by decide +kernel
theorem dX9_questionNow_74 : decode cX9_questionNow 74 = .ok (.iload_n 1, 1) := by decide +kernel
theorem dX9_questionNow_75 : decode cX9_questionNow 75 = .ok (.iconst (-1), 1) := by decide +kernel
theorem dX9_questionNow_76 : decode cX9_questionNow 76 = .ok (.invokevirtual 164, 3) := by decide +kernel
theorem dX9_questionNow_79 : decode cX9_questionNow 79 = .ok (.ireturn, 1) := by decide +kernel
theorem dX9_question_0 : decode cX9_question 0 = .ok (.aload_n 0, 1) := by decide +kernel
theorem dX9_question_1 : decode cX9_question 1 = .ok (.iload_n 1, 1) := by decide +kernel
theorem dX9_question_2 : decode cX9_question 2 = .ok (.invokevirtual 167, 3) := by decide +kernel
theorem dX9_question_5 : decode cX9_question 5 = .ok (.ifCond .ne 8, 3) := by decide +kernel
theorem dX9_question_8 : decode cX9_question 8 = .ok (.bipush (-101), 2) := by decide +kernel
theorem dX9_question_10 : decode cX9_question 10 = .ok (.goto 23, 3) := by decide +kernel
theorem dX9_question_13 : decode cX9_question 13 = .ok (.iload_n 2, 1) := by decide +kernel
theorem dX9_question_14 : decode cX9_question 14 = .ok (.iconst 0, 1) := by decide +kernel
theorem dX9_question_15 : decode cX9_question 15 = .ok (.iconst 5, 1) := by decide +kernel
theorem dX9_question_16 : decode cX9_question 16 = .ok (.invokestatic 79, 3) := by decide +kernel
theorem dX9_question_19 : decode cX9_question 19 = .ok (.ifCond .eq 12, 3) := by decide +kernel
theorem dX9_question_22 : decode cX9_question 22 = .ok (.aload_n 0, 1) := by decide +kernel
theorem dX9_question_23 : decode cX9_question 23 = .ok (.iload_n 1, 1) := by decide +kernel
theorem dX9_question_24 : decode cX9_question 24 = .ok (.iload_n 2, 1) := by decide +kernel
theorem dX9_question_25 : decode cX9_question 25 = .ok (.invokevirtual 170, 3) := by decide +kernel
theorem dX9_question_28 : decode cX9_question 28 = .ok (.goto 5, 3) := by decide +kernel
theorem dX9_question_31 : decode cX9_question 31 = .ok (.bipush (-102), 2) := by decide +kernel
theorem dX9_question_33 : decode cX9_question 33 = .ok (.ireturn, 1) := by decide +kernel
theorem dX9_ask_0 : decode cX9_ask 0 = .ok (.aload_n 0, 1) := by decide +kernel
theorem dX9_ask_1 : decode cX9_ask 1 = .ok (.iload_n 1, 1) := by decide +kernel
theorem dX9_ask_2 : decode cX9_ask 2 = .ok (.invokevirtual 167, 3) := by decide +kernel
theorem dX9_ask_5 : decode cX9_ask 5 = .ok (.ifCond .ne 6, 3) := by decide +kernel
theorem dX9_ask_8 : decode cX9_ask 8 = .ok (.bipush (-101), 2) := by decide +kernel
theorem dX9_ask_10 : decode cX9_ask 10 = .ok (.ireturn, 1) := by decide +kernel
theorem dX9_ask_11 : decode cX9_ask 11 = .ok (.aload_n 0, 1) := by decide +kernel
theorem dX9_ask_12 : decode cX9_ask 12 = .ok (.getfield 19, 3) := by decide +kernel
theorem dX9_ask_15 : decode cX9_ask 15 = .ok (.iload_n 1, 1) := by decide +kernel
theorem dX9_ask_16 : decode cX9_ask 16 = .ok (.iaload, 1) := by decide +kernel
theorem dX9_ask_17 : decode cX9_ask 17 = .ok (.bipush 99, 2) := by decide +kernel
theorem dX9_ask_19 : decode cX9_ask 19 = .ok (.if_icmp .ne 6, 3) := by decide +kernel
theorem dX9_ask_22 : decode cX9_ask 22 = .ok (.bipush (-104), 2) := by decide +kernel
theorem dX9_ask_24 : decode cX9_ask 24 = .ok (.ireturn, 1) := by decide +kernel
theorem dX9_ask_25 : decode cX9_ask 25 = .ok (.aload_n 0, 1) := by decide +kernel
theorem dX9_ask_26 : decode cX9_ask 26 = .ok (.iload_n 1, 1) := by decide +kernel
theorem dX9_ask_27 : decode cX9_ask 27 = .ok (.invokevirtual 161, 3) := by decide +kernel
theorem dX9_ask_30 : decode cX9_ask 30 = .ok (.istore_n 2, 1) := by decide +kernel
theorem dX9_ask_31 : decode cX9_ask 31 = .ok (.aload_n 0, 1) := by decide +kernel
theorem dX9_ask_32 : decode cX9_ask 32 = .ok (.getfield 19, 3) := by decide +kernel
theorem dX9_ask_35 : decode cX9_ask 35 = .ok (.iload_n 1, 1) := by decide +kernel
theorem dX9_ask_36 : decode cX9_ask 36 = .ok (.dup2, 1) := by decide +kernel
theorem dX9_ask_37 : decode cX9_ask 37 = .ok (.iaload, 1) := by decide +kernel
theorem dX9_ask_38 : decode cX9_ask 38 = .ok (.iconst 1, 1) := by decide +kernel
theorem dX9_ask_39 : decode cX9_ask 39 = .ok (.iadd, 1) := by decide +kernel
theorem dX9_ask_40 : decode cX9_ask 40 = .ok (.iastore, 1) := by decide +kernel
theorem dX9_ask_41 : decode cX9_ask 41 = .ok (.aload_n 0, 1) := by decide +kernel
theorem dX9_ask_42 : decode cX9_ask 42 = .ok (.getfield 22, 3) := by decide +kernel
theorem dX9_ask_45 : decode cX9_ask 45 = .ok (.iload_n 1, 1) := by decide +kernel
theorem dX9_ask_46 : decode cX9_ask 46 = .ok (.dup2, 1) := by decide +kernel
theorem dX9_ask_47 : decode cX9_ask 47 = .ok (.iaload, 1) := by decide +kernel
theorem dX9_ask_48 : decode cX9_ask 48 = .ok (.iload_n 2, 1) := by decide +kernel
theorem dX9_ask_49 : decode cX9_ask 49 = .ok (.iconst 1, 1) := by decide +kernel
theorem dX9_ask_50 : decode cX9_ask 50 = .ok (.if_icmp .ne 7, 3) := by decide +kernel
theorem dX9_ask_53 : decode cX9_ask 53 = .ok (.iconst 1, 1) := by decide +kernel
theorem dX9_ask_54 : decode cX9_ask 54 = .ok (.goto 4, 3) := by decide +kernel
theorem dX9_ask_57 : decode cX9_ask 57 = .ok (.iconst 0, 1) := by decide +kernel
theorem dX9_ask_58 : decode cX9_ask 58 = .ok (.iadd, 1) := by decide +kernel
theorem dX9_ask_59 : decode cX9_ask 59 = .ok (.iastore, 1) := by decide +kernel
theorem dX9_ask_60 : decode cX9_ask 60 = .ok (.iload_n 2, 1) := by decide +kernel
theorem dX9_ask_61 : decode cX9_ask 61 = .ok (.iconst (-1), 1) := by decide +kernel
theorem dX9_ask_62 : decode cX9_ask 62 = .ok (.if_icmp .ne 7, 3) := by decide +kernel
theorem dX9_ask_65 : decode cX9_ask 65 = .ok (.iconst 2, 1) := by decide +kernel
theorem dX9_ask_66 : decode cX9_ask 66 = .ok (.goto 4, 3) := by decide +kernel
theorem dX9_ask_69 : decode cX9_ask 69 = .ok (.iload_n 2, 1) := by decide +kernel
theorem dX9_ask_70 : decode cX9_ask 70 = .ok (.ireturn, 1) := by decide +kernel
theorem dX9_turnTide_0 : decode cX9_turnTide 0 = .ok (.iconst 0, 1) := by decide +kernel
theorem dX9_turnTide_1 : decode cX9_turnTide 1 = .ok (.istore_n 1, 1) := by decide +kernel
theorem dX9_turnTide_2 : decode cX9_turnTide 2 = .ok (.iload_n 1, 1) := by decide +kernel
theorem dX9_turnTide_3 : decode cX9_turnTide 3 = .ok (.aload_n 0, 1) := by decide +kernel
theorem dX9_turnTide_4 : decode cX9_turnTide 4 = .ok (.getfield 112, 3) := by decide +kernel
theorem dX9_turnTide_7 : decode cX9_turnTide 7 = .ok (.if_icmp .ge 89, 3) := by decide +kernel
theorem dX9_turnTide_10 : decode cX9_turnTide 10 = .ok (.iconst 0, 1) := by decide +kernel
theorem dX9_turnTide_11 : decode cX9_turnTide 11 = .ok (.istore_n 2, 1) := by decide +kernel
theorem dX9_turnTide_12 : decode cX9_turnTide 12 = .ok (.iload_n 2, 1) := by decide +kernel
theorem dX9_turnTide_13 : decode cX9_turnTide 13 = .ok (.iconst 3, 1) := by decide +kernel
theorem dX9_turnTide_14 : decode cX9_turnTide 14 = .ok (.if_icmp .ge 76, 3) := by decide +kernel
theorem dX9_turnTide_17 : decode cX9_turnTide 17 = .ok (.aload_n 0, 1) := by decide +kernel
theorem dX9_turnTide_18 : decode cX9_turnTide 18 = .ok (.getfield 16, 3) := by decide +kernel
theorem dX9_turnTide_21 : decode cX9_turnTide 21 = .ok (.iconst 3, 1) := by decide +kernel
theorem dX9_turnTide_22 : decode cX9_turnTide 22 = .ok (.iload_n 1, 1) := by decide +kernel
theorem dX9_turnTide_23 : decode cX9_turnTide 23 = .ok (.imul, 1) := by decide +kernel
theorem dX9_turnTide_24 : decode cX9_turnTide 24 = .ok (.iload_n 2, 1) := by decide +kernel
theorem dX9_turnTide_25 : decode cX9_turnTide 25 = .ok (.iadd, 1) := by decide +kernel
theorem dX9_turnTide_26 : decode cX9_turnTide 26 = .ok (.iaload, 1) := by decide +kernel
theorem dX9_turnTide_27 : decode cX9_turnTide 27 = .ok (.istore_n 3, 1) := by decide +kernel
theorem dX9_turnTide_28 : decode cX9_turnTide 28 = .ok (.iload_n 3, 1) := by decide +kernel
theorem dX9_turnTide_29 : decode cX9_turnTide 29 = .ok (.aload_n 0, 1) := by decide +kernel
theorem dX9_turnTide_30 : decode cX9_turnTide 30 = .ok (.iload_n 1, 1) := by decide +kernel
theorem dX9_turnTide_31 : decode cX9_turnTide 31 = .ok (.iload_n 2, 1) := by decide +kernel
theorem dX9_turnTide_32 : decode cX9_turnTide 32 = .ok (.invokevirtual 134, 3) := by decide +kernel
theorem dX9_turnTide_35 : decode cX9_turnTide 35 = .ok (.iadd, 1) := by decide +kernel
theorem dX9_turnTide_36 : decode cX9_turnTide 36 = .ok (.aload_n 0, 1) := by decide +kernel
theorem dX9_turnTide_37 : decode cX9_turnTide 37 = .ok (.iload_n 1, 1) := by decide +kernel
theorem dX9_turnTide_38 : decode cX9_turnTide 38 = .ok (.iload_n 2, 1) := by decide +kernel
theorem dX9_turnTide_39 : decode cX9_turnTide 39 = .ok (.invokevirtual 137, 3) := by decide +kernel
theorem dX9_turnTide_42 : decode cX9_turnTide 42 = .ok (.iadd, 1) := by decide +kernel
theorem dX9_turnTide_43 : decode cX9_turnTide 43 = .ok (.istore 4, 2) := by decide +kernel
theorem dX9_turnTide_45 : decode cX9_turnTide 45 = .ok (.aload_n 0, 1) := by decide +kernel
theorem dX9_turnTide_46 : decode cX9_turnTide 46 = .ok (.getfield 38, 3) := by decide +kernel
theorem dX9_turnTide_49 : decode cX9_turnTide 49 = .ok (.iconst 3, 1) := by decide +kernel
theorem dX9_turnTide_50 : decode cX9_turnTide 50 = .ok (.iload_n 1, 1) := by decide +kernel
theorem dX9_turnTide_51 : decode cX9_turnTide 51 = .ok (.imul, 1) := by decide +kernel
theorem dX9_turnTide_52 : decode cX9_turnTide 52 = .ok (.iload_n 2, 1) := by decide +kernel
theorem dX9_turnTide_53 : decode cX9_turnTide 53 = .ok (.iadd, 1) := by decide +kernel
theorem dX9_turnTide_54 : decode cX9_turnTide 54 = .ok (.aload_n 0, 1) := by decide +kernel
theorem dX9_turnTide_55 : decode cX9_turnTide 55 = .ok (.getfield 7, 3) := by decide +kernel
theorem dX9_turnTide_58 : decode cX9_turnTide 58 = .ok (.iload_n 1, 1) := by decide +kernel
theorem dX9_turnTide_59 : decode cX9_turnTide 59 = .ok (.iaload, 1) := by decide +kernel
theorem dX9_turnTide_60 : decode cX9_turnTide 60 = .ok (.iconst 2, 1) := by decide +kernel
theorem dX9_turnTide_61 : decode cX9_turnTide 61 = .ok (.if_icmp .eq 8, 3) := by decide +kernel
theorem dX9_turnTide_64 : decode cX9_turnTide 64 = .ok (.iload 4, 2) := by decide +kernel
theorem dX9_turnTide_66 : decode cX9_turnTide 66 = .ok (.ifCond .ne 7, 3) := by decide +kernel
theorem dX9_turnTide_69 : decode cX9_turnTide 69 = .ok (.iload_n 3, 1) := by decide +kernel
theorem dX9_turnTide_70 : decode cX9_turnTide 70 = .ok (.goto 13, 3) := by decide +kernel
theorem dX9_turnTide_73 : decode cX9_turnTide 73 = .ok (.iload 4, 2) := by decide +kernel
theorem dX9_turnTide_75 : decode cX9_turnTide 75 = .ok (.ifCond .le 7, 3) := by decide +kernel
theorem dX9_turnTide_78 : decode cX9_turnTide 78 = .ok (.iconst 1, 1) := by decide +kernel
theorem dX9_turnTide_79 : decode cX9_turnTide 79 = .ok (.goto 4, 3) := by decide +kernel
theorem dX9_turnTide_82 : decode cX9_turnTide 82 = .ok (.iconst (-1), 1) := by decide +kernel
theorem dX9_turnTide_83 : decode cX9_turnTide 83 = .ok (.iastore, 1) := by decide +kernel
theorem dX9_turnTide_84 : decode cX9_turnTide 84 = .ok (.iinc 2 1, 3) := by decide +kernel
theorem dX9_turnTide_87 : decode cX9_turnTide 87 = .ok (.goto (-75), 3) := by decide +kernel
theorem dX9_turnTide_90 : decode cX9_turnTide 90 = .ok (.iinc 1 1, 3) := by decide +kernel
theorem dX9_turnTide_93 : decode cX9_turnTide 93 = .ok (.goto (-91), 3) := by decide +kernel
theorem dX9_turnTide_96 : decode cX9_turnTide 96 = .ok (.iconst 0, 1) := by decide +kernel
theorem dX9_turnTide_97 : decode cX9_turnTide 97 = .ok (.istore_n 1, 1) := by decide +kernel
theorem dX9_turnTide_98 : decode cX9_turnTide 98 = .ok (.iload_n 1, 1) := by decide +kernel
theorem dX9_turnTide_99 : decode cX9_turnTide 99 = .ok (.iconst 3, 1) := by decide +kernel
theorem dX9_turnTide_100 : decode cX9_turnTide 100 = .ok (.aload_n 0, 1) := by decide +kernel
theorem dX9_turnTide_101 : decode cX9_turnTide 101 = .ok (.getfield 112, 3) := by decide +kernel
theorem dX9_turnTide_104 : decode cX9_turnTide 104 = .ok (.imul, 1) := by decide +kernel
theorem dX9_turnTide_105 : decode cX9_turnTide 105 = .ok (.if_icmp .ge 21, 3) := by decide +kernel
theorem dX9_turnTide_108 : decode cX9_turnTide 108 = .ok (.aload_n 0, 1) := by decide +kernel
theorem dX9_turnTide_109 : decode cX9_turnTide 109 = .ok (.getfield 16, 3) := by decide +kernel
theorem dX9_turnTide_112 : decode cX9_turnTide 112 = .ok (.iload_n 1, 1) := by decide +kernel
theorem dX9_turnTide_113 : decode cX9_turnTide 113 = .ok (.aload_n 0, 1) := by decide +kernel
theorem dX9_turnTide_114 : decode cX9_turnTide 114 = .ok (.getfield 38, 3) := by decide +kernel
theorem dX9_turnTide_117 : decode cX9_turnTide 117 = .ok (.iload_n 1, 1) := by decide +kernel
theorem dX9_turnTide_118 : decode cX9_turnTide 118 = .ok (.iaload, 1) := by decide +kernel
theorem dX9_turnTide_119 : decode cX9_turnTide 119 = .ok (.iastore, 1) := by decide +kernel
theorem dX9_turnTide_120 : decode cX9_turnTide 120 = .ok (.iinc 1 1, 3) := by decide +kernel
theorem dX9_turnTide_123 : decode cX9_turnTide 123 = .ok (.goto (-25), 3) := by decide +kernel
theorem dX9_turnTide_126 : decode cX9_turnTide 126 = .ok (.return_, 1) := by decide +kernel
theorem dX9_tide_0 : decode cX9_tide 0 = .ok (.aload_n 0, 1) := by decide +kernel
theorem dX9_tide_1 : decode cX9_tide 1 = .ok (.getfield 112, 3) := by decide +kernel
theorem dX9_tide_4 : decode cX9_tide 4 = .ok (.ifCond .ne 6, 3) := by decide +kernel
theorem dX9_tide_7 : decode cX9_tide 7 = .ok (.bipush (-103), 2) := by decide +kernel
theorem dX9_tide_9 : decode cX9_tide 9 = .ok (.ireturn, 1) := by decide +kernel
theorem dX9_tide_10 : decode cX9_tide 10 = .ok (.aload_n 0, 1) := by decide +kernel
theorem dX9_tide_11 : decode cX9_tide 11 = .ok (.getfield 118, 3) := by decide +kernel
theorem dX9_tide_14 : decode cX9_tide 14 = .ok (.sipush 999, 3) := by decide +kernel
theorem dX9_tide_17 : decode cX9_tide 17 = .ok (.if_icmp .ne 6, 3) := by decide +kernel
theorem dX9_tide_20 : decode cX9_tide 20 = .ok (.bipush (-104), 2) := by decide +kernel
theorem dX9_tide_22 : decode cX9_tide 22 = .ok (.ireturn, 1) := by decide +kernel
theorem dX9_tide_23 : decode cX9_tide 23 = .ok (.aload_n 0, 1) := by decide +kernel
theorem dX9_tide_24 : decode cX9_tide 24 = .ok (.invokevirtual 173, 3) := by decide +kernel
theorem dX9_tide_27 : decode cX9_tide 27 = .ok (.aload_n 0, 1) := by decide +kernel
theorem dX9_tide_28 : decode cX9_tide 28 = .ok (.dup, 1) := by decide +kernel
theorem dX9_tide_29 : decode cX9_tide 29 = .ok (.getfield 118, 3) := by decide +kernel
theorem dX9_tide_32 : decode cX9_tide 32 = .ok (.iconst 1, 1) := by decide +kernel
theorem dX9_tide_33 : decode cX9_tide 33 = .ok (.iadd, 1) := by decide +kernel
theorem dX9_tide_34 : decode cX9_tide 34 = .ok (.putfield 118, 3) := by decide +kernel
theorem dX9_tide_37 : decode cX9_tide 37 = .ok (.aload_n 0, 1) := by decide +kernel
theorem dX9_tide_38 : decode cX9_tide 38 = .ok (.getfield 118, 3) := by decide +kernel
theorem dX9_tide_41 : decode cX9_tide 41 = .ok (.ireturn, 1) := by decide +kernel
theorem dX9_cut_0 : decode cX9_cut 0 = .ok (.aload_n 0, 1) := by decide +kernel
theorem dX9_cut_1 : decode cX9_cut 1 = .ok (.iload_n 1, 1) := by decide +kernel
theorem dX9_cut_2 : decode cX9_cut 2 = .ok (.invokevirtual 152, 3) := by decide +kernel
theorem dX9_cut_5 : decode cX9_cut 5 = .ok (.ifCond .ne 6, 3) := by decide +kernel
theorem dX9_cut_8 : decode cX9_cut 8 = .ok (.bipush (-101), 2) := by decide +kernel
theorem dX9_cut_10 : decode cX9_cut 10 = .ok (.ireturn, 1) := by decide +kernel
theorem dX9_cut_11 : decode cX9_cut 11 = .ok (.aload_n 0, 1) := by decide +kernel
theorem dX9_cut_12 : decode cX9_cut 12 = .ok (.getfield 115, 3) := by decide +kernel
theorem dX9_cut_15 : decode cX9_cut 15 = .ok (.iload_n 1, 1) := by decide +kernel
theorem dX9_cut_16 : decode cX9_cut 16 = .ok (.invokestatic 130, 3) := by decide +kernel
theorem dX9_cut_19 : decode cX9_cut 19 = .ok (.ifCond .eq 6, 3) := by decide +kernel
theorem dX9_cut_22 : decode cX9_cut 22 = .ok (.bipush (-103), 2) := by decide +kernel
theorem dX9_cut_24 : decode cX9_cut 24 = .ok (.ireturn, 1) := by decide +kernel
theorem dX9_cut_25 : decode cX9_cut 25 = .ok (.aload_n 0, 1) := by decide +kernel
theorem dX9_cut_26 : decode cX9_cut 26 = .ok (.dup, 1) := by decide +kernel
theorem dX9_cut_27 : decode cX9_cut 27 = .ok (.getfield 115, 3) := by decide +kernel
theorem dX9_cut_30 : decode cX9_cut 30 = .ok (.iconst 1, 1) := by decide +kernel
theorem dX9_cut_31 : decode cX9_cut 31 = .ok (.iload_n 1, 1) := by decide +kernel
theorem dX9_cut_32 : decode cX9_cut 32 = .ok (.ishl, 1) := by decide +kernel
theorem dX9_cut_33 : decode cX9_cut 33 = .ok (.ior, 1) := by decide +kernel
theorem dX9_cut_34 : decode cX9_cut 34 = .ok (.putfield 115, 3) := by decide +kernel
theorem dX9_cut_37 : decode cX9_cut 37 = .ok (.aload_n 0, 1) := by decide +kernel
theorem dX9_cut_38 : decode cX9_cut 38 = .ok (.invokevirtual 176, 3) := by decide +kernel
theorem dX9_cut_41 : decode cX9_cut 41 = .ok (.invokestatic 179, 3) := by decide +kernel
theorem dX9_cut_44 : decode cX9_cut 44 = .ok (.ireturn, 1) := by decide +kernel
theorem dX9_tie_0 : decode cX9_tie 0 = .ok (.aload_n 0, 1) := by decide +kernel
theorem dX9_tie_1 : decode cX9_tie 1 = .ok (.iload_n 1, 1) := by decide +kernel
theorem dX9_tie_2 : decode cX9_tie 2 = .ok (.invokevirtual 152, 3) := by decide +kernel
theorem dX9_tie_5 : decode cX9_tie 5 = .ok (.ifCond .ne 6, 3) := by decide +kernel
theorem dX9_tie_8 : decode cX9_tie 8 = .ok (.bipush (-101), 2) := by decide +kernel
theorem dX9_tie_10 : decode cX9_tie 10 = .ok (.ireturn, 1) := by decide +kernel
theorem dX9_tie_11 : decode cX9_tie 11 = .ok (.aload_n 0, 1) := by decide +kernel
theorem dX9_tie_12 : decode cX9_tie 12 = .ok (.getfield 115, 3) := by decide +kernel
theorem dX9_tie_15 : decode cX9_tie 15 = .ok (.iload_n 1, 1) := by decide +kernel
theorem dX9_tie_16 : decode cX9_tie 16 = .ok (.invokestatic 130, 3) := by decide +kernel
theorem dX9_tie_19 : decode cX9_tie 19 = .ok (.ifCond .ne 6, 3) := by decide +kernel
theorem dX9_tie_22 : decode cX9_tie 22 = .ok (.bipush (-103), 2) := by decide +kernel
theorem dX9_tie_24 : decode cX9_tie 24 = .ok (.ireturn, 1) := by decide +kernel
theorem dX9_tie_25 : decode cX9_tie 25 = .ok (.aload_n 0, 1) := by decide +kernel
theorem dX9_tie_26 : decode cX9_tie 26 = .ok (.dup, 1) := by decide +kernel
theorem dX9_tie_27 : decode cX9_tie 27 = .ok (.getfield 115, 3) := by decide +kernel
theorem dX9_tie_30 : decode cX9_tie 30 = .ok (.iconst 1, 1) := by decide +kernel
theorem dX9_tie_31 : decode cX9_tie 31 = .ok (.iload_n 1, 1) := by decide +kernel
theorem dX9_tie_32 : decode cX9_tie 32 = .ok (.ishl, 1) := by decide +kernel
theorem dX9_tie_33 : decode cX9_tie 33 = .ok (.iconst (-1), 1) := by decide +kernel
theorem dX9_tie_34 : decode cX9_tie 34 = .ok (.ixor, 1) := by decide +kernel
theorem dX9_tie_35 : decode cX9_tie 35 = .ok (.iand, 1) := by decide +kernel
theorem dX9_tie_36 : decode cX9_tie 36 = .ok (.putfield 115, 3) := by decide +kernel
theorem dX9_tie_39 : decode cX9_tie 39 = .ok (.aload_n 0, 1) := by decide +kernel
theorem dX9_tie_40 : decode cX9_tie 40 = .ok (.invokevirtual 176, 3) := by decide +kernel
theorem dX9_tie_43 : decode cX9_tie 43 = .ok (.invokestatic 179, 3) := by decide +kernel
theorem dX9_tie_46 : decode cX9_tie 46 = .ok (.ireturn, 1) := by decide +kernel
theorem dX9_turn_0 : decode cX9_turn 0 = .ok (.aload_n 0, 1) := by decide +kernel
theorem dX9_turn_1 : decode cX9_turn 1 = .ok (.iload_n 1, 1) := by decide +kernel
theorem dX9_turn_2 : decode cX9_turn 2 = .ok (.invokevirtual 152, 3) := by decide +kernel
theorem dX9_turn_5 : decode cX9_turn 5 = .ok (.ifCond .eq 11, 3) := by decide +kernel
theorem dX9_turn_8 : decode cX9_turn 8 = .ok (.aload_n 0, 1) := by decide +kernel
theorem dX9_turn_9 : decode cX9_turn 9 = .ok (.iload_n 2, 1) := by decide +kernel
theorem dX9_turn_10 : decode cX9_turn 10 = .ok (.invokevirtual 167, 3) := by decide +kernel
theorem dX9_turn_13 : decode cX9_turn 13 = .ok (.ifCond .ne 6, 3) := by decide +kernel
theorem dX9_turn_16 : decode cX9_turn 16 = .ok (.bipush (-101), 2) := by decide +kernel
theorem dX9_turn_18 : decode cX9_turn 18 = .ok (.ireturn, 1) := by decide +kernel
theorem dX9_turn_19 : decode cX9_turn 19 = .ok (.iload_n 3, 1) := by decide +kernel
theorem dX9_turn_20 : decode cX9_turn 20 = .ok (.iconst (-1), 1) := by decide +kernel
theorem dX9_turn_21 : decode cX9_turn 21 = .ok (.iconst 1, 1) := by decide +kernel
theorem dX9_turn_22 : decode cX9_turn 22 = .ok (.invokestatic 79, 3) := by decide +kernel
theorem dX9_turn_25 : decode cX9_turn 25 = .ok (.ifCond .ne 6, 3) := by decide +kernel
theorem dX9_turn_28 : decode cX9_turn 28 = .ok (.bipush (-102), 2) := by decide +kernel
theorem dX9_turn_30 : decode cX9_turn 30 = .ok (.ireturn, 1) := by decide +kernel
theorem dX9_turn_31 : decode cX9_turn 31 = .ok (.aload_n 0, 1) := by decide +kernel
theorem dX9_turn_32 : decode cX9_turn 32 = .ok (.getfield 16, 3) := by decide +kernel
theorem dX9_turn_35 : decode cX9_turn 35 = .ok (.iconst 3, 1) := by decide +kernel
theorem dX9_turn_36 : decode cX9_turn 36 = .ok (.iload_n 1, 1) := by decide +kernel
theorem dX9_turn_37 : decode cX9_turn 37 = .ok (.imul, 1) := by decide +kernel
theorem dX9_turn_38 : decode cX9_turn 38 = .ok (.iload_n 2, 1) := by decide +kernel
theorem dX9_turn_39 : decode cX9_turn 39 = .ok (.iadd, 1) := by decide +kernel
theorem dX9_turn_40 : decode cX9_turn 40 = .ok (.iaload, 1) := by decide +kernel
theorem dX9_turn_41 : decode cX9_turn 41 = .ok (.istore 4, 2) := by decide +kernel
theorem dX9_turn_43 : decode cX9_turn 43 = .ok (.aload_n 0, 1) := by decide +kernel
theorem dX9_turn_44 : decode cX9_turn 44 = .ok (.getfield 16, 3) := by decide +kernel
theorem dX9_turn_47 : decode cX9_turn 47 = .ok (.iconst 3, 1) := by decide +kernel
theorem dX9_turn_48 : decode cX9_turn 48 = .ok (.iload_n 1, 1) := by decide +kernel
theorem dX9_turn_49 : decode cX9_turn 49 = .ok (.imul, 1) := by decide +kernel
theorem dX9_turn_50 : decode cX9_turn 50 = .ok (.iload_n 2, 1) := by decide +kernel
theorem dX9_turn_51 : decode cX9_turn 51 = .ok (.iadd, 1) := by decide +kernel
theorem dX9_turn_52 : decode cX9_turn 52 = .ok (.iload_n 3, 1) := by decide +kernel
theorem dX9_turn_53 : decode cX9_turn 53 = .ok (.iastore, 1) := by decide +kernel
theorem dX9_turn_54 : decode cX9_turn 54 = .ok (.iload 4, 2) := by decide +kernel
theorem dX9_turn_56 : decode cX9_turn 56 = .ok (.iconst 1, 1) := by decide +kernel
theorem dX9_turn_57 : decode cX9_turn 57 = .ok (.iadd, 1) := by decide +kernel
theorem dX9_turn_58 : decode cX9_turn 58 = .ok (.ireturn, 1) := by decide +kernel
theorem dX9_grow_0 : decode cX9_grow 0 = .ok (.aload_n 0, 1) := by decide +kernel
theorem dX9_grow_1 : decode cX9_grow 1 = .ok (.iload_n 1, 1) := by decide +kernel
theorem dX9_grow_2 : decode cX9_grow 2 = .ok (.invokevirtual 152, 3) := by decide +kernel
theorem dX9_grow_5 : decode cX9_grow 5 = .ok (.ifCond .ne 6, 3) := by decide +kernel
theorem dX9_grow_8 : decode cX9_grow 8 = .ok (.bipush (-101), 2) := by decide +kernel
theorem dX9_grow_10 : decode cX9_grow 10 = .ok (.ireturn, 1) := by decide +kernel
theorem dX9_grow_11 : decode cX9_grow 11 = .ok (.iload_n 2, 1) := by decide +kernel
theorem dX9_grow_12 : decode cX9_grow 12 = .ok (.iconst 1, 1) := by decide +kernel
theorem dX9_grow_13 : decode cX9_grow 13 = .ok (.bipush 9, 2) := by decide +kernel
theorem dX9_grow_15 : decode cX9_grow 15 = .ok (.invokestatic 79, 3) := by decide +kernel
theorem dX9_grow_18 : decode cX9_grow 18 = .ok (.ifCond .ne 6, 3) := by decide +kernel
theorem dX9_grow_21 : decode cX9_grow 21 = .ok (.bipush (-102), 2) := by decide +kernel
theorem dX9_grow_23 : decode cX9_grow 23 = .ok (.ireturn, 1) := by decide +kernel
theorem dX9_grow_24 : decode cX9_grow 24 = .ok (.aload_n 0, 1) := by decide +kernel
theorem dX9_grow_25 : decode cX9_grow 25 = .ok (.getfield 13, 3) := by decide +kernel
theorem dX9_grow_28 : decode cX9_grow 28 = .ok (.iload_n 1, 1) := by decide +kernel
theorem dX9_grow_29 : decode cX9_grow 29 = .ok (.iaload, 1) := by decide +kernel
theorem dX9_grow_30 : decode cX9_grow 30 = .ok (.istore_n 3, 1) := by decide +kernel
theorem dX9_grow_31 : decode cX9_grow 31 = .ok (.aload_n 0, 1) := by decide +kernel
theorem dX9_grow_32 : decode cX9_grow 32 = .ok (.getfield 13, 3) := by decide +kernel
theorem dX9_grow_35 : decode cX9_grow 35 = .ok (.iload_n 1, 1) := by decide +kernel
theorem dX9_grow_36 : decode cX9_grow 36 = .ok (.iload_n 2, 1) := by decide +kernel
theorem dX9_grow_37 : decode cX9_grow 37 = .ok (.iastore, 1) := by decide +kernel
theorem dX9_grow_38 : decode cX9_grow 38 = .ok (.iload_n 3, 1) := by decide +kernel
theorem dX9_grow_39 : decode cX9_grow 39 = .ok (.ireturn, 1) := by decide +kernel
theorem dX9_orders_0 : decode cX9_orders 0 = .ok (.iconst 1, 1) := by decide +kernel
theorem dX9_orders_1 : decode cX9_orders 1 = .ok (.istore_n 1, 1) := by decide +kernel
theorem dX9_orders_2 : decode cX9_orders 2 = .ok (.iconst 2, 1) := by decide +kernel
theorem dX9_orders_3 : decode cX9_orders 3 = .ok (.istore_n 2, 1) := by decide +kernel
theorem dX9_orders_4 : decode cX9_orders 4 = .ok (.iload_n 2, 1) := by decide +kernel
theorem dX9_orders_5 : decode cX9_orders 5 = .ok (.iload_n 0, 1) := by decide +kernel
theorem dX9_orders_6 : decode cX9_orders 6 = .ok (.if_icmp .gt 13, 3) := by decide +kernel
theorem dX9_orders_9 : decode cX9_orders 9 = .ok (.iload_n 1, 1) := by decide +kernel
theorem dX9_orders_10 : decode cX9_orders 10 = .ok (.iload_n 2, 1) := by decide +kernel
theorem dX9_orders_11 : decode cX9_orders 11 = .ok (.imul, 1) := by decide +kernel
theorem dX9_orders_12 : decode cX9_orders 12 = .ok (.istore_n 1, 1) := by decide +kernel
theorem dX9_orders_13 : decode cX9_orders 13 = .ok (.iinc 2 1, 3) := by decide +kernel
theorem dX9_orders_16 : decode cX9_orders 16 = .ok (.goto (-12), 3) := by decide +kernel
theorem dX9_orders_19 : decode cX9_orders 19 = .ok (.iload_n 1, 1) := by decide +kernel
theorem dX9_orders_20 : decode cX9_orders 20 = .ok (.ireturn, 1) := by decide +kernel
theorem dX9_forBy_0 : decode cX9_forBy 0 = .ok (.iconst 0, 1) := by decide +kernel
theorem dX9_forBy_1 : decode cX9_forBy 1 = .ok (.istore_n 3, 1) := by decide +kernel
theorem dX9_forBy_2 : decode cX9_forBy 2 = .ok (.iconst 0, 1) := by decide +kernel
theorem dX9_forBy_3 : decode cX9_forBy 3 = .ok (.istore 4, 2) := by decide +kernel
theorem dX9_forBy_5 : decode cX9_forBy 5 = .ok (.iload 4, 2) := by decide +kernel
theorem dX9_forBy_7 : decode cX9_forBy 7 = .ok (.aload_n 0, 1) := by decide +kernel
theorem dX9_forBy_8 : decode cX9_forBy 8 = .ok (.getfield 112, 3) := by decide +kernel
theorem dX9_forBy_11 : decode cX9_forBy 11 = .ok (.if_icmp .ge 45, 3) := by decide +kernel
theorem dX9_forBy_14 : decode cX9_forBy 14 = .ok (.iload_n 1, 1) := by decide +kernel
theorem dX9_forBy_15 : decode cX9_forBy 15 = .ok (.iload 4, 2) := by decide +kernel
theorem dX9_forBy_17 : decode cX9_forBy 17 = .ok (.invokestatic 130, 3) := by decide +kernel
theorem dX9_forBy_20 : decode cX9_forBy 20 = .ok (.ifCond .eq 13, 3) := by decide +kernel
theorem dX9_forBy_23 : decode cX9_forBy 23 = .ok (.aload_n 0, 1) := by decide +kernel
theorem dX9_forBy_24 : decode cX9_forBy 24 = .ok (.iload 4, 2) := by decide +kernel
theorem dX9_forBy_26 : decode cX9_forBy 26 = .ok (.iload_n 2, 1) := by decide +kernel
theorem dX9_forBy_27 : decode cX9_forBy 27 = .ok (.invokevirtual 140, 3) := by decide +kernel
theorem dX9_forBy_30 : decode cX9_forBy 30 = .ok (.goto 4, 3) := by decide +kernel
theorem dX9_forBy_33 : decode cX9_forBy 33 = .ok (.iconst 0, 1) := by decide +kernel
theorem dX9_forBy_34 : decode cX9_forBy 34 = .ok (.istore 5, 2) := by decide +kernel
theorem dX9_forBy_36 : decode cX9_forBy 36 = .ok (.iload_n 3, 1) := by decide +kernel
theorem dX9_forBy_37 : decode cX9_forBy 37 = .ok (.iload 5, 2) := by decide +kernel
theorem dX9_forBy_39 : decode cX9_forBy 39 = .ok (.ifCond .le 8, 3) := by decide +kernel
theorem dX9_forBy_42 : decode cX9_forBy 42 = .ok (.iload 5, 2) := by decide +kernel
theorem dX9_forBy_44 : decode cX9_forBy 44 = .ok (.goto 4, 3) := by decide +kernel
theorem dX9_forBy_47 : decode cX9_forBy 47 = .ok (.iconst 0, 1) := by decide +kernel
theorem dX9_forBy_48 : decode cX9_forBy 48 = .ok (.iadd, 1) := by decide +kernel
theorem dX9_forBy_49 : decode cX9_forBy 49 = .ok (.istore_n 3, 1) := by decide +kernel
theorem dX9_forBy_50 : decode cX9_forBy 50 = .ok (.iinc 4 1, 3) := by decide +kernel
theorem dX9_forBy_53 : decode cX9_forBy 53 = .ok (.goto (-48), 3) := by decide +kernel
theorem dX9_forBy_56 : decode cX9_forBy 56 = .ok (.iload_n 3, 1) := by decide +kernel
theorem dX9_forBy_57 : decode cX9_forBy 57 = .ok (.ireturn, 1) := by decide +kernel
theorem dX9_sayNow_0 : decode cX9_sayNow 0 = .ok (.aload_n 0, 1) := by decide +kernel
theorem dX9_sayNow_1 : decode cX9_sayNow 1 = .ok (.invokevirtual 176, 3) := by decide +kernel
theorem dX9_sayNow_4 : decode cX9_sayNow 4 = .ok (.istore 4, 2) := by decide +kernel
theorem dX9_sayNow_6 : decode cX9_sayNow 6 = .ok (.aload_n 0, 1) := by decide +kernel
theorem dX9_sayNow_7 : decode cX9_sayNow 7 = .ok (.iload 4, 2) := by decide +kernel
theorem dX9_sayNow_9 : decode cX9_sayNow 9 = .ok (.iload_n 2, 1) := by decide +kernel
theorem dX9_sayNow_10 : decode cX9_sayNow 10 = .ok (.invokevirtual 182, 3) := by decide +kernel
theorem dX9_sayNow_13 : decode cX9_sayNow 13 = .ok (.istore 5, 2) := by decide +kernel
theorem dX9_sayNow_15 : decode cX9_sayNow 15 = .ok (.iload 5, 2) := by decide +kernel
theorem dX9_sayNow_17 : decode cX9_sayNow 17 = .ok (.ifCond .eq 12, 3) := by decide +kernel
theorem dX9_sayNow_20 : decode cX9_sayNow 20 = .ok (.iload 4, 2) := by decide +kernel
theorem dX9_sayNow_22 : decode cX9_sayNow 22 = .ok (.iload_n 1, 1) := by decide +kernel
theorem dX9_sayNow_23 : decode cX9_sayNow 23 = .ok (.invokestatic 130, 3) := by decide +kernel
theorem dX9_sayNow_26 : decode cX9_sayNow 26 = .ok (.ifCond .ne 13, 3) := by decide +kernel
theorem dX9_sayNow_29 : decode cX9_sayNow 29 = .ok (.iload_n 3, 1) := by decide +kernel
theorem dX9_sayNow_30 : decode cX9_sayNow 30 = .ok (.ifCond .ne 7, 3) := by decide +kernel
theorem dX9_sayNow_33 : decode cX9_sayNow 33 = .ok (.iconst 0, 1) := by decide +kernel
theorem dX9_sayNow_34 : decode cX9_sayNow 34 = .ok (.goto 4, 3) := by decide +kernel
theorem dX9_sayNow_37 : decode cX9_sayNow 37 = .ok (.iconst 1, 1) := by decide +kernel
theorem dX9_sayNow_38 : decode cX9_sayNow 38 = .ok (.ireturn, 1) := by decide +kernel
theorem dX9_sayNow_39 : decode cX9_sayNow 39 = .ok (.iload 4, 2) := by decide +kernel
theorem dX9_sayNow_41 : decode cX9_sayNow 41 = .ok (.invokestatic 179, 3) := by decide +kernel
theorem dX9_sayNow_44 : decode cX9_sayNow 44 = .ok (.istore 6, 2) := by decide +kernel
theorem dX9_sayNow_46 : decode cX9_sayNow 46 = .ok (.aload_n 0, 1) := by decide +kernel
theorem dX9_sayNow_47 : decode cX9_sayNow 47 = .ok (.iconst 1, 1) := by decide +kernel
theorem dX9_sayNow_48 : decode cX9_sayNow 48 = .ok (.iload_n 1, 1) := by decide +kernel
theorem dX9_sayNow_49 : decode cX9_sayNow 49 = .ok (.ishl, 1) := by decide +kernel
theorem dX9_sayNow_50 : decode cX9_sayNow 50 = .ok (.iload_n 2, 1) := by decide +kernel
theorem dX9_sayNow_51 : decode cX9_sayNow 51 = .ok (.invokevirtual 182, 3) := by decide +kernel
theorem dX9_sayNow_54 : decode cX9_sayNow 54 = .ok (.istore 7, 2) := by decide +kernel
theorem dX9_sayNow_56 : decode cX9_sayNow 56 = .ok (.iconst 0, 1) := by decide +kernel
theorem dX9_sayNow_57 : decode cX9_sayNow 57 = .ok (.istore 8, 2) := by decide +kernel
theorem dX9_sayNow_59 : decode cX9_sayNow 59 = .ok (.iconst 0, 1) := by decide +kernel
theorem dX9_sayNow_60 : decode cX9_sayNow 60 = .ok (.istore 9, 2) := by decide +kernel
theorem dX9_sayNow_62 : decode cX9_sayNow 62 = .ok (.iload 9, 2) := by decide +kernel
theorem dX9_sayNow_64 : decode cX9_sayNow 64 = .ok (.iconst 1, 1) := by decide +kernel
theorem dX9_sayNow_65 : decode cX9_sayNow 65 = .ok (.aload_n 0, 1) := by decide +kernel
theorem dX9_sayNow_66 : decode cX9_sayNow 66 = .ok (.getfield 112, 3) := by decide +kernel
theorem dX9_sayNow_69 : decode cX9_sayNow 69 = .ok (.ishl, 1) := by decide +kernel
theorem dX9_sayNow_70 : decode cX9_sayNow 70 = .ok (.if_icmp .ge 122, 3) := by decide +kernel
theorem dX9_sayNow_73 : decode cX9_sayNow 73 = .ok (.iload 9, 2) := by decide +kernel
theorem dX9_sayNow_75 : decode cX9_sayNow 75 = .ok (.iload 4, 2) := by decide +kernel
theorem dX9_sayNow_77 : decode cX9_sayNow 77 = .ok (.iconst (-1), 1) := by decide +kernel
theorem dX9_sayNow_78 : decode cX9_sayNow 78 = .ok (.ixor, 1) := by decide +kernel
theorem dX9_sayNow_79 : decode cX9_sayNow 79 = .ok (.iand, 1) := by decide +kernel
theorem dX9_sayNow_80 : decode cX9_sayNow 80 = .ok (.ifCond .ne 16, 3) := by decide +kernel
theorem dX9_sayNow_83 : decode cX9_sayNow 83 = .ok (.iload 9, 2) := by decide +kernel
theorem dX9_sayNow_85 : decode cX9_sayNow 85 = .ok (.iload_n 1, 1) := by decide +kernel
theorem dX9_sayNow_86 : decode cX9_sayNow 86 = .ok (.invokestatic 130, 3) := by decide +kernel
theorem dX9_sayNow_89 : decode cX9_sayNow 89 = .ok (.ifCond .ne 7, 3) := by decide +kernel
theorem dX9_sayNow_92 : decode cX9_sayNow 92 = .ok (.iconst 1, 1) := by decide +kernel
theorem dX9_sayNow_93 : decode cX9_sayNow 93 = .ok (.goto 4, 3) := by decide +kernel
theorem dX9_sayNow_96 : decode cX9_sayNow 96 = .ok (.iconst 0, 1) := by decide +kernel
theorem dX9_sayNow_97 : decode cX9_sayNow 97 = .ok (.istore 10, 2) := by decide +kernel
theorem dX9_sayNow_99 : decode cX9_sayNow 99 = .ok (.iload 10, 2) := by decide +kernel
theorem dX9_sayNow_101 : decode cX9_sayNow 101 = .ok (.ifCond .eq 13, 3) := by decide +kernel
theorem dX9_sayNow_104 : decode cX9_sayNow 104 = .ok (.aload_n 0, 1) := by decide +kernel
theorem dX9_sayNow_105 : decode cX9_sayNow 105 = .ok (.iload 9, 2) := by decide +kernel
theorem dX9_sayNow_107 : decode cX9_sayNow 107 = .ok (.iload_n 2, 1) := by decide +kernel
theorem dX9_sayNow_108 : decode cX9_sayNow 108 = .ok (.invokevirtual 182, 3) := by decide +kernel
theorem dX9_sayNow_111 : decode cX9_sayNow 111 = .ok (.goto 4, 3) := by decide +kernel
theorem dX9_sayNow_114 : decode cX9_sayNow 114 = .ok (.iconst 0, 1) := by decide +kernel
theorem dX9_sayNow_115 : decode cX9_sayNow 115 = .ok (.istore 11, 2) := by decide +kernel
theorem dX9_sayNow_117 : decode cX9_sayNow 117 = .ok (.iload 10, 2) := by decide +kernel
theorem dX9_sayNow_119 : decode cX9_sayNow 119 = .ok (.ifCond .eq 28, 3) := by decide +kernel
theorem dX9_sayNow_122 : decode cX9_sayNow 122 = .ok (.iconst 2, 1) := by decide +kernel
theorem dX9_sayNow_123 : decode cX9_sayNow 123 = .ok (.iload 11, 2) := by decide +kernel
theorem dX9_sayNow_125 : decode cX9_sayNow 125 = .ok (.imul, 1) := by decide +kernel
theorem dX9_sayNow_126 : decode cX9_sayNow 126 = .ok (.iload 5, 2) := by decide +kernel
theorem dX9_sayNow_128 : decode cX9_sayNow 128 = .ok (.if_icmp .gt 19, 3) := by decide +kernel
theorem dX9_sayNow_131 : decode cX9_sayNow 131 = .ok (.iconst 2, 1) := by decide +kernel
theorem dX9_sayNow_132 : decode cX9_sayNow 132 = .ok (.iload 11, 2) := by decide +kernel
theorem dX9_sayNow_134 : decode cX9_sayNow 134 = .ok (.iload 7, 2) := by decide +kernel
theorem dX9_sayNow_136 : decode cX9_sayNow 136 = .ok (.iadd, 1) := by decide +kernel
theorem dX9_sayNow_137 : decode cX9_sayNow 137 = .ok (.imul, 1) := by decide +kernel
theorem dX9_sayNow_138 : decode cX9_sayNow 138 = .ok (.iload 5, 2) := by decide +kernel
theorem dX9_sayNow_140 : decode cX9_sayNow 140 = .ok (.if_icmp .le 7, 3) := by decide +kernel
theorem dX9_sayNow_143 : decode cX9_sayNow 143 = .ok (.iconst 1, 1) := by decide +kernel
theorem dX9_sayNow_144 : decode cX9_sayNow 144 = .ok (.goto 4, 3) := by decide +kernel
theorem dX9_sayNow_147 : decode cX9_sayNow 147 = .ok (.iconst 0, 1) := by decide +kernel
theorem dX9_sayNow_148 : decode cX9_sayNow 148 = .ok (.istore 12, 2) := by decide +kernel
theorem dX9_sayNow_150 : decode cX9_sayNow 150 = .ok (.iload 8, 2) := by decide +kernel
theorem dX9_sayNow_152 : decode cX9_sayNow 152 = .ok (.iload 12, 2) := by decide +kernel
theorem dX9_sayNow_154 : decode cX9_sayNow 154 = .ok (.ifCond .eq 28, 3) := by decide +kernel
theorem dX9_sayNow_157 : decode cX9_sayNow 157 = .ok (.iload 9, 2) := by decide +kernel
theorem dX9_sayNow_159 : decode cX9_sayNow 159 = .ok (.invokestatic 179, 3) := by decide +kernel
theorem dX9_sayNow_162 : decode cX9_sayNow 162 = .ok (.invokestatic 185, 3) := by decide +kernel
theorem dX9_sayNow_165 : decode cX9_sayNow 165 = .ok (.iload 6, 2) := by decide +kernel
theorem dX9_sayNow_167 : decode cX9_sayNow 167 = .ok (.iconst 1, 1) := by decide +kernel
theorem dX9_sayNow_168 : decode cX9_sayNow 168 = .ok (.isub, 1) := by decide +kernel
theorem dX9_sayNow_169 : decode cX9_sayNow 169 = .ok (.iload 9, 2) := by decide +kernel
theorem dX9_sayNow_171 : decode cX9_sayNow 171 = .ok (.invokestatic 179, 3) := by decide +kernel
theorem dX9_sayNow_174 : decode cX9_sayNow 174 = .ok (.isub, 1) := by decide +kernel
theorem dX9_sayNow_175 : decode cX9_sayNow 175 = .ok (.invokestatic 185, 3) := by decide +kernel
theorem dX9_sayNow_178 : decode cX9_sayNow 178 = .ok (.imul, 1) := by decide +kernel
theorem dX9_sayNow_179 : decode cX9_sayNow 179 = .ok (.goto 4, 3) := by decide +kernel
theorem dX9_sayNow_182 : decode cX9_sayNow 182 = .ok (.iconst 0, 1) := by decide +kernel
theorem dX9_sayNow_183 : decode cX9_sayNow 183 = .ok (.iadd, 1) := by decide +kernel
theorem dX9_sayNow_184 : decode cX9_sayNow 184 = .ok (.istore 8, 2) := by decide +kernel
theorem dX9_sayNow_186 : decode cX9_sayNow 186 = .ok (.iinc 9 1, 3) := by decide +kernel
theorem dX9_sayNow_189 : decode cX9_sayNow 189 = .ok (.goto (-127), 3) := by decide +kernel
theorem dX9_sayNow_192 : decode cX9_sayNow 192 = .ok (.iload 8, 2) := by decide +kernel
theorem dX9_sayNow_194 : decode cX9_sayNow 194 = .ok (.iload 6, 2) := by decide +kernel
theorem dX9_sayNow_196 : decode cX9_sayNow 196 = .ok (.invokestatic 185, 3) := by decide +kernel
theorem dX9_sayNow_199 : decode cX9_sayNow 199 = .ok (.iload_n 3, 1) := by decide +kernel
theorem dX9_sayNow_200 : decode cX9_sayNow 200 = .ok (.invokestatic 188, 3) := by decide +kernel
theorem dX9_sayNow_203 : decode cX9_sayNow 203 = .ok (.ireturn, 1) := by decide +kernel
theorem dX9_say_0 : decode cX9_say 0 = .ok (.aload_n 0, 1) := by decide +kernel
theorem dX9_say_1 : decode cX9_say 1 = .ok (.iload_n 1, 1) := by decide +kernel
theorem dX9_say_2 : decode cX9_say 2 = .ok (.invokevirtual 152, 3) := by decide +kernel
theorem dX9_say_5 : decode cX9_say 5 = .ok (.ifCond .eq 11, 3) := by decide +kernel
theorem dX9_say_8 : decode cX9_say 8 = .ok (.aload_n 0, 1) := by decide +kernel
theorem dX9_say_9 : decode cX9_say 9 = .ok (.iload_n 2, 1) := by decide +kernel
theorem dX9_say_10 : decode cX9_say 10 = .ok (.invokevirtual 167, 3) := by decide +kernel
theorem dX9_say_13 : decode cX9_say 13 = .ok (.ifCond .ne 6, 3) := by decide +kernel
theorem dX9_say_16 : decode cX9_say 16 = .ok (.bipush (-101), 2) := by decide +kernel
theorem dX9_say_18 : decode cX9_say 18 = .ok (.ireturn, 1) := by decide +kernel
theorem dX9_say_19 : decode cX9_say 19 = .ok (.iload_n 3, 1) := by decide +kernel
theorem dX9_say_20 : decode cX9_say 20 = .ok (.iconst 0, 1) := by decide +kernel
theorem dX9_say_21 : decode cX9_say 21 = .ok (.iconst 1, 1) := by decide +kernel
theorem dX9_say_22 : decode cX9_say 22 = .ok (.invokestatic 79, 3) := by decide +kernel
theorem dX9_say_25 : decode cX9_say 25 = .ok (.ifCond .eq 13, 3) := by decide +kernel
theorem dX9_say_28 : decode cX9_say 28 = .ok (.aload_n 0, 1) := by decide +kernel
theorem dX9_say_29 : decode cX9_say 29 = .ok (.iload_n 1, 1) := by decide +kernel
theorem dX9_say_30 : decode cX9_say 30 = .ok (.iload_n 2, 1) := by decide +kernel
theorem dX9_say_31 : decode cX9_say 31 = .ok (.iload_n 3, 1) := by decide +kernel
theorem dX9_say_32 : decode cX9_say 32 = .ok (.invokevirtual 192, 3) := by decide +kernel
theorem dX9_say_35 : decode cX9_say 35 = .ok (.goto 5, 3) := by decide +kernel
theorem dX9_say_38 : decode cX9_say 38 = .ok (.bipush (-102), 2) := by decide +kernel
theorem dX9_say_40 : decode cX9_say 40 = .ok (.ireturn, 1) := by decide +kernel
theorem dX9_chanceNow_0 : decode cX9_chanceNow 0 = .ok (.aload_n 0, 1) := by decide +kernel
theorem dX9_chanceNow_1 : decode cX9_chanceNow 1 = .ok (.invokevirtual 176, 3) := by decide +kernel
theorem dX9_chanceNow_4 : decode cX9_chanceNow 4 = .ok (.istore 4, 2) := by decide +kernel
theorem dX9_chanceNow_6 : decode cX9_chanceNow 6 = .ok (.iconst 0, 1) := by decide +kernel
theorem dX9_chanceNow_7 : decode cX9_chanceNow 7 = .ok (.istore 5, 2) := by decide +kernel
theorem dX9_chanceNow_9 : decode cX9_chanceNow 9 = .ok (.iconst 1, 1) := by decide +kernel
theorem dX9_chanceNow_10 : decode cX9_chanceNow 10 = .ok (.istore 6, 2) := by decide +kernel
theorem dX9_chanceNow_12 : decode cX9_chanceNow 12 = .ok (.iconst 0, 1) := by decide +kernel
theorem dX9_chanceNow_13 : decode cX9_chanceNow 13 = .ok (.istore 7, 2) := by decide +kernel
theorem dX9_chanceNow_15 : decode cX9_chanceNow 15 = .ok (.iload 7, 2) := by decide +kernel
theorem dX9_chanceNow_17 : decode cX9_chanceNow 17 = .ok (.iload 4, 2) := by decide +kernel
theorem dX9_chanceNow_19 : decode cX9_chanceNow 19 = .ok (.invokestatic 179, 3) := by decide +kernel
theorem dX9_chanceNow_22 : decode cX9_chanceNow 22 = .ok (.if_icmp .ge 16, 3) := by decide +kernel
theorem dX9_chanceNow_25 : decode cX9_chanceNow 25 = .ok (.iload 6, 2) := by decide +kernel
theorem dX9_chanceNow_27 : decode cX9_chanceNow 27 = .ok (.bipush 10, 2) := by decide +kernel
theorem dX9_chanceNow_29 : decode cX9_chanceNow 29 = .ok (.imul, 1) := by decide +kernel
theorem dX9_chanceNow_30 : decode cX9_chanceNow 30 = .ok (.istore 6, 2) := by decide +kernel
theorem dX9_chanceNow_32 : decode cX9_chanceNow 32 = .ok (.iinc 7 1, 3) := by decide +kernel
theorem dX9_chanceNow_35 : decode cX9_chanceNow 35 = .ok (.goto (-20), 3) := by decide +kernel
theorem dX9_chanceNow_38 : decode cX9_chanceNow 38 = .ok (.iconst 0, 1) := by decide +kernel
theorem dX9_chanceNow_39 : decode cX9_chanceNow 39 = .ok (.istore 7, 2) := by decide +kernel
theorem dX9_chanceNow_41 : decode cX9_chanceNow 41 = .ok (.iload 7, 2) := by decide +kernel
theorem dX9_chanceNow_43 : decode cX9_chanceNow 43 = .ok (.iconst 1, 1) := by decide +kernel
theorem dX9_chanceNow_44 : decode cX9_chanceNow 44 = .ok (.aload_n 0, 1) := by decide +kernel
theorem dX9_chanceNow_45 : decode cX9_chanceNow 45 = .ok (.getfield 112, 3) := by decide +kernel
theorem dX9_chanceNow_48 : decode cX9_chanceNow 48 = .ok (.ishl, 1) := by decide +kernel
theorem dX9_chanceNow_49 : decode cX9_chanceNow 49 = .ok (.if_icmp .ge 122, 3) := by decide +kernel
theorem dX9_chanceNow_52 : decode cX9_chanceNow 52 = .ok (.iload 7, 2) := by decide +kernel
theorem dX9_chanceNow_54 : decode cX9_chanceNow 54 = .ok (.iload 4, 2) := by decide +kernel
theorem dX9_chanceNow_56 : decode cX9_chanceNow 56 = .ok (.iconst (-1), 1) := by decide +kernel
theorem dX9_chanceNow_57 : decode cX9_chanceNow 57 = .ok (.ixor, 1) := by decide +kernel
theorem dX9_chanceNow_58 : decode cX9_chanceNow 58 = .ok (.iand, 1) := by decide +kernel
theorem dX9_chanceNow_59 : decode cX9_chanceNow 59 = .ok (.ifCond .ne 106, 3) := by decide +kernel
theorem dX9_chanceNow_62 : decode cX9_chanceNow 62 = .ok (.iconst 0, 1) := by decide +kernel
theorem dX9_chanceNow_63 : decode cX9_chanceNow 63 = .ok (.istore 8, 2) := by decide +kernel
theorem dX9_chanceNow_65 : decode cX9_chanceNow 65 = .ok (.iconst 1, 1) := by decide +kernel
theorem dX9_chanceNow_66 : decode cX9_chanceNow 66 = .ok (.istore 9, 2) := by decide +kernel
theorem dX9_chanceNow_68 : decode cX9_chanceNow 68 = .ok (.iconst 0, 1) := by decide +kernel
theorem dX9_chanceNow_69 : decode cX9_chanceNow 69 = .ok (.istore 10, 2) := by decide +kernel
theorem dX9_chanceNow_71 : decode cX9_chanceNow 71 = .ok (.iload 10, 2) := by decide +kernel
theorem dX9_chanceNow_73 : decode cX9_chanceNow 73 = .ok (.aload_n 0, 1) := by decide +kernel
theorem dX9_chanceNow_74 : decode cX9_chanceNow 74 = .ok (.getfield 112, 3) := by decide +kernel
theorem dX9_chanceNow_77 : decode cX9_chanceNow 77 = .ok (.if_icmp .ge 72, 3) := by decide +kernel
theorem dX9_chanceNow_80 : decode cX9_chanceNow 80 = .ok (.iload 8, 2) := by decide +kernel
theorem dX9_chanceNow_82 : decode cX9_chanceNow 82 = .ok (.iload 7, 2) := by decide +kernel
theorem dX9_chanceNow_84 : decode cX9_chanceNow 84 = .ok (.iload 10, 2) := by decide +kernel
theorem dX9_chanceNow_86 : decode cX9_chanceNow 86 = .ok (.invokestatic 130, 3) := by decide +kernel
theorem dX9_chanceNow_89 : decode cX9_chanceNow 89 = .ok (.ifCond .eq 13, 3) := by decide +kernel
theorem dX9_chanceNow_92 : decode cX9_chanceNow 92 = .ok (.aload_n 0, 1) := by decide +kernel
theorem dX9_chanceNow_93 : decode cX9_chanceNow 93 = .ok (.iload 10, 2) := by decide +kernel
theorem dX9_chanceNow_95 : decode cX9_chanceNow 95 = .ok (.iload_n 1, 1) := by decide +kernel
theorem dX9_chanceNow_96 : decode cX9_chanceNow 96 = .ok (.invokevirtual 140, 3) := by decide +kernel
theorem dX9_chanceNow_99 : decode cX9_chanceNow 99 = .ok (.goto 4, 3) := by decide +kernel
theorem dX9_chanceNow_102 : decode cX9_chanceNow 102 = .ok (.iconst 0, 1) := by decide +kernel
theorem dX9_chanceNow_103 : decode cX9_chanceNow 103 = .ok (.iadd, 1) := by decide +kernel
theorem dX9_chanceNow_104 : decode cX9_chanceNow 104 = .ok (.istore 8, 2) := by decide +kernel
theorem dX9_chanceNow_106 : decode cX9_chanceNow 106 = .ok (.iload 9, 2) := by decide +kernel
theorem dX9_chanceNow_108 : decode cX9_chanceNow 108 = .ok (.iload 4, 2) := by decide +kernel
theorem dX9_chanceNow_110 : decode cX9_chanceNow 110 = .ok (.iload 10, 2) := by decide +kernel
theorem dX9_chanceNow_112 : decode cX9_chanceNow 112 = .ok (.invokestatic 130, 3) := by decide +kernel
theorem dX9_chanceNow_115 : decode cX9_chanceNow 115 = .ok (.ifCond .ne 7, 3) := by decide +kernel
theorem dX9_chanceNow_118 : decode cX9_chanceNow 118 = .ok (.iconst 1, 1) := by decide +kernel
theorem dX9_chanceNow_119 : decode cX9_chanceNow 119 = .ok (.goto 21, 3) := by decide +kernel
theorem dX9_chanceNow_122 : decode cX9_chanceNow 122 = .ok (.iload 7, 2) := by decide +kernel
theorem dX9_chanceNow_124 : decode cX9_chanceNow 124 = .ok (.iload 10, 2) := by decide +kernel
theorem dX9_chanceNow_126 : decode cX9_chanceNow 126 = .ok (.invokestatic 130, 3) := by decide +kernel
theorem dX9_chanceNow_129 : decode cX9_chanceNow 129 = .ok (.ifCond .eq 10, 3) := by decide +kernel
theorem dX9_chanceNow_132 : decode cX9_chanceNow 132 = .ok (.bipush 10, 2) := by decide +kernel
theorem dX9_chanceNow_134 : decode cX9_chanceNow 134 = .ok (.iload_n 2, 1) := by decide +kernel
theorem dX9_chanceNow_135 : decode cX9_chanceNow 135 = .ok (.isub, 1) := by decide +kernel
theorem dX9_chanceNow_136 : decode cX9_chanceNow 136 = .ok (.goto 4, 3) := by decide +kernel
theorem dX9_chanceNow_139 : decode cX9_chanceNow 139 = .ok (.iload_n 2, 1) := by decide +kernel
theorem dX9_chanceNow_140 : decode cX9_chanceNow 140 = .ok (.imul, 1) := by decide +kernel
theorem dX9_chanceNow_141 : decode cX9_chanceNow 141 = .ok (.istore 9, 2) := by decide +kernel
theorem dX9_chanceNow_143 : decode cX9_chanceNow 143 = .ok (.iinc 10 1, 3) := by decide +kernel
theorem dX9_chanceNow_146 : decode cX9_chanceNow 146 = .ok (.goto (-75), 3) := by decide +kernel
theorem dX9_chanceNow_149 : decode cX9_chanceNow 149 = .ok (.iload 5, 2) := by decide +kernel
theorem dX9_chanceNow_151 : decode cX9_chanceNow 151 = .ok (.iload 8, 2) := by decide +kernel
theorem dX9_chanceNow_153 : decode cX9_chanceNow 153 = .ok (.ifCond .le 8, 3) := by decide +kernel
theorem dX9_chanceNow_156 : decode cX9_chanceNow 156 = .ok (.iload 9, 2) := by decide +kernel
theorem dX9_chanceNow_158 : decode cX9_chanceNow 158 = .ok (.goto 4, 3) := by decide +kernel
theorem dX9_chanceNow_161 : decode cX9_chanceNow 161 = .ok (.iconst 0, 1) := by decide +kernel
theorem dX9_chanceNow_162 : decode cX9_chanceNow 162 = .ok (.iadd, 1) := by decide +kernel
theorem dX9_chanceNow_163 : decode cX9_chanceNow 163 = .ok (.istore 5, 2) := by decide +kernel
theorem dX9_chanceNow_165 : decode cX9_chanceNow 165 = .ok (.iinc 7 1, 3) := by decide +kernel
theorem dX9_chanceNow_168 : decode cX9_chanceNow 168 = .ok (.goto (-127), 3) := by decide +kernel
theorem dX9_chanceNow_171 : decode cX9_chanceNow 171 = .ok (.iload 5, 2) := by decide +kernel
theorem dX9_chanceNow_173 : decode cX9_chanceNow 173 = .ok (.iload 6, 2) := by decide +kernel
theorem dX9_chanceNow_175 : decode cX9_chanceNow 175 = .ok (.iload_n 3, 1) := by decide +kernel
theorem dX9_chanceNow_176 : decode cX9_chanceNow 176 = .ok (.invokestatic 188, 3) := by decide +kernel
theorem dX9_chanceNow_179 : decode cX9_chanceNow 179 = .ok (.ireturn, 1) := by decide +kernel
theorem dX9_chance_0 : decode cX9_chance 0 = .ok (.aload_n 0, 1) := by decide +kernel
theorem dX9_chance_1 : decode cX9_chance 1 = .ok (.iload_n 1, 1) := by decide +kernel
theorem dX9_chance_2 : decode cX9_chance 2 = .ok (.invokevirtual 167, 3) := by decide +kernel
theorem dX9_chance_5 : decode cX9_chance 5 = .ok (.ifCond .ne 6, 3) := by decide +kernel
theorem dX9_chance_8 : decode cX9_chance 8 = .ok (.bipush (-101), 2) := by decide +kernel
theorem dX9_chance_10 : decode cX9_chance 10 = .ok (.ireturn, 1) := by decide +kernel
theorem dX9_chance_11 : decode cX9_chance 11 = .ok (.iload_n 2, 1) := by decide +kernel
theorem dX9_chance_12 : decode cX9_chance 12 = .ok (.iconst 0, 1) := by decide +kernel
theorem dX9_chance_13 : decode cX9_chance 13 = .ok (.bipush 10, 2) := by decide +kernel
theorem dX9_chance_15 : decode cX9_chance 15 = .ok (.invokestatic 79, 3) := by decide +kernel
theorem dX9_chance_18 : decode cX9_chance 18 = .ok (.ifCond .eq 22, 3) := by decide +kernel
theorem dX9_chance_21 : decode cX9_chance 21 = .ok (.iload_n 3, 1) := by decide +kernel
theorem dX9_chance_22 : decode cX9_chance 22 = .ok (.iconst 0, 1) := by decide +kernel
theorem dX9_chance_23 : decode cX9_chance 23 = .ok (.iconst 1, 1) := by decide +kernel
theorem dX9_chance_24 : decode cX9_chance 24 = .ok (.invokestatic 79, 3) := by decide +kernel
theorem dX9_chance_27 : decode cX9_chance 27 = .ok (.ifCond .eq 13, 3) := by decide +kernel
theorem dX9_chance_30 : decode cX9_chance 30 = .ok (.aload_n 0, 1) := by decide +kernel
theorem dX9_chance_31 : decode cX9_chance 31 = .ok (.iload_n 1, 1) := by decide +kernel
theorem dX9_chance_32 : decode cX9_chance 32 = .ok (.iload_n 2, 1) := by decide +kernel
theorem dX9_chance_33 : decode cX9_chance 33 = .ok (.iload_n 3, 1) := by decide +kernel
theorem dX9_chance_34 : decode cX9_chance 34 = .ok (.invokevirtual 195, 3) := by decide +kernel
theorem dX9_chance_37 : decode cX9_chance 37 = .ok (.goto 5, 3) := by decide +kernel
theorem dX9_chance_40 : decode cX9_chance 40 = .ok (.bipush (-102), 2) := by decide +kernel
theorem dX9_chance_42 : decode cX9_chance 42 = .ok (.ireturn, 1) := by decide +kernel
theorem dX9_cutsNow_0 : decode cX9_cutsNow 0 = .ok (.aload_n 0, 1) := by decide +kernel
theorem dX9_cutsNow_1 : decode cX9_cutsNow 1 = .ok (.getfield 115, 3) := by decide +kernel
theorem dX9_cutsNow_4 : decode cX9_cutsNow 4 = .ok (.istore 4, 2) := by decide +kernel
theorem dX9_cutsNow_6 : decode cX9_cutsNow 6 = .ok (.iconst (-1), 1) := by decide +kernel
theorem dX9_cutsNow_7 : decode cX9_cutsNow 7 = .ok (.istore 5, 2) := by decide +kernel
theorem dX9_cutsNow_9 : decode cX9_cutsNow 9 = .ok (.iconst 0, 1) := by decide +kernel
theorem dX9_cutsNow_10 : decode cX9_cutsNow 10 = .ok (.istore 6, 2) := by decide +kernel
theorem dX9_cutsNow_12 : decode cX9_cutsNow 12 = .ok (.iload 6, 2) := by decide +kernel
theorem dX9_cutsNow_14 : decode cX9_cutsNow 14 = .ok (.iconst 1, 1) := by decide +kernel
theorem dX9_cutsNow_15 : decode cX9_cutsNow 15 = .ok (.aload_n 0, 1) := by decide +kernel
theorem dX9_cutsNow_16 : decode cX9_cutsNow 16 = .ok (.getfield 112, 3) := by decide +kernel
theorem dX9_cutsNow_19 : decode cX9_cutsNow 19 = .ok (.ishl, 1) := by decide +kernel
theorem dX9_cutsNow_20 : decode cX9_cutsNow 20 = .ok (.if_icmp .ge 63, 3) := by decide +kernel
theorem dX9_cutsNow_23 : decode cX9_cutsNow 23 = .ok (.iload 6, 2) := by decide +kernel
theorem dX9_cutsNow_25 : decode cX9_cutsNow 25 = .ok (.iload 4, 2) := by decide +kernel
theorem dX9_cutsNow_27 : decode cX9_cutsNow 27 = .ok (.iand, 1) := by decide +kernel
theorem dX9_cutsNow_28 : decode cX9_cutsNow 28 = .ok (.ifCond .ne 49, 3) := by decide +kernel
theorem dX9_cutsNow_31 : decode cX9_cutsNow 31 = .ok (.iload 5, 2) := by decide +kernel
theorem dX9_cutsNow_33 : decode cX9_cutsNow 33 = .ok (.iconst (-1), 1) := by decide +kernel
theorem dX9_cutsNow_34 : decode cX9_cutsNow 34 = .ok (.if_icmp .eq 16, 3) := by decide +kernel
theorem dX9_cutsNow_37 : decode cX9_cutsNow 37 = .ok (.iload 6, 2) := by decide +kernel
theorem dX9_cutsNow_39 : decode cX9_cutsNow 39 = .ok (.invokestatic 179, 3) := by decide +kernel
theorem dX9_cutsNow_42 : decode cX9_cutsNow 42 = .ok (.iload 5, 2) := by decide +kernel
theorem dX9_cutsNow_44 : decode cX9_cutsNow 44 = .ok (.invokestatic 179, 3) := by decide +kernel
theorem dX9_cutsNow_47 : decode cX9_cutsNow 47 = .ok (.if_icmp .ge 30, 3) := by decide +kernel
theorem dX9_cutsNow_50 : decode cX9_cutsNow 50 = .ok (.aload_n 0, 1) := by decide +kernel
theorem dX9_cutsNow_51 : decode cX9_cutsNow 51 = .ok (.iload 4, 2) := by decide +kernel
theorem dX9_cutsNow_53 : decode cX9_cutsNow 53 = .ok (.iload 6, 2) := by decide +kernel
theorem dX9_cutsNow_55 : decode cX9_cutsNow 55 = .ok (.ior, 1) := by decide +kernel
theorem dX9_cutsNow_56 : decode cX9_cutsNow 56 = .ok (.putfield 115, 3) := by decide +kernel
theorem dX9_cutsNow_59 : decode cX9_cutsNow 59 = .ok (.aload_n 0, 1) := by decide +kernel
theorem dX9_cutsNow_60 : decode cX9_cutsNow 60 = .ok (.iload_n 1, 1) := by decide +kernel
theorem dX9_cutsNow_61 : decode cX9_cutsNow 61 = .ok (.invokevirtual 161, 3) := by decide +kernel
theorem dX9_cutsNow_64 : decode cX9_cutsNow 64 = .ok (.iload_n 2, 1) := by decide +kernel
theorem dX9_cutsNow_65 : decode cX9_cutsNow 65 = .ok (.if_icmp .ne 8, 3) := by decide +kernel
theorem dX9_cutsNow_68 : decode cX9_cutsNow 68 = .ok (.iload 6, 2) := by decide +kernel
theorem dX9_cutsNow_70 : decode cX9_cutsNow 70 = .ok (.goto 5, 3) := by decide +kernel
theorem dX9_cutsNow_73 : decode cX9_cutsNow 73 = .ok (.iload 5, 2) := by decide +kernel
theorem dX9_cutsNow_75 : decode cX9_cutsNow 75 = .ok (.istore 5, 2) := by decide +kernel
theorem dX9_cutsNow_77 : decode cX9_cutsNow 77 = .ok (.iinc 6 1, 3) := by decide +kernel
theorem dX9_cutsNow_80 : decode cX9_cutsNow 80 = .ok (.goto (-68), 3) := by decide +kernel
theorem dX9_cutsNow_83 : decode cX9_cutsNow 83 = .ok (.aload_n 0, 1) := by decide +kernel
theorem dX9_cutsNow_84 : decode cX9_cutsNow 84 = .ok (.iload 4, 2) := by decide +kernel
theorem dX9_cutsNow_86 : decode cX9_cutsNow 86 = .ok (.putfield 115, 3) := by decide +kernel
theorem dX9_cutsNow_89 : decode cX9_cutsNow 89 = .ok (.iload 5, 2) := by decide +kernel
theorem dX9_cutsNow_91 : decode cX9_cutsNow 91 = .ok (.iconst (-1), 1) := by decide +kernel
theorem dX9_cutsNow_92 : decode cX9_cutsNow 92 = .ok (.if_icmp .eq 8, 3) := by decide +kernel
theorem dX9_cutsNow_95 : decode cX9_cutsNow 95 = .ok (.iload_n 3, 1) := by decide +kernel
theorem dX9_cutsNow_96 : decode cX9_cutsNow 96 = .ok (.iconst 1, 1) := by decide +kernel
theorem dX9_cutsNow_97 : decode cX9_cutsNow 97 = .ok (.if_icmp .ne 8, 3) := by decide +kernel
theorem dX9_cutsNow_100 : decode cX9_cutsNow 100 = .ok (.iload 5, 2) := by decide +kernel
theorem dX9_cutsNow_102 : decode cX9_cutsNow 102 = .ok (.goto 8, 3) := by decide +kernel
theorem dX9_cutsNow_105 : decode cX9_cutsNow 105 = .ok (.iload 5, 2) := by decide +kernel
theorem dX9_cutsNow_107 : decode cX9_cutsNow 107 = .ok (.invokestatic 179, 3) := by decide +kernel
theorem dX9_cutsNow_110 : decode cX9_cutsNow 110 = .ok (.ireturn, 1) := by decide +kernel
theorem dX9_cuts_0 : decode cX9_cuts 0 = .ok (.aload_n 0, 1) := by decide +kernel
theorem dX9_cuts_1 : decode cX9_cuts 1 = .ok (.iload_n 1, 1) := by decide +kernel
theorem dX9_cuts_2 : decode cX9_cuts 2 = .ok (.invokevirtual 167, 3) := by decide +kernel
theorem dX9_cuts_5 : decode cX9_cuts 5 = .ok (.ifCond .ne 6, 3) := by decide +kernel
theorem dX9_cuts_8 : decode cX9_cuts 8 = .ok (.bipush (-101), 2) := by decide +kernel
theorem dX9_cuts_10 : decode cX9_cuts 10 = .ok (.ireturn, 1) := by decide +kernel
theorem dX9_cuts_11 : decode cX9_cuts 11 = .ok (.iload_n 2, 1) := by decide +kernel
theorem dX9_cuts_12 : decode cX9_cuts 12 = .ok (.iconst (-1), 1) := by decide +kernel
theorem dX9_cuts_13 : decode cX9_cuts 13 = .ok (.iconst 1, 1) := by decide +kernel
theorem dX9_cuts_14 : decode cX9_cuts 14 = .ok (.invokestatic 79, 3) := by decide +kernel
theorem dX9_cuts_17 : decode cX9_cuts 17 = .ok (.ifCond .eq 22, 3) := by decide +kernel
theorem dX9_cuts_20 : decode cX9_cuts 20 = .ok (.iload_n 3, 1) := by decide +kernel
theorem dX9_cuts_21 : decode cX9_cuts 21 = .ok (.iconst 0, 1) := by decide +kernel
theorem dX9_cuts_22 : decode cX9_cuts 22 = .ok (.iconst 1, 1) := by decide +kernel
theorem dX9_cuts_23 : decode cX9_cuts 23 = .ok (.invokestatic 79, 3) := by decide +kernel
theorem dX9_cuts_26 : decode cX9_cuts 26 = .ok (.ifCond .eq 13, 3) := by decide +kernel
theorem dX9_cuts_29 : decode cX9_cuts 29 = .ok (.aload_n 0, 1) := by decide +kernel
theorem dX9_cuts_30 : decode cX9_cuts 30 = .ok (.iload_n 1, 1) := by decide +kernel
theorem dX9_cuts_31 : decode cX9_cuts 31 = .ok (.iload_n 2, 1) := by decide +kernel
theorem dX9_cuts_32 : decode cX9_cuts 32 = .ok (.iload_n 3, 1) := by decide +kernel
theorem dX9_cuts_33 : decode cX9_cuts 33 = .ok (.invokevirtual 198, 3) := by decide +kernel
theorem dX9_cuts_36 : decode cX9_cuts 36 = .ok (.goto 5, 3) := by decide +kernel
theorem dX9_cuts_39 : decode cX9_cuts 39 = .ok (.bipush (-102), 2) := by decide +kernel
theorem dX9_cuts_41 : decode cX9_cuts 41 = .ok (.ireturn, 1) := by decide +kernel
theorem dX9_saveLeans_0 : decode cX9_saveLeans 0 = .ok (.iconst 0, 1) := by decide +kernel
theorem dX9_saveLeans_1 : decode cX9_saveLeans 1 = .ok (.istore_n 1, 1) := by decide +kernel
theorem dX9_saveLeans_2 : decode cX9_saveLeans 2 = .ok (.iload_n 1, 1) := by decide +kernel
theorem dX9_saveLeans_3 : decode cX9_saveLeans 3 = .ok (.bipush 24, 2) := by decide +kernel
theorem dX9_saveLeans_5 : decode cX9_saveLeans 5 = .ok (.if_icmp .ge 21, 3) := by decide +kernel
theorem dX9_saveLeans_8 : decode cX9_saveLeans 8 = .ok (.aload_n 0, 1) := by decide +kernel
theorem dX9_saveLeans_9 : decode cX9_saveLeans 9 = .ok (.getfield 41, 3) := by decide +kernel
theorem dX9_saveLeans_12 : decode cX9_saveLeans 12 = .ok (.iload_n 1, 1) := by decide +kernel
theorem dX9_saveLeans_13 : decode cX9_saveLeans 13 = .ok (.aload_n 0, 1) := by decide +kernel
theorem dX9_saveLeans_14 : decode cX9_saveLeans 14 = .ok (.getfield 16, 3) := by decide +kernel
theorem dX9_saveLeans_17 : decode cX9_saveLeans 17 = .ok (.iload_n 1, 1) := by decide +kernel
theorem dX9_saveLeans_18 : decode cX9_saveLeans 18 = .ok (.iaload, 1) := by decide +kernel
theorem dX9_saveLeans_19 : decode cX9_saveLeans 19 = .ok (.iastore, 1) := by decide +kernel
theorem dX9_saveLeans_20 : decode cX9_saveLeans 20 = .ok (.iinc 1 1, 3) := by decide +kernel
theorem dX9_saveLeans_23 : decode cX9_saveLeans 23 = .ok (.goto (-21), 3) := by decide +kernel
theorem dX9_saveLeans_26 : decode cX9_saveLeans 26 = .ok (.return_, 1) := by decide +kernel
theorem dX9_loadLeans_0 : decode cX9_loadLeans 0 = .ok (.iconst 0, 1) := by decide +kernel
theorem dX9_loadLeans_1 : decode cX9_loadLeans 1 = .ok (.istore_n 1, 1) := by decide +kernel
theorem dX9_loadLeans_2 : decode cX9_loadLeans 2 = .ok (.iload_n 1, 1) := by decide +kernel
theorem dX9_loadLeans_3 : decode cX9_loadLeans 3 = .ok (.bipush 24, 2) := by decide +kernel
theorem dX9_loadLeans_5 : decode cX9_loadLeans 5 = .ok (.if_icmp .ge 21, 3) := by decide +kernel
theorem dX9_loadLeans_8 : decode cX9_loadLeans 8 = .ok (.aload_n 0, 1) := by decide +kernel
theorem dX9_loadLeans_9 : decode cX9_loadLeans 9 = .ok (.getfield 16, 3) := by decide +kernel
theorem dX9_loadLeans_12 : decode cX9_loadLeans 12 = .ok (.iload_n 1, 1) := by decide +kernel
theorem dX9_loadLeans_13 : decode cX9_loadLeans 13 = .ok (.aload_n 0, 1) := by decide +kernel
theorem dX9_loadLeans_14 : decode cX9_loadLeans 14 = .ok (.getfield 41, 3) := by decide +kernel
theorem dX9_loadLeans_17 : decode cX9_loadLeans 17 = .ok (.iload_n 1, 1) := by decide +kernel
theorem dX9_loadLeans_18 : decode cX9_loadLeans 18 = .ok (.iaload, 1) := by decide +kernel
theorem dX9_loadLeans_19 : decode cX9_loadLeans 19 = .ok (.iastore, 1) := by decide +kernel
theorem dX9_loadLeans_20 : decode cX9_loadLeans 20 = .ok (.iinc 1 1, 3) := by decide +kernel
theorem dX9_loadLeans_23 : decode cX9_loadLeans 23 = .ok (.goto (-21), 3) := by decide +kernel
theorem dX9_loadLeans_26 : decode cX9_loadLeans 26 = .ok (.return_, 1) := by decide +kernel
theorem dX9_otherwise_0 : decode cX9_otherwise 0 = .ok (.iconst 0, 1) := by decide +kernel
theorem dX9_otherwise_1 : decode cX9_otherwise 1 = .ok (.istore_n 2, 1) := by decide +kernel
theorem dX9_otherwise_2 : decode cX9_otherwise 2 = .ok (.iconst 0, 1) := by decide +kernel
theorem dX9_otherwise_3 : decode cX9_otherwise 3 = .ok (.istore_n 3, 1) := by decide +kernel
theorem dX9_otherwise_4 : decode cX9_otherwise 4 = .ok (.iload_n 3, 1) := by decide +kernel
theorem dX9_otherwise_5 : decode cX9_otherwise 5 = .ok (.aload_n 0, 1) := by decide +kernel
theorem dX9_otherwise_6 : decode cX9_otherwise 6 = .ok (.getfield 112, 3) := by decide +kernel
theorem dX9_otherwise_9 : decode cX9_otherwise 9 = .ok (.if_icmp .ge 42, 3) := by decide +kernel
theorem dX9_otherwise_12 : decode cX9_otherwise 12 = .ok (.iload_n 2, 1) := by decide +kernel
theorem dX9_otherwise_13 : decode cX9_otherwise 13 = .ok (.aload_n 0, 1) := by decide +kernel
theorem dX9_otherwise_14 : decode cX9_otherwise 14 = .ok (.getfield 16, 3) := by decide +kernel
theorem dX9_otherwise_17 : decode cX9_otherwise 17 = .ok (.iconst 3, 1) := by decide +kernel
theorem dX9_otherwise_18 : decode cX9_otherwise 18 = .ok (.iload_n 3, 1) := by decide +kernel
theorem dX9_otherwise_19 : decode cX9_otherwise 19 = .ok (.imul, 1) := by decide +kernel
theorem dX9_otherwise_20 : decode cX9_otherwise 20 = .ok (.iload_n 1, 1) := by decide +kernel
theorem dX9_otherwise_21 : decode cX9_otherwise 21 = .ok (.iadd, 1) := by decide +kernel
theorem dX9_otherwise_22 : decode cX9_otherwise 22 = .ok (.iaload, 1) := by decide +kernel
theorem dX9_otherwise_23 : decode cX9_otherwise 23 = .ok (.aload_n 0, 1) := by decide +kernel
theorem dX9_otherwise_24 : decode cX9_otherwise 24 = .ok (.getfield 41, 3) := by decide +kernel
theorem dX9_otherwise_27 : decode cX9_otherwise 27 = .ok (.iconst 3, 1) := by decide +kernel
theorem dX9_otherwise_28 : decode cX9_otherwise 28 = .ok (.iload_n 3, 1) := by decide +kernel
theorem dX9_otherwise_29 : decode cX9_otherwise 29 = .ok (.imul, 1) := by decide +kernel
theorem dX9_otherwise_30 : decode cX9_otherwise 30 = .ok (.iload_n 1, 1) := by decide +kernel
theorem dX9_otherwise_31 : decode cX9_otherwise 31 = .ok (.iadd, 1) := by decide +kernel
theorem dX9_otherwise_32 : decode cX9_otherwise 32 = .ok (.iaload, 1) := by decide +kernel
theorem dX9_otherwise_33 : decode cX9_otherwise 33 = .ok (.if_icmp .ne 7, 3) := by decide +kernel
theorem dX9_otherwise_36 : decode cX9_otherwise 36 = .ok (.iconst 0, 1) := by decide +kernel
theorem dX9_otherwise_37 : decode cX9_otherwise 37 = .ok (.goto 6, 3) := by decide +kernel
theorem dX9_otherwise_40 : decode cX9_otherwise 40 = .ok (.iconst 1, 1) := by decide +kernel
theorem dX9_otherwise_41 : decode cX9_otherwise 41 = .ok (.iload_n 3, 1) := by decide +kernel
theorem dX9_otherwise_42 : decode cX9_otherwise 42 = .ok (.ishl, 1) := by decide +kernel
theorem dX9_otherwise_43 : decode cX9_otherwise 43 = .ok (.ior, 1) := by decide +kernel
theorem dX9_otherwise_44 : decode cX9_otherwise 44 = .ok (.istore_n 2, 1) := by decide +kernel
theorem dX9_otherwise_45 : decode cX9_otherwise 45 = .ok (.iinc 3 1, 3) := by decide +kernel
theorem dX9_otherwise_48 : decode cX9_otherwise 48 = .ok (.goto (-44), 3) := by decide +kernel
theorem dX9_otherwise_51 : decode cX9_otherwise 51 = .ok (.iload_n 2, 1) := by decide +kernel
theorem dX9_otherwise_52 : decode cX9_otherwise 52 = .ok (.ireturn, 1) := by decide +kernel
theorem dX9_turnsNow_0 : decode cX9_turnsNow 0 = .ok (.aload_n 0, 1) := by decide +kernel
theorem dX9_turnsNow_1 : decode cX9_turnsNow 1 = .ok (.invokevirtual 201, 3) := by decide +kernel
theorem dX9_turnsNow_4 : decode cX9_turnsNow 4 = .ok (.iconst 1, 1) := by decide +kernel
theorem dX9_turnsNow_5 : decode cX9_turnsNow 5 = .ok (.istore 4, 2) := by decide +kernel
theorem dX9_turnsNow_7 : decode cX9_turnsNow 7 = .ok (.iconst 0, 1) := by decide +kernel
theorem dX9_turnsNow_8 : decode cX9_turnsNow 8 = .ok (.istore 5, 2) := by decide +kernel
theorem dX9_turnsNow_10 : decode cX9_turnsNow 10 = .ok (.iload 5, 2) := by decide +kernel
theorem dX9_turnsNow_12 : decode cX9_turnsNow 12 = .ok (.aload_n 0, 1) := by decide +kernel
theorem dX9_turnsNow_13 : decode cX9_turnsNow 13 = .ok (.getfield 112, 3) := by decide +kernel
theorem dX9_turnsNow_16 : decode cX9_turnsNow 16 = .ok (.if_icmp .ge 15, 3) := by decide +kernel
theorem dX9_turnsNow_19 : decode cX9_turnsNow 19 = .ok (.iload 4, 2) := by decide +kernel
theorem dX9_turnsNow_21 : decode cX9_turnsNow 21 = .ok (.iconst 3, 1) := by decide +kernel
theorem dX9_turnsNow_22 : decode cX9_turnsNow 22 = .ok (.imul, 1) := by decide +kernel
theorem dX9_turnsNow_23 : decode cX9_turnsNow 23 = .ok (.istore 4, 2) := by decide +kernel
theorem dX9_turnsNow_25 : decode cX9_turnsNow 25 = .ok (.iinc 5 1, 3) := by decide +kernel
theorem dX9_turnsNow_28 : decode cX9_turnsNow 28 = .ok (.goto (-18), 3) := by decide +kernel
theorem dX9_turnsNow_31 : decode cX9_turnsNow 31 = .ok (.iconst (-1), 1) := by decide +kernel
theorem dX9_turnsNow_32 : decode cX9_turnsNow 32 = .ok (.istore 5, 2) := by decide +kernel
theorem dX9_turnsNow_34 : decode cX9_turnsNow 34 = .ok (.iconst 0, 1) := by decide +kernel
theorem dX9_turnsNow_35 : decode cX9_turnsNow 35 = .ok (.istore 6, 2) := by decide +kernel
theorem dX9_turnsNow_37 : decode cX9_turnsNow 37 = .ok (.iload 6, 2) := by decide +kernel
theorem dX9_turnsNow_39 : decode cX9_turnsNow 39 = .ok (.iload 4, 2) := by decide +kernel
theorem dX9_turnsNow_41 : decode cX9_turnsNow 41 = .ok (.if_icmp .ge 130, 3) := by decide +kernel
theorem dX9_turnsNow_44 : decode cX9_turnsNow 44 = .ok (.iload 6, 2) := by decide +kernel
theorem dX9_turnsNow_46 : decode cX9_turnsNow 46 = .ok (.istore 7, 2) := by decide +kernel
theorem dX9_turnsNow_48 : decode cX9_turnsNow 48 = .ok (.iconst 0, 1) := by decide +kernel
theorem dX9_turnsNow_49 : decode cX9_turnsNow 49 = .ok (.istore 8, 2) := by decide +kernel
theorem dX9_turnsNow_51 : decode cX9_turnsNow 51 = .ok (.iload 8, 2) := by decide +kernel
theorem dX9_turnsNow_53 : decode cX9_turnsNow 53 = .ok (.aload_n 0, 1) := by decide +kernel
theorem dX9_turnsNow_54 : decode cX9_turnsNow 54 = .ok (.getfield 112, 3) := by decide +kernel
theorem dX9_turnsNow_57 : decode cX9_turnsNow 57 = .ok (.if_icmp .ge 32, 3) := by decide +kernel
theorem dX9_turnsNow_60 : decode cX9_turnsNow 60 = .ok (.aload_n 0, 1) := by decide +kernel
theorem dX9_turnsNow_61 : decode cX9_turnsNow 61 = .ok (.getfield 16, 3) := by decide +kernel
theorem dX9_turnsNow_64 : decode cX9_turnsNow 64 = .ok (.iconst 3, 1) := by decide +kernel
theorem dX9_turnsNow_65 : decode cX9_turnsNow 65 = .ok (.iload 8, 2) := by decide +kernel
theorem dX9_turnsNow_67 : decode cX9_turnsNow 67 = .ok (.imul, 1) := by decide +kernel
theorem dX9_turnsNow_68 : decode cX9_turnsNow 68 = .ok (.iload_n 1, 1) := by decide +kernel
theorem dX9_turnsNow_69 : decode cX9_turnsNow 69 = .ok (.iadd, 1) := by decide +kernel
theorem dX9_turnsNow_70 : decode cX9_turnsNow 70 = .ok (.iload 7, 2) := by decide +kernel
theorem dX9_turnsNow_72 : decode cX9_turnsNow 72 = .ok (.iconst 3, 1) := by decide +kernel
theorem dX9_turnsNow_73 : decode cX9_turnsNow 73 = .ok (.irem, 1) := by decide +kernel
theorem dX9_turnsNow_74 : decode cX9_turnsNow 74 = .ok (.iconst 1, 1) := by decide +kernel
theorem dX9_turnsNow_75 : decode cX9_turnsNow 75 = .ok (.isub, 1) := by decide +kernel
theorem dX9_turnsNow_76 : decode cX9_turnsNow 76 = .ok (.iastore, 1) := by decide +kernel
theorem dX9_turnsNow_77 : decode cX9_turnsNow 77 = .ok (.iload 7, 2) := by decide +kernel
theorem dX9_turnsNow_79 : decode cX9_turnsNow 79 = .ok (.iconst 3, 1) := by decide +kernel
theorem dX9_turnsNow_80 : decode cX9_turnsNow 80 = .ok (.idiv, 1) := by decide +kernel
theorem dX9_turnsNow_81 : decode cX9_turnsNow 81 = .ok (.istore 7, 2) := by decide +kernel
theorem dX9_turnsNow_83 : decode cX9_turnsNow 83 = .ok (.iinc 8 1, 3) := by decide +kernel
theorem dX9_turnsNow_86 : decode cX9_turnsNow 86 = .ok (.goto (-35), 3) := by decide +kernel
theorem dX9_turnsNow_89 : decode cX9_turnsNow 89 = .ok (.aload_n 0, 1) := by decide +kernel
theorem dX9_turnsNow_90 : decode cX9_turnsNow 90 = .ok (.iload_n 1, 1) := by decide +kernel
theorem dX9_turnsNow_91 : decode cX9_turnsNow 91 = .ok (.invokevirtual 204, 3) := by decide +kernel
theorem dX9_turnsNow_94 : decode cX9_turnsNow 94 = .ok (.istore 8, 2) := by decide +kernel
theorem dX9_turnsNow_96 : decode cX9_turnsNow 96 = .ok (.iload 5, 2) := by decide +kernel
theorem dX9_turnsNow_98 : decode cX9_turnsNow 98 = .ok (.iconst (-1), 1) := by decide +kernel
theorem dX9_turnsNow_99 : decode cX9_turnsNow 99 = .ok (.if_icmp .eq 36, 3) := by decide +kernel
theorem dX9_turnsNow_102 : decode cX9_turnsNow 102 = .ok (.iload 8, 2) := by decide +kernel
theorem dX9_turnsNow_104 : decode cX9_turnsNow 104 = .ok (.invokestatic 179, 3) := by decide +kernel
theorem dX9_turnsNow_107 : decode cX9_turnsNow 107 = .ok (.iload 5, 2) := by decide +kernel
theorem dX9_turnsNow_109 : decode cX9_turnsNow 109 = .ok (.invokestatic 179, 3) := by decide +kernel
theorem dX9_turnsNow_112 : decode cX9_turnsNow 112 = .ok (.if_icmp .lt 23, 3) := by decide +kernel
theorem dX9_turnsNow_115 : decode cX9_turnsNow 115 = .ok (.iload 8, 2) := by decide +kernel
theorem dX9_turnsNow_117 : decode cX9_turnsNow 117 = .ok (.invokestatic 179, 3) := by decide +kernel
theorem dX9_turnsNow_120 : decode cX9_turnsNow 120 = .ok (.iload 5, 2) := by decide +kernel
theorem dX9_turnsNow_122 : decode cX9_turnsNow 122 = .ok (.invokestatic 179, 3) := by decide +kernel
theorem dX9_turnsNow_125 : decode cX9_turnsNow 125 = .ok (.if_icmp .ne 14, 3) := by decide +kernel
theorem dX9_turnsNow_128 : decode cX9_turnsNow 128 = .ok (.iload 8, 2) := by decide +kernel
theorem dX9_turnsNow_130 : decode cX9_turnsNow 130 = .ok (.iload 5, 2) := by decide +kernel
theorem dX9_turnsNow_132 : decode cX9_turnsNow 132 = .ok (.if_icmp .ge 7, 3) := by decide +kernel
theorem dX9_turnsNow_135 : decode cX9_turnsNow 135 = .ok (.iconst 1, 1) := by decide +kernel
theorem dX9_turnsNow_136 : decode cX9_turnsNow 136 = .ok (.goto 4, 3) := by decide +kernel
theorem dX9_turnsNow_139 : decode cX9_turnsNow 139 = .ok (.iconst 0, 1) := by decide +kernel
theorem dX9_turnsNow_140 : decode cX9_turnsNow 140 = .ok (.istore 9, 2) := by decide +kernel
theorem dX9_turnsNow_142 : decode cX9_turnsNow 142 = .ok (.iload 9, 2) := by decide +kernel
theorem dX9_turnsNow_144 : decode cX9_turnsNow 144 = .ok (.ifCond .eq 17, 3) := by decide +kernel
theorem dX9_turnsNow_147 : decode cX9_turnsNow 147 = .ok (.aload_n 0, 1) := by decide +kernel
theorem dX9_turnsNow_148 : decode cX9_turnsNow 148 = .ok (.iload_n 1, 1) := by decide +kernel
theorem dX9_turnsNow_149 : decode cX9_turnsNow 149 = .ok (.invokevirtual 161, 3) := by decide +kernel
theorem dX9_turnsNow_152 : decode cX9_turnsNow 152 = .ok (.iload_n 2, 1) := by decide +kernel
theorem dX9_turnsNow_153 : decode cX9_turnsNow 153 = .ok (.if_icmp .ne 8, 3) := by decide +kernel
theorem dX9_turnsNow_156 : decode cX9_turnsNow 156 = .ok (.iload 8, 2) := by decide +kernel
theorem dX9_turnsNow_158 : decode cX9_turnsNow 158 = .ok (.goto 5, 3) := by decide +kernel
theorem dX9_turnsNow_161 : decode cX9_turnsNow 161 = .ok (.iload 5, 2) := by decide +kernel
theorem dX9_turnsNow_163 : decode cX9_turnsNow 163 = .ok (.istore 5, 2) := by decide +kernel
theorem dX9_turnsNow_165 : decode cX9_turnsNow 165 = .ok (.iinc 6 1, 3) := by decide +kernel
theorem dX9_turnsNow_168 : decode cX9_turnsNow 168 = .ok (.goto (-131), 3) := by decide +kernel
theorem dX9_turnsNow_171 : decode cX9_turnsNow 171 = .ok (.aload_n 0, 1) := by decide +kernel
theorem dX9_turnsNow_172 : decode cX9_turnsNow 172 = .ok (.invokevirtual 207, 3) := by decide +kernel
theorem dX9_turnsNow_175 : decode cX9_turnsNow 175 = .ok (.iload 5, 2) := by decide +kernel
theorem dX9_turnsNow_177 : decode cX9_turnsNow 177 = .ok (.iconst (-1), 1) := by decide +kernel
theorem dX9_turnsNow_178 : decode cX9_turnsNow 178 = .ok (.if_icmp .eq 8, 3) := by decide +kernel
theorem dX9_turnsNow_181 : decode cX9_turnsNow 181 = .ok (.iload_n 3, 1) := by decide +kernel
theorem dX9_turnsNow_182 : decode cX9_turnsNow 182 = .ok (.iconst 1, 1) := by decide +kernel
theorem dX9_turnsNow_183 : decode cX9_turnsNow 183 = .ok (.if_icmp .ne 8, 3) := by decide +kernel
theorem dX9_turnsNow_186 : decode cX9_turnsNow 186 = .ok (.iload 5, 2) := by decide +kernel
theorem dX9_turnsNow_188 : decode cX9_turnsNow 188 = .ok (.goto 8, 3) := by decide +kernel
theorem dX9_turnsNow_191 : decode cX9_turnsNow 191 = .ok (.iload 5, 2) := by decide +kernel
theorem dX9_turnsNow_193 : decode cX9_turnsNow 193 = .ok (.invokestatic 179, 3) := by decide +kernel
theorem dX9_turnsNow_196 : decode cX9_turnsNow 196 = .ok (.ireturn, 1) := by decide +kernel
theorem dX9_fewTurns_0 : decode cX9_fewTurns 0 = .ok (.aload_n 0, 1) := by decide +kernel
theorem dX9_fewTurns_1 : decode cX9_fewTurns 1 = .ok (.iload_n 1, 1) := by decide +kernel
theorem dX9_fewTurns_2 : decode cX9_fewTurns 2 = .ok (.invokevirtual 167, 3) := by decide +kernel
theorem dX9_fewTurns_5 : decode cX9_fewTurns 5 = .ok (.ifCond .ne 6, 3) := by decide +kernel
theorem dX9_fewTurns_8 : decode cX9_fewTurns 8 = .ok (.bipush (-101), 2) := by decide +kernel
theorem dX9_fewTurns_10 : decode cX9_fewTurns 10 = .ok (.ireturn, 1) := by decide +kernel
theorem dX9_fewTurns_11 : decode cX9_fewTurns 11 = .ok (.iload_n 2, 1) := by decide +kernel
theorem dX9_fewTurns_12 : decode cX9_fewTurns 12 = .ok (.iconst (-1), 1) := by decide +kernel
theorem dX9_fewTurns_13 : decode cX9_fewTurns 13 = .ok (.iconst 1, 1) := by decide +kernel
theorem dX9_fewTurns_14 : decode cX9_fewTurns 14 = .ok (.invokestatic 79, 3) := by decide +kernel
theorem dX9_fewTurns_17 : decode cX9_fewTurns 17 = .ok (.ifCond .eq 12, 3) := by decide +kernel
theorem dX9_fewTurns_20 : decode cX9_fewTurns 20 = .ok (.iload_n 3, 1) := by decide +kernel
theorem dX9_fewTurns_21 : decode cX9_fewTurns 21 = .ok (.iconst 0, 1) := by decide +kernel
theorem dX9_fewTurns_22 : decode cX9_fewTurns 22 = .ok (.iconst 1, 1) := by decide +kernel
theorem dX9_fewTurns_23 : decode cX9_fewTurns 23 = .ok (.invokestatic 79, 3) := by decide +kernel
theorem dX9_fewTurns_26 : decode cX9_fewTurns 26 = .ok (.ifCond .ne 6, 3) := by decide +kernel
theorem dX9_fewTurns_29 : decode cX9_fewTurns 29 = .ok (.bipush (-102), 2) := by decide +kernel
theorem dX9_fewTurns_31 : decode cX9_fewTurns 31 = .ok (.ireturn, 1) := by decide +kernel
theorem dX9_fewTurns_32 : decode cX9_fewTurns 32 = .ok (.aload_n 0, 1) := by decide +kernel
theorem dX9_fewTurns_33 : decode cX9_fewTurns 33 = .ok (.getfield 210, 3) := by decide +kernel
theorem dX9_fewTurns_36 : decode cX9_fewTurns 36 = .ok (.bipush 20, 2) := by decide +kernel
theorem dX9_fewTurns_38 : decode cX9_fewTurns 38 = .ok (.if_icmp .ne 6, 3) := by decide +kernel
theorem dX9_fewTurns_41 : decode cX9_fewTurns 41 = .ok (.bipush (-103), 2) := by decide +kernel
theorem dX9_fewTurns_43 : decode cX9_fewTurns 43 = .ok (.ireturn, 1) := by decide +kernel
theorem dX9_fewTurns_44 : decode cX9_fewTurns 44 = .ok (.aload_n 0, 1) := by decide +kernel
theorem dX9_fewTurns_45 : decode cX9_fewTurns 45 = .ok (.dup, 1) := by decide +kernel
theorem dX9_fewTurns_46 : decode cX9_fewTurns 46 = .ok (.getfield 210, 3) := by decide +kernel
theorem dX9_fewTurns_49 : decode cX9_fewTurns 49 = .ok (.iconst 1, 1) := by decide +kernel
theorem dX9_fewTurns_50 : decode cX9_fewTurns 50 = .ok (.iadd, 1) := by decide +kernel
theorem dX9_fewTurns_51 : decode cX9_fewTurns 51 = .ok (.putfield 210, 3) := by decide +kernel
theorem dX9_fewTurns_54 : decode cX9_fewTurns 54 = .ok (.aload_n 0, 1) := by decide +kernel
theorem dX9_fewTurns_55 : decode cX9_fewTurns 55 = .ok (.iload_n 1, 1) := by decide +kernel
theorem dX9_fewTurns_56 : decode cX9_fewTurns 56 = .ok (.iload_n 2, 1) := by decide +kernel
theorem dX9_fewTurns_57 : decode cX9_fewTurns 57 = .ok (.iload_n 3, 1) := by decide +kernel
theorem dX9_fewTurns_58 : decode cX9_fewTurns 58 = .ok (.invokevirtual 213, 3) := by decide +kernel
theorem dX9_fewTurns_61 : decode cX9_fewTurns 61 = .ok (.ireturn, 1) := by decide +kernel
theorem dX9_leansTold_0 : decode cX9_leansTold 0 = .ok (.lconst 0, 1) := by decide +kernel
theorem dX9_leansTold_1 : decode cX9_leansTold 1 = .ok (.lstore_n 1, 1) := by decide +kernel
theorem dX9_leansTold_2 : decode cX9_leansTold 2 = .ok (.iconst 0, 1) := by decide +kernel
theorem dX9_leansTold_3 : decode cX9_leansTold 3 = .ok (.istore_n 3, 1) := by decide +kernel
theorem dX9_leansTold_4 : decode cX9_leansTold 4 = .ok (.iload_n 3, 1) := by decide +kernel
theorem dX9_leansTold_5 : decode cX9_leansTold 5 = .ok (.iconst 3, 1) := by decide +kernel
theorem dX9_leansTold_6 : decode cX9_leansTold 6 = .ok (.aload_n 0, 1) := by decide +kernel
theorem dX9_leansTold_7 : decode cX9_leansTold 7 = .ok (.getfield 112, 3) := by decide +kernel
theorem dX9_leansTold_10 : decode cX9_leansTold 10 = .ok (.imul, 1) := by decide +kernel
theorem dX9_leansTold_11 : decode cX9_leansTold 11 = .ok (.if_icmp .ge 25, 3) := by decide +kernel
theorem dX9_leansTold_14 : decode cX9_leansTold 14 = .ok (.ldc2_w 216, 3) := by decide +kernel
theorem dX9_leansTold_17 : decode cX9_leansTold 17 = .ok (.lload_n 1, 1) := by decide +kernel
theorem dX9_leansTold_18 : decode cX9_leansTold 18 = .ok (.lmul, 1) := by decide +kernel
theorem dX9_leansTold_19 : decode cX9_leansTold 19 = .ok (.aload_n 0, 1) := by decide +kernel
theorem dX9_leansTold_20 : decode cX9_leansTold 20 = .ok (.getfield 16, 3) := by decide +kernel
theorem dX9_leansTold_23 : decode cX9_leansTold 23 = .ok (.iload_n 3, 1) := by decide +kernel
theorem dX9_leansTold_24 : decode cX9_leansTold 24 = .ok (.iaload, 1) := by decide +kernel
theorem dX9_leansTold_25 : decode cX9_leansTold 25 = .ok (.i2l, 1) := by decide +kernel
theorem dX9_leansTold_26 : decode cX9_leansTold 26 = .ok (.ladd, 1) := by decide +kernel
theorem dX9_leansTold_27 : decode cX9_leansTold 27 = .ok (.lconst 1, 1) := by decide +kernel
theorem dX9_leansTold_28 : decode cX9_leansTold 28 = .ok (.ladd, 1) := by decide +kernel
theorem dX9_leansTold_29 : decode cX9_leansTold 29 = .ok (.lstore_n 1, 1) := by decide +kernel
theorem dX9_leansTold_30 : decode cX9_leansTold 30 = .ok (.iinc 3 1, 3) := by decide +kernel
theorem dX9_leansTold_33 : decode cX9_leansTold 33 = .ok (.goto (-29), 3) := by decide +kernel
theorem dX9_leansTold_36 : decode cX9_leansTold 36 = .ok (.lload_n 1, 1) := by decide +kernel
theorem dX9_leansTold_37 : decode cX9_leansTold 37 = .ok (.lreturn, 1) := by decide +kernel
theorem dX9_settleNow_0 : decode cX9_settleNow 0 = .ok (.aload_n 0, 1) := by decide +kernel
theorem dX9_settleNow_1 : decode cX9_settleNow 1 = .ok (.invokevirtual 201, 3) := by decide +kernel
theorem dX9_settleNow_4 : decode cX9_settleNow 4 = .ok (.iconst 0, 1) := by decide +kernel
theorem dX9_settleNow_5 : decode cX9_settleNow 5 = .ok (.istore_n 2, 1) := by decide +kernel
theorem dX9_settleNow_6 : decode cX9_settleNow 6 = .ok (.iconst (-1), 1) := by decide +kernel
theorem dX9_settleNow_7 : decode cX9_settleNow 7 = .ok (.istore_n 3, 1) := by decide +kernel
theorem dX9_settleNow_8 : decode cX9_settleNow 8 = .ok (.aload_n 0, 1) := by decide +kernel
theorem dX9_settleNow_9 : decode cX9_settleNow 9 = .ok (.getfield 44, 3) := by decide +kernel
theorem dX9_settleNow_12 : decode cX9_settleNow 12 = .ok (.iconst 0, 1) := by decide +kernel
theorem dX9_settleNow_13 : decode cX9_settleNow 13 = .ok (.aload_n 0, 1) := by decide +kernel
theorem dX9_settleNow_14 : decode cX9_settleNow 14 = .ok (.invokevirtual 218, 3) := by decide +kernel
theorem dX9_settleNow_17 : decode cX9_settleNow 17 = .ok (.lastore, 1) := by decide +kernel
theorem dX9_settleNow_18 : decode cX9_settleNow 18 = .ok (.iload_n 3, 1) := by decide +kernel
theorem dX9_settleNow_19 : decode cX9_settleNow 19 = .ok (.iconst (-1), 1) := by decide +kernel
theorem dX9_settleNow_20 : decode cX9_settleNow 20 = .ok (.if_icmp .ne 71, 3) := by decide +kernel
theorem dX9_settleNow_23 : decode cX9_settleNow 23 = .ok (.iload_n 2, 1) := by decide +kernel
theorem dX9_settleNow_24 : decode cX9_settleNow 24 = .ok (.iconst 1, 1) := by decide +kernel
theorem dX9_settleNow_25 : decode cX9_settleNow 25 = .ok (.iadd, 1) := by decide +kernel
theorem dX9_settleNow_26 : decode cX9_settleNow 26 = .ok (.bipush 100, 2) := by decide +kernel
theorem dX9_settleNow_28 : decode cX9_settleNow 28 = .ok (.if_icmp .ge 63, 3) := by decide +kernel
theorem dX9_settleNow_31 : decode cX9_settleNow 31 = .ok (.aload_n 0, 1) := by decide +kernel
theorem dX9_settleNow_32 : decode cX9_settleNow 32 = .ok (.invokevirtual 173, 3) := by decide +kernel
theorem dX9_settleNow_35 : decode cX9_settleNow 35 = .ok (.iinc 2 1, 3) := by decide +kernel
theorem dX9_settleNow_38 : decode cX9_settleNow 38 = .ok (.aload_n 0, 1) := by decide +kernel
theorem dX9_settleNow_39 : decode cX9_settleNow 39 = .ok (.getfield 44, 3) := by decide +kernel
theorem dX9_settleNow_42 : decode cX9_settleNow 42 = .ok (.iload_n 2, 1) := by decide +kernel
theorem dX9_settleNow_43 : decode cX9_settleNow 43 = .ok (.aload_n 0, 1) := by decide +kernel
theorem dX9_settleNow_44 : decode cX9_settleNow 44 = .ok (.invokevirtual 218, 3) := by decide +kernel
theorem dX9_settleNow_47 : decode cX9_settleNow 47 = .ok (.lastore, 1) := by decide +kernel
theorem dX9_settleNow_48 : decode cX9_settleNow 48 = .ok (.iload_n 2, 1) := by decide +kernel
theorem dX9_settleNow_49 : decode cX9_settleNow 49 = .ok (.iconst 1, 1) := by decide +kernel
theorem dX9_settleNow_50 : decode cX9_settleNow 50 = .ok (.isub, 1) := by decide +kernel
theorem dX9_settleNow_51 : decode cX9_settleNow 51 = .ok (.istore 4, 2) := by decide +kernel
theorem dX9_settleNow_53 : decode cX9_settleNow 53 = .ok (.iload 4, 2) := by decide +kernel
theorem dX9_settleNow_55 : decode cX9_settleNow 55 = .ok (.ifCond .lt 33, 3) := by decide +kernel
theorem dX9_settleNow_58 : decode cX9_settleNow 58 = .ok (.aload_n 0, 1) := by decide +kernel
theorem dX9_settleNow_59 : decode cX9_settleNow 59 = .ok (.getfield 44, 3) := by decide +kernel
theorem dX9_settleNow_62 : decode cX9_settleNow 62 = .ok (.iload 4, 2) := by decide +kernel
theorem dX9_settleNow_64 : decode cX9_settleNow 64 = .ok (.laload, 1) := by decide +kernel
theorem dX9_settleNow_65 : decode cX9_settleNow 65 = .ok (.aload_n 0, 1) := by decide +kernel
theorem dX9_settleNow_66 : decode cX9_settleNow 66 = .ok (.getfield 44, 3) := by decide +kernel
theorem dX9_settleNow_69 : decode cX9_settleNow 69 = .ok (.iload_n 2, 1) := by decide +kernel
theorem dX9_settleNow_70 : decode cX9_settleNow 70 = .ok (.laload, 1) := by decide +kernel
theorem dX9_settleNow_71 : decode cX9_settleNow 71 = .ok (.lcmp, 1) := by decide +kernel
theorem dX9_settleNow_72 : decode cX9_settleNow 72 = .ok (.ifCond .ne 8, 3) := by decide +kernel
theorem dX9_settleNow_75 : decode cX9_settleNow 75 = .ok (.iload 4, 2) := by decide +kernel
theorem dX9_settleNow_77 : decode cX9_settleNow 77 = .ok (.goto 4, 3) := by decide +kernel
theorem dX9_settleNow_80 : decode cX9_settleNow 80 = .ok (.iload_n 3, 1) := by decide +kernel
theorem dX9_settleNow_81 : decode cX9_settleNow 81 = .ok (.istore_n 3, 1) := by decide +kernel
theorem dX9_settleNow_82 : decode cX9_settleNow 82 = .ok (.iinc 4 (-1), 3) := by decide +kernel
theorem dX9_settleNow_85 : decode cX9_settleNow 85 = .ok (.goto (-32), 3) := by decide +kernel
theorem dX9_settleNow_88 : decode cX9_settleNow 88 = .ok (.goto (-70), 3) := by decide +kernel
theorem dX9_settleNow_91 : decode cX9_settleNow 91 = .ok (.aload_n 0, 1) := by decide +kernel
theorem dX9_settleNow_92 : decode cX9_settleNow 92 = .ok (.invokevirtual 207, 3) := by decide +kernel
theorem dX9_settleNow_95 : decode cX9_settleNow 95 = .ok (.iload_n 1, 1) := by decide +kernel
theorem dX9_settleNow_96 : decode cX9_settleNow 96 = .ok (.ifCond .ne 7, 3) := by decide +kernel
theorem dX9_settleNow_99 : decode cX9_settleNow 99 = .ok (.iload_n 2, 1) := by decide +kernel
theorem dX9_settleNow_100 : decode cX9_settleNow 100 = .ok (.goto 4, 3) := by decide +kernel
theorem dX9_settleNow_103 : decode cX9_settleNow 103 = .ok (.iload_n 3, 1) := by decide +kernel
theorem dX9_settleNow_104 : decode cX9_settleNow 104 = .ok (.ireturn, 1) := by decide +kernel
theorem dX9_settle_0 : decode cX9_settle 0 = .ok (.iload_n 1, 1) := by decide +kernel
theorem dX9_settle_1 : decode cX9_settle 1 = .ok (.iconst 0, 1) := by decide +kernel
theorem dX9_settle_2 : decode cX9_settle 2 = .ok (.iconst 1, 1) := by decide +kernel
theorem dX9_settle_3 : decode cX9_settle 3 = .ok (.invokestatic 79, 3) := by decide +kernel
theorem dX9_settle_6 : decode cX9_settle 6 = .ok (.ifCond .ne 6, 3) := by decide +kernel
theorem dX9_settle_9 : decode cX9_settle 9 = .ok (.bipush (-102), 2) := by decide +kernel
theorem dX9_settle_11 : decode cX9_settle 11 = .ok (.ireturn, 1) := by decide +kernel
theorem dX9_settle_12 : decode cX9_settle 12 = .ok (.aload_n 0, 1) := by decide +kernel
theorem dX9_settle_13 : decode cX9_settle 13 = .ok (.getfield 112, 3) := by decide +kernel
theorem dX9_settle_16 : decode cX9_settle 16 = .ok (.ifCond .ne 8, 3) := by decide +kernel
theorem dX9_settle_19 : decode cX9_settle 19 = .ok (.bipush (-103), 2) := by decide +kernel
theorem dX9_settle_21 : decode cX9_settle 21 = .ok (.goto 8, 3) := by decide +kernel
theorem dX9_settle_24 : decode cX9_settle 24 = .ok (.aload_n 0, 1) := by decide +kernel
theorem dX9_settle_25 : decode cX9_settle 25 = .ok (.iload_n 1, 1) := by decide +kernel
theorem dX9_settle_26 : decode cX9_settle 26 = .ok (.invokevirtual 222, 3) := by decide +kernel
theorem dX9_settle_29 : decode cX9_settle 29 = .ok (.ireturn, 1) := by decide +kernel
theorem dX9_see_0 : decode cX9_see 0 = .ok (.aload_n 0, 1) := by decide +kernel
theorem dX9_see_1 : decode cX9_see 1 = .ok (.iload_n 1, 1) := by decide +kernel
theorem dX9_see_2 : decode cX9_see 2 = .ok (.invokevirtual 152, 3) := by decide +kernel
theorem dX9_see_5 : decode cX9_see 5 = .ok (.ifCond .eq 11, 3) := by decide +kernel
theorem dX9_see_8 : decode cX9_see 8 = .ok (.aload_n 0, 1) := by decide +kernel
theorem dX9_see_9 : decode cX9_see 9 = .ok (.iload_n 2, 1) := by decide +kernel
theorem dX9_see_10 : decode cX9_see 10 = .ok (.invokevirtual 167, 3) := by decide +kernel
theorem dX9_see_13 : decode cX9_see 13 = .ok (.ifCond .ne 6, 3) := by decide +kernel
theorem dX9_see_16 : decode cX9_see 16 = .ok (.bipush (-101), 2) := by decide +kernel
theorem dX9_see_18 : decode cX9_see 18 = .ok (.ireturn, 1) := by decide +kernel
theorem dX9_see_19 : decode cX9_see 19 = .ok (.iload_n 3, 1) := by decide +kernel
theorem dX9_see_20 : decode cX9_see 20 = .ok (.iconst 0, 1) := by decide +kernel
theorem dX9_see_21 : decode cX9_see 21 = .ok (.sipush 400, 3) := by decide +kernel
theorem dX9_see_24 : decode cX9_see 24 = .ok (.invokestatic 79, 3) := by decide +kernel
theorem dX9_see_27 : decode cX9_see 27 = .ok (.ifCond .ne 6, 3) := by decide +kernel
theorem dX9_see_30 : decode cX9_see 30 = .ok (.bipush (-102), 2) := by decide +kernel
theorem dX9_see_32 : decode cX9_see 32 = .ok (.ireturn, 1) := by decide +kernel
theorem dX9_see_33 : decode cX9_see 33 = .ok (.aload_n 0, 1) := by decide +kernel
theorem dX9_see_34 : decode cX9_see 34 = .ok (.getfield 124, 3) := by decide +kernel
theorem dX9_see_37 : decode cX9_see 37 = .ok (.bipush 6, 2) := by decide +kernel
theorem dX9_see_39 : decode cX9_see 39 = .ok (.if_icmp .ne 6, 3) := by decide +kernel
theorem dX9_see_42 : decode cX9_see 42 = .ok (.bipush (-104), 2) := by decide +kernel
theorem dX9_see_44 : decode cX9_see 44 = .ok (.ireturn, 1) := by decide +kernel
theorem dX9_see_45 : decode cX9_see 45 = .ok (.aload_n 0, 1) := by decide +kernel
theorem dX9_see_46 : decode cX9_see 46 = .ok (.getfield 25, 3) := by decide +kernel
theorem dX9_see_49 : decode cX9_see 49 = .ok (.aload_n 0, 1) := by decide +kernel
theorem dX9_see_50 : decode cX9_see 50 = .ok (.getfield 124, 3) := by decide +kernel
theorem dX9_see_53 : decode cX9_see 53 = .ok (.iload_n 1, 1) := by decide +kernel
theorem dX9_see_54 : decode cX9_see 54 = .ok (.iastore, 1) := by decide +kernel
theorem dX9_see_55 : decode cX9_see 55 = .ok (.aload_n 0, 1) := by decide +kernel
theorem dX9_see_56 : decode cX9_see 56 = .ok (.getfield 28, 3) := by decide +kernel
theorem dX9_see_59 : decode cX9_see 59 = .ok (.aload_n 0, 1) := by decide +kernel
theorem dX9_see_60 : decode cX9_see 60 = .ok (.getfield 124, 3) := by decide +kernel
theorem dX9_see_63 : decode cX9_see 63 = .ok (.iload_n 2, 1) := by decide +kernel
theorem dX9_see_64 : decode cX9_see 64 = .ok (.iastore, 1) := by decide +kernel
theorem dX9_see_65 : decode cX9_see 65 = .ok (.aload_n 0, 1) := by decide +kernel
theorem dX9_see_66 : decode cX9_see 66 = .ok (.getfield 31, 3) := by decide +kernel
theorem dX9_see_69 : decode cX9_see 69 = .ok (.aload_n 0, 1) := by decide +kernel
theorem dX9_see_70 : decode cX9_see 70 = .ok (.getfield 124, 3) := by decide +kernel
theorem dX9_see_73 : decode cX9_see 73 = .ok (.iload_n 3, 1) := by decide +kernel
theorem dX9_see_74 : decode cX9_see 74 = .ok (.iastore, 1) := by decide +kernel
theorem dX9_see_75 : decode cX9_see 75 = .ok (.aload_n 0, 1) := by decide +kernel
theorem dX9_see_76 : decode cX9_see 76 = .ok (.dup, 1) := by decide +kernel
theorem dX9_see_77 : decode cX9_see 77 = .ok (.getfield 124, 3) := by decide +kernel
theorem dX9_see_80 : decode cX9_see 80 = .ok (.iconst 1, 1) := by decide +kernel
theorem dX9_see_81 : decode cX9_see 81 = .ok (.iadd, 1) := by decide +kernel
theorem dX9_see_82 : decode cX9_see 82 = .ok (.putfield 124, 3) := by decide +kernel
theorem dX9_see_85 : decode cX9_see 85 = .ok (.aload_n 0, 1) := by decide +kernel
theorem dX9_see_86 : decode cX9_see 86 = .ok (.getfield 124, 3) := by decide +kernel
theorem dX9_see_89 : decode cX9_see 89 = .ok (.ireturn, 1) := by decide +kernel
theorem dX9_forget_0 : decode cX9_forget 0 = .ok (.aload_n 0, 1) := by decide +kernel
theorem dX9_forget_1 : decode cX9_forget 1 = .ok (.getfield 124, 3) := by decide +kernel
theorem dX9_forget_4 : decode cX9_forget 4 = .ok (.istore_n 1, 1) := by decide +kernel
theorem dX9_forget_5 : decode cX9_forget 5 = .ok (.aload_n 0, 1) := by decide +kernel
theorem dX9_forget_6 : decode cX9_forget 6 = .ok (.iconst 0, 1) := by decide +kernel
theorem dX9_forget_7 : decode cX9_forget 7 = .ok (.putfield 124, 3) := by decide +kernel
theorem dX9_forget_10 : decode cX9_forget 10 = .ok (.iload_n 1, 1) := by decide +kernel
theorem dX9_forget_11 : decode cX9_forget 11 = .ok (.ireturn, 1) := by decide +kernel
theorem dX9_laySums_0 : decode cX9_laySums 0 = .ok (.aload_n 0, 1) := by decide +kernel
theorem dX9_laySums_1 : decode cX9_laySums 1 = .ok (.getfield 16, 3) := by decide +kernel
theorem dX9_laySums_4 : decode cX9_laySums 4 = .ok (.iconst 3, 1) := by decide +kernel
theorem dX9_laySums_5 : decode cX9_laySums 5 = .ok (.iload_n 1, 1) := by decide +kernel
theorem dX9_laySums_6 : decode cX9_laySums 6 = .ok (.imul, 1) := by decide +kernel
theorem dX9_laySums_7 : decode cX9_laySums 7 = .ok (.iload_n 2, 1) := by decide +kernel
theorem dX9_laySums_8 : decode cX9_laySums 8 = .ok (.iadd, 1) := by decide +kernel
theorem dX9_laySums_9 : decode cX9_laySums 9 = .ok (.iaload, 1) := by decide +kernel
theorem dX9_laySums_10 : decode cX9_laySums 10 = .ok (.istore_n 3, 1) := by decide +kernel
theorem dX9_laySums_11 : decode cX9_laySums 11 = .ok (.iconst 0, 1) := by decide +kernel
theorem dX9_laySums_12 : decode cX9_laySums 12 = .ok (.istore 4, 2) := by decide +kernel
theorem dX9_laySums_14 : decode cX9_laySums 14 = .ok (.iload 4, 2) := by decide +kernel
theorem dX9_laySums_16 : decode cX9_laySums 16 = .ok (.iconst 3, 1) := by decide +kernel
theorem dX9_laySums_17 : decode cX9_laySums 17 = .ok (.if_icmp .ge 39, 3) := by decide +kernel
theorem dX9_laySums_20 : decode cX9_laySums 20 = .ok (.aload_n 0, 1) := by decide +kernel
theorem dX9_laySums_21 : decode cX9_laySums 21 = .ok (.getfield 16, 3) := by decide +kernel
theorem dX9_laySums_24 : decode cX9_laySums 24 = .ok (.iconst 3, 1) := by decide +kernel
theorem dX9_laySums_25 : decode cX9_laySums 25 = .ok (.iload_n 1, 1) := by decide +kernel
theorem dX9_laySums_26 : decode cX9_laySums 26 = .ok (.imul, 1) := by decide +kernel
theorem dX9_laySums_27 : decode cX9_laySums 27 = .ok (.iload_n 2, 1) := by decide +kernel
theorem dX9_laySums_28 : decode cX9_laySums 28 = .ok (.iadd, 1) := by decide +kernel
theorem dX9_laySums_29 : decode cX9_laySums 29 = .ok (.iconst 1, 1) := by decide +kernel
theorem dX9_laySums_30 : decode cX9_laySums 30 = .ok (.iload 4, 2) := by decide +kernel
theorem dX9_laySums_32 : decode cX9_laySums 32 = .ok (.isub, 1) := by decide +kernel
theorem dX9_laySums_33 : decode cX9_laySums 33 = .ok (.iastore, 1) := by decide +kernel
theorem dX9_laySums_34 : decode cX9_laySums 34 = .ok (.aload_n 0, 1) := by decide +kernel
theorem dX9_laySums_35 : decode cX9_laySums 35 = .ok (.getfield 48, 3) := by decide +kernel
theorem dX9_laySums_38 : decode cX9_laySums 38 = .ok (.iload 4, 2) := by decide +kernel
theorem dX9_laySums_40 : decode cX9_laySums 40 = .ok (.aload_n 0, 1) := by decide +kernel
theorem dX9_laySums_41 : decode cX9_laySums 41 = .ok (.iload_n 2, 1) := by decide +kernel
theorem dX9_laySums_42 : decode cX9_laySums 42 = .ok (.invokevirtual 143, 3) := by decide +kernel
theorem dX9_laySums_45 : decode cX9_laySums 45 = .ok (.sipush 200, 3) := by decide +kernel
theorem dX9_laySums_48 : decode cX9_laySums 48 = .ok (.iadd, 1) := by decide +kernel
theorem dX9_laySums_49 : decode cX9_laySums 49 = .ok (.iastore, 1) := by decide +kernel
theorem dX9_laySums_50 : decode cX9_laySums 50 = .ok (.iinc 4 1, 3) := by decide +kernel
theorem dX9_laySums_53 : decode cX9_laySums 53 = .ok (.goto (-39), 3) := by decide +kernel
theorem dX9_laySums_56 : decode cX9_laySums 56 = .ok (.aload_n 0, 1) := by decide +kernel
theorem dX9_laySums_57 : decode cX9_laySums 57 = .ok (.getfield 16, 3) := by decide +kernel
theorem dX9_laySums_60 : decode cX9_laySums 60 = .ok (.iconst 3, 1) := by decide +kernel
theorem dX9_laySums_61 : decode cX9_laySums 61 = .ok (.iload_n 1, 1) := by decide +kernel
theorem dX9_laySums_62 : decode cX9_laySums 62 = .ok (.imul, 1) := by decide +kernel
theorem dX9_laySums_63 : decode cX9_laySums 63 = .ok (.iload_n 2, 1) := by decide +kernel
theorem dX9_laySums_64 : decode cX9_laySums 64 = .ok (.iadd, 1) := by decide +kernel
theorem dX9_laySums_65 : decode cX9_laySums 65 = .ok (.iload_n 3, 1) := by decide +kernel
theorem dX9_laySums_66 : decode cX9_laySums 66 = .ok (.iastore, 1) := by decide +kernel
theorem dX9_laySums_67 : decode cX9_laySums 67 = .ok (.return_, 1) := by decide +kernel
theorem dX9_leansOf_0 : decode cX9_leansOf 0 = .ok (.aload_n 0, 1) := by decide +kernel
theorem dX9_leansOf_1 : decode cX9_leansOf 1 = .ok (.iload_n 1, 1) := by decide +kernel
theorem dX9_leansOf_2 : decode cX9_leansOf 2 = .ok (.iload_n 2, 1) := by decide +kernel
theorem dX9_leansOf_3 : decode cX9_leansOf 3 = .ok (.invokevirtual 225, 3) := by decide +kernel
theorem dX9_leansOf_6 : decode cX9_leansOf 6 = .ok (.iconst 0, 1) := by decide +kernel
theorem dX9_leansOf_7 : decode cX9_leansOf 7 = .ok (.istore_n 3, 1) := by decide +kernel
theorem dX9_leansOf_8 : decode cX9_leansOf 8 = .ok (.iconst 0, 1) := by decide +kernel
theorem dX9_leansOf_9 : decode cX9_leansOf 9 = .ok (.istore 4, 2) := by decide +kernel
theorem dX9_leansOf_11 : decode cX9_leansOf 11 = .ok (.iload 4, 2) := by decide +kernel
theorem dX9_leansOf_13 : decode cX9_leansOf 13 = .ok (.iconst 3, 1) := by decide +kernel
theorem dX9_leansOf_14 : decode cX9_leansOf 14 = .ok (.if_icmp .ge 97, 3) := by decide +kernel
theorem dX9_leansOf_17 : decode cX9_leansOf 17 = .ok (.iconst 1, 1) := by decide +kernel
theorem dX9_leansOf_18 : decode cX9_leansOf 18 = .ok (.istore 5, 2) := by decide +kernel
theorem dX9_leansOf_20 : decode cX9_leansOf 20 = .ok (.iconst 0, 1) := by decide +kernel
theorem dX9_leansOf_21 : decode cX9_leansOf 21 = .ok (.istore 6, 2) := by decide +kernel
theorem dX9_leansOf_23 : decode cX9_leansOf 23 = .ok (.iload 6, 2) := by decide +kernel
theorem dX9_leansOf_25 : decode cX9_leansOf 25 = .ok (.aload_n 0, 1) := by decide +kernel
theorem dX9_leansOf_26 : decode cX9_leansOf 26 = .ok (.getfield 124, 3) := by decide +kernel
theorem dX9_leansOf_29 : decode cX9_leansOf 29 = .ok (.if_icmp .ge 60, 3) := by decide +kernel
theorem dX9_leansOf_32 : decode cX9_leansOf 32 = .ok (.iload 5, 2) := by decide +kernel
theorem dX9_leansOf_34 : decode cX9_leansOf 34 = .ok (.ifCond .eq 46, 3) := by decide +kernel
theorem dX9_leansOf_37 : decode cX9_leansOf 37 = .ok (.aload_n 0, 1) := by decide +kernel
theorem dX9_leansOf_38 : decode cX9_leansOf 38 = .ok (.getfield 25, 3) := by decide +kernel
theorem dX9_leansOf_41 : decode cX9_leansOf 41 = .ok (.iload 6, 2) := by decide +kernel
theorem dX9_leansOf_43 : decode cX9_leansOf 43 = .ok (.iaload, 1) := by decide +kernel
theorem dX9_leansOf_44 : decode cX9_leansOf 44 = .ok (.iload_n 1, 1) := by decide +kernel
theorem dX9_leansOf_45 : decode cX9_leansOf 45 = .ok (.if_icmp .ne 31, 3) := by decide +kernel
theorem dX9_leansOf_48 : decode cX9_leansOf 48 = .ok (.aload_n 0, 1) := by decide +kernel
theorem dX9_leansOf_49 : decode cX9_leansOf 49 = .ok (.getfield 28, 3) := by decide +kernel
theorem dX9_leansOf_52 : decode cX9_leansOf 52 = .ok (.iload 6, 2) := by decide +kernel
theorem dX9_leansOf_54 : decode cX9_leansOf 54 = .ok (.iaload, 1) := by decide +kernel
theorem dX9_leansOf_55 : decode cX9_leansOf 55 = .ok (.iload_n 2, 1) := by decide +kernel
theorem dX9_leansOf_56 : decode cX9_leansOf 56 = .ok (.if_icmp .ne 20, 3) := by decide +kernel
theorem dX9_leansOf_59 : decode cX9_leansOf 59 = .ok (.aload_n 0, 1) := by decide +kernel
theorem dX9_leansOf_60 : decode cX9_leansOf 60 = .ok (.getfield 31, 3) := by decide +kernel
theorem dX9_leansOf_63 : decode cX9_leansOf 63 = .ok (.iload 6, 2) := by decide +kernel
theorem dX9_leansOf_65 : decode cX9_leansOf 65 = .ok (.iaload, 1) := by decide +kernel
theorem dX9_leansOf_66 : decode cX9_leansOf 66 = .ok (.aload_n 0, 1) := by decide +kernel
theorem dX9_leansOf_67 : decode cX9_leansOf 67 = .ok (.getfield 48, 3) := by decide +kernel
theorem dX9_leansOf_70 : decode cX9_leansOf 70 = .ok (.iload 4, 2) := by decide +kernel
theorem dX9_leansOf_72 : decode cX9_leansOf 72 = .ok (.iaload, 1) := by decide +kernel
theorem dX9_leansOf_73 : decode cX9_leansOf 73 = .ok (.if_icmp .ne 7, 3) := by decide +kernel
theorem dX9_leansOf_76 : decode cX9_leansOf 76 = .ok (.iconst 1, 1) := by decide +kernel
theorem dX9_leansOf_77 : decode cX9_leansOf 77 = .ok (.goto 4, 3) := by decide +kernel
theorem dX9_leansOf_80 : decode cX9_leansOf 80 = .ok (.iconst 0, 1) := by decide +kernel
theorem dX9_leansOf_81 : decode cX9_leansOf 81 = .ok (.istore 5, 2) := by decide +kernel
theorem dX9_leansOf_83 : decode cX9_leansOf 83 = .ok (.iinc 6 1, 3) := by decide +kernel
theorem dX9_leansOf_86 : decode cX9_leansOf 86 = .ok (.goto (-63), 3) := by decide +kernel
theorem dX9_leansOf_89 : decode cX9_leansOf 89 = .ok (.iload_n 3, 1) := by decide +kernel
theorem dX9_leansOf_90 : decode cX9_leansOf 90 = .ok (.iload 5, 2) := by decide +kernel
theorem dX9_leansOf_92 : decode cX9_leansOf 92 = .ok (.ifCond .eq 10, 3) := by decide +kernel
theorem dX9_leansOf_95 : decode cX9_leansOf 95 = .ok (.iconst 1, 1) := by decide +kernel
theorem dX9_leansOf_96 : decode cX9_leansOf 96 = .ok (.iload 4, 2) := by decide +kernel
theorem dX9_leansOf_98 : decode cX9_leansOf 98 = .ok (.ishl, 1) := by decide +kernel
theorem dX9_leansOf_99 : decode cX9_leansOf 99 = .ok (.goto 4, 3) := by decide +kernel
theorem dX9_leansOf_102 : decode cX9_leansOf 102 = .ok (.iconst 0, 1) := by decide +kernel
theorem dX9_leansOf_103 : decode cX9_leansOf 103 = .ok (.ior, 1) := by decide +kernel
theorem dX9_leansOf_104 : decode cX9_leansOf 104 = .ok (.istore_n 3, 1) := by decide +kernel
theorem dX9_leansOf_105 : decode cX9_leansOf 105 = .ok (.iinc 4 1, 3) := by decide +kernel
theorem dX9_leansOf_108 : decode cX9_leansOf 108 = .ok (.goto (-97), 3) := by decide +kernel
theorem dX9_leansOf_111 : decode cX9_leansOf 111 = .ok (.iload_n 3, 1) := by decide +kernel
theorem dX9_leansOf_112 : decode cX9_leansOf 112 = .ok (.ireturn, 1) := by decide +kernel
theorem dX9_worstOn_0 : decode cX9_worstOn 0 = .ok (.iconst 0, 1) := by decide +kernel
theorem dX9_worstOn_1 : decode cX9_worstOn 1 = .ok (.istore_n 2, 1) := by decide +kernel
theorem dX9_worstOn_2 : decode cX9_worstOn 2 = .ok (.iconst 0, 1) := by decide +kernel
theorem dX9_worstOn_3 : decode cX9_worstOn 3 = .ok (.istore_n 3, 1) := by decide +kernel
theorem dX9_worstOn_4 : decode cX9_worstOn 4 = .ok (.iload_n 3, 1) := by decide +kernel
theorem dX9_worstOn_5 : decode cX9_worstOn 5 = .ok (.iconst 3, 1) := by decide +kernel
theorem dX9_worstOn_6 : decode cX9_worstOn 6 = .ok (.if_icmp .ge 83, 3) := by decide +kernel
theorem dX9_worstOn_9 : decode cX9_worstOn 9 = .ok (.iconst 0, 1) := by decide +kernel
theorem dX9_worstOn_10 : decode cX9_worstOn 10 = .ok (.istore 4, 2) := by decide +kernel
theorem dX9_worstOn_12 : decode cX9_worstOn 12 = .ok (.iconst 0, 1) := by decide +kernel
theorem dX9_worstOn_13 : decode cX9_worstOn 13 = .ok (.istore 5, 2) := by decide +kernel
theorem dX9_worstOn_15 : decode cX9_worstOn 15 = .ok (.iload 5, 2) := by decide +kernel
theorem dX9_worstOn_17 : decode cX9_worstOn 17 = .ok (.iconst 3, 1) := by decide +kernel
theorem dX9_worstOn_18 : decode cX9_worstOn 18 = .ok (.if_icmp .ge 52, 3) := by decide +kernel
theorem dX9_worstOn_21 : decode cX9_worstOn 21 = .ok (.iload 4, 2) := by decide +kernel
theorem dX9_worstOn_23 : decode cX9_worstOn 23 = .ok (.iload_n 1, 1) := by decide +kernel
theorem dX9_worstOn_24 : decode cX9_worstOn 24 = .ok (.iload_n 3, 1) := by decide +kernel
theorem dX9_worstOn_25 : decode cX9_worstOn 25 = .ok (.invokestatic 130, 3) := by decide +kernel
theorem dX9_worstOn_28 : decode cX9_worstOn 28 = .ok (.ifCond .eq 32, 3) := by decide +kernel
theorem dX9_worstOn_31 : decode cX9_worstOn 31 = .ok (.iload_n 1, 1) := by decide +kernel
theorem dX9_worstOn_32 : decode cX9_worstOn 32 = .ok (.iload 5, 2) := by decide +kernel
theorem dX9_worstOn_34 : decode cX9_worstOn 34 = .ok (.invokestatic 130, 3) := by decide +kernel
theorem dX9_worstOn_37 : decode cX9_worstOn 37 = .ok (.ifCond .eq 23, 3) := by decide +kernel
theorem dX9_worstOn_40 : decode cX9_worstOn 40 = .ok (.aload_n 0, 1) := by decide +kernel
theorem dX9_worstOn_41 : decode cX9_worstOn 41 = .ok (.getfield 48, 3) := by decide +kernel
theorem dX9_worstOn_44 : decode cX9_worstOn 44 = .ok (.iload_n 3, 1) := by decide +kernel
theorem dX9_worstOn_45 : decode cX9_worstOn 45 = .ok (.iaload, 1) := by decide +kernel
theorem dX9_worstOn_46 : decode cX9_worstOn 46 = .ok (.aload_n 0, 1) := by decide +kernel
theorem dX9_worstOn_47 : decode cX9_worstOn 47 = .ok (.getfield 48, 3) := by decide +kernel
theorem dX9_worstOn_50 : decode cX9_worstOn 50 = .ok (.iload 5, 2) := by decide +kernel
theorem dX9_worstOn_52 : decode cX9_worstOn 52 = .ok (.iaload, 1) := by decide +kernel
theorem dX9_worstOn_53 : decode cX9_worstOn 53 = .ok (.if_icmp .ne 7, 3) := by decide +kernel
theorem dX9_worstOn_56 : decode cX9_worstOn 56 = .ok (.iconst 1, 1) := by decide +kernel
theorem dX9_worstOn_57 : decode cX9_worstOn 57 = .ok (.goto 4, 3) := by decide +kernel
theorem dX9_worstOn_60 : decode cX9_worstOn 60 = .ok (.iconst 0, 1) := by decide +kernel
theorem dX9_worstOn_61 : decode cX9_worstOn 61 = .ok (.iadd, 1) := by decide +kernel
theorem dX9_worstOn_62 : decode cX9_worstOn 62 = .ok (.istore 4, 2) := by decide +kernel
theorem dX9_worstOn_64 : decode cX9_worstOn 64 = .ok (.iinc 5 1, 3) := by decide +kernel
theorem dX9_worstOn_67 : decode cX9_worstOn 67 = .ok (.goto (-52), 3) := by decide +kernel
theorem dX9_worstOn_70 : decode cX9_worstOn 70 = .ok (.iload 4, 2) := by decide +kernel
theorem dX9_worstOn_72 : decode cX9_worstOn 72 = .ok (.iload_n 2, 1) := by decide +kernel
theorem dX9_worstOn_73 : decode cX9_worstOn 73 = .ok (.if_icmp .le 8, 3) := by decide +kernel
theorem dX9_worstOn_76 : decode cX9_worstOn 76 = .ok (.iload 4, 2) := by decide +kernel
theorem dX9_worstOn_78 : decode cX9_worstOn 78 = .ok (.goto 4, 3) := by decide +kernel
theorem dX9_worstOn_81 : decode cX9_worstOn 81 = .ok (.iload_n 2, 1) := by decide +kernel
theorem dX9_worstOn_82 : decode cX9_worstOn 82 = .ok (.istore_n 2, 1) := by decide +kernel
theorem dX9_worstOn_83 : decode cX9_worstOn 83 = .ok (.iinc 3 1, 3) := by decide +kernel
theorem dX9_worstOn_86 : decode cX9_worstOn 86 = .ok (.goto (-82), 3) := by decide +kernel
theorem dX9_worstOn_89 : decode cX9_worstOn 89 = .ok (.iload_n 2, 1) := by decide +kernel
theorem dX9_worstOn_90 : decode cX9_worstOn 90 = .ok (.ireturn, 1) := by decide +kernel
theorem dX9_askOf_0 : decode cX9_askOf 0 = .ok (.iconst (-1), 1) := by decide +kernel
theorem dX9_askOf_1 : decode cX9_askOf 1 = .ok (.istore_n 2, 1) := by decide +kernel
theorem dX9_askOf_2 : decode cX9_askOf 2 = .ok (.ldc 229, 2) := by decide +kernel
theorem dX9_askOf_4 : decode cX9_askOf 4 = .ok (.istore_n 3, 1) := by decide +kernel
theorem dX9_askOf_5 : decode cX9_askOf 5 = .ok (.iconst 0, 1) := by decide +kernel
theorem dX9_askOf_6 : decode cX9_askOf 6 = .ok (.istore 4, 2) := by decide +kernel
theorem dX9_askOf_8 : decode cX9_askOf 8 = .ok (.iload 4, 2) := by decide +kernel
theorem dX9_askOf_10 : decode cX9_askOf 10 = .ok (.iconst 3, 1) := by decide +kernel
theorem dX9_askOf_11 : decode cX9_askOf 11 = .ok (.if_icmp .ge 73, 3) := by decide +kernel
theorem dX9_askOf_14 : decode cX9_askOf 14 = .ok (.aload_n 0, 1) := by decide +kernel
theorem dX9_askOf_15 : decode cX9_askOf 15 = .ok (.iload_n 1, 1) := by decide +kernel
theorem dX9_askOf_16 : decode cX9_askOf 16 = .ok (.iload 4, 2) := by decide +kernel
theorem dX9_askOf_18 : decode cX9_askOf 18 = .ok (.invokevirtual 146, 3) := by decide +kernel
theorem dX9_askOf_21 : decode cX9_askOf 21 = .ok (.istore 5, 2) := by decide +kernel
theorem dX9_askOf_23 : decode cX9_askOf 23 = .ok (.aload_n 0, 1) := by decide +kernel
theorem dX9_askOf_24 : decode cX9_askOf 24 = .ok (.iload 5, 2) := by decide +kernel
theorem dX9_askOf_26 : decode cX9_askOf 26 = .ok (.invokevirtual 230, 3) := by decide +kernel
theorem dX9_askOf_29 : decode cX9_askOf 29 = .ok (.istore 6, 2) := by decide +kernel
theorem dX9_askOf_31 : decode cX9_askOf 31 = .ok (.iload 6, 2) := by decide +kernel
theorem dX9_askOf_33 : decode cX9_askOf 33 = .ok (.iload 5, 2) := by decide +kernel
theorem dX9_askOf_35 : decode cX9_askOf 35 = .ok (.invokestatic 179, 3) := by decide +kernel
theorem dX9_askOf_38 : decode cX9_askOf 38 = .ok (.if_icmp .ge 13, 3) := by decide +kernel
theorem dX9_askOf_41 : decode cX9_askOf 41 = .ok (.iload 6, 2) := by decide +kernel
theorem dX9_askOf_43 : decode cX9_askOf 43 = .ok (.iload_n 3, 1) := by decide +kernel
theorem dX9_askOf_44 : decode cX9_askOf 44 = .ok (.if_icmp .ge 7, 3) := by decide +kernel
theorem dX9_askOf_47 : decode cX9_askOf 47 = .ok (.iconst 1, 1) := by decide +kernel
theorem dX9_askOf_48 : decode cX9_askOf 48 = .ok (.goto 4, 3) := by decide +kernel
theorem dX9_askOf_51 : decode cX9_askOf 51 = .ok (.iconst 0, 1) := by decide +kernel
theorem dX9_askOf_52 : decode cX9_askOf 52 = .ok (.istore 7, 2) := by decide +kernel
theorem dX9_askOf_54 : decode cX9_askOf 54 = .ok (.iload 7, 2) := by decide +kernel
theorem dX9_askOf_56 : decode cX9_askOf 56 = .ok (.ifCond .eq 8, 3) := by decide +kernel
theorem dX9_askOf_59 : decode cX9_askOf 59 = .ok (.iload 4, 2) := by decide +kernel
theorem dX9_askOf_61 : decode cX9_askOf 61 = .ok (.goto 4, 3) := by decide +kernel
theorem dX9_askOf_64 : decode cX9_askOf 64 = .ok (.iload_n 2, 1) := by decide +kernel
theorem dX9_askOf_65 : decode cX9_askOf 65 = .ok (.istore_n 2, 1) := by decide +kernel
theorem dX9_askOf_66 : decode cX9_askOf 66 = .ok (.iload 7, 2) := by decide +kernel
theorem dX9_askOf_68 : decode cX9_askOf 68 = .ok (.ifCond .eq 8, 3) := by decide +kernel
theorem dX9_askOf_71 : decode cX9_askOf 71 = .ok (.iload 6, 2) := by decide +kernel
theorem dX9_askOf_73 : decode cX9_askOf 73 = .ok (.goto 4, 3) := by decide +kernel
theorem dX9_askOf_76 : decode cX9_askOf 76 = .ok (.iload_n 3, 1) := by decide +kernel
theorem dX9_askOf_77 : decode cX9_askOf 77 = .ok (.istore_n 3, 1) := by decide +kernel
theorem dX9_askOf_78 : decode cX9_askOf 78 = .ok (.iinc 4 1, 3) := by decide +kernel
theorem dX9_askOf_81 : decode cX9_askOf 81 = .ok (.goto (-73), 3) := by decide +kernel
theorem dX9_askOf_84 : decode cX9_askOf 84 = .ok (.iload_n 2, 1) := by decide +kernel
theorem dX9_askOf_85 : decode cX9_askOf 85 = .ok (.ireturn, 1) := by decide +kernel
theorem dX9_draw_0 : decode cX9_draw 0 = .ok (.aload_n 0, 1) := by decide +kernel
theorem dX9_draw_1 : decode cX9_draw 1 = .ok (.ldc2_w 233, 3) := by decide +kernel
theorem dX9_draw_4 : decode cX9_draw 4 = .ok (.aload_n 0, 1) := by decide +kernel
theorem dX9_draw_5 : decode cX9_draw 5 = .ok (.getfield 235, 3) := by decide +kernel
theorem dX9_draw_8 : decode cX9_draw 8 = .ok (.lmul, 1) := by decide +kernel
theorem dX9_draw_9 : decode cX9_draw 9 = .ok (.ldc2_w 239, 3) := by decide +kernel
theorem dX9_draw_12 : decode cX9_draw 12 = .ok (.ladd, 1) := by decide +kernel
theorem dX9_draw_13 : decode cX9_draw 13 = .ok (.ldc2_w 241, 3) := by decide +kernel
theorem dX9_draw_16 : decode cX9_draw 16 = .ok (.land, 1) := by decide +kernel
theorem dX9_draw_17 : decode cX9_draw 17 = .ok (.putfield 235, 3) := by decide +kernel
theorem dX9_draw_20 : decode cX9_draw 20 = .ok (.aload_n 0, 1) := by decide +kernel
theorem dX9_draw_21 : decode cX9_draw 21 = .ok (.getfield 235, 3) := by decide +kernel
theorem dX9_draw_24 : decode cX9_draw 24 = .ok (.ldc2_w 243, 3) := by decide +kernel
theorem dX9_draw_27 : decode cX9_draw 27 = .ok (.ldiv, 1) := by decide +kernel
theorem dX9_draw_28 : decode cX9_draw 28 = .ok (.iload_n 1, 1) := by decide +kernel
theorem dX9_draw_29 : decode cX9_draw 29 = .ok (.i2l, 1) := by decide +kernel
theorem dX9_draw_30 : decode cX9_draw 30 = .ok (.lrem, 1) := by decide +kernel
theorem dX9_draw_31 : decode cX9_draw 31 = .ok (.l2i, 1) := by decide +kernel
theorem dX9_draw_32 : decode cX9_draw 32 = .ok (.ireturn, 1) := by decide +kernel
theorem dX9_tidesNow_0 : decode cX9_tidesNow 0 = .ok (.iconst 0, 1) := by decide +kernel
theorem dX9_tidesNow_1 : decode cX9_tidesNow 1 = .ok (.istore 4, 2) := by decide +kernel
theorem dX9_tidesNow_3 : decode cX9_tidesNow 3 = .ok (.iload 4, 2) := by decide +kernel
theorem dX9_tidesNow_5 : decode cX9_tidesNow 5 = .ok (.bipush 24, 2) := by decide +kernel
theorem dX9_tidesNow_7 : decode cX9_tidesNow 7 = .ok (.if_icmp .ge 23, 3) := by decide +kernel
theorem dX9_tidesNow_10 : decode cX9_tidesNow 10 = .ok (.aload_n 0, 1) := by decide +kernel
theorem dX9_tidesNow_11 : decode cX9_tidesNow 11 = .ok (.getfield 51, 3) := by decide +kernel
theorem dX9_tidesNow_14 : decode cX9_tidesNow 14 = .ok (.iload 4, 2) := by decide +kernel
theorem dX9_tidesNow_16 : decode cX9_tidesNow 16 = .ok (.aload_n 0, 1) := by decide +kernel
theorem dX9_tidesNow_17 : decode cX9_tidesNow 17 = .ok (.getfield 16, 3) := by decide +kernel
theorem dX9_tidesNow_20 : decode cX9_tidesNow 20 = .ok (.iload 4, 2) := by decide +kernel
theorem dX9_tidesNow_22 : decode cX9_tidesNow 22 = .ok (.iaload, 1) := by decide +kernel
theorem dX9_tidesNow_23 : decode cX9_tidesNow 23 = .ok (.iastore, 1) := by decide +kernel
theorem dX9_tidesNow_24 : decode cX9_tidesNow 24 = .ok (.iinc 4 1, 3) := by decide +kernel
theorem dX9_tidesNow_27 : decode cX9_tidesNow 27 = .ok (.goto (-24), 3) := by decide +kernel
theorem dX9_tidesNow_30 : decode cX9_tidesNow 30 = .ok (.aload_n 0, 1) := by decide +kernel
theorem dX9_tidesNow_31 : decode cX9_tidesNow 31 = .ok (.iload_n 2, 1) := by decide +kernel
theorem dX9_tidesNow_32 : decode cX9_tidesNow 32 = .ok (.i2l, 1) := by decide +kernel
theorem dX9_tidesNow_33 : decode cX9_tidesNow 33 = .ok (.putfield 235, 3) := by decide +kernel
theorem dX9_tidesNow_36 : decode cX9_tidesNow 36 = .ok (.iconst 0, 1) := by decide +kernel
theorem dX9_tidesNow_37 : decode cX9_tidesNow 37 = .ok (.istore 4, 2) := by decide +kernel
theorem dX9_tidesNow_39 : decode cX9_tidesNow 39 = .ok (.iconst 0, 1) := by decide +kernel
theorem dX9_tidesNow_40 : decode cX9_tidesNow 40 = .ok (.istore 5, 2) := by decide +kernel
theorem dX9_tidesNow_42 : decode cX9_tidesNow 42 = .ok (.iconst 0, 1) := by decide +kernel
theorem dX9_tidesNow_43 : decode cX9_tidesNow 43 = .ok (.istore 6, 2) := by decide +kernel
theorem dX9_tidesNow_45 : decode cX9_tidesNow 45 = .ok (.iload 6, 2) := by decide +kernel
theorem dX9_tidesNow_47 : decode cX9_tidesNow 47 = .ok (.iload_n 1, 1) := by decide +kernel
theorem dX9_tidesNow_48 : decode cX9_tidesNow 48 = .ok (.if_icmp .ge 101, 3) := by decide +kernel
theorem dX9_tidesNow_51 : decode cX9_tidesNow 51 = .ok (.aload_n 0, 1) := by decide +kernel
theorem dX9_tidesNow_52 : decode cX9_tidesNow 52 = .ok (.iconst 3, 1) := by decide +kernel
theorem dX9_tidesNow_53 : decode cX9_tidesNow 53 = .ok (.invokevirtual 245, 3) := by decide +kernel
theorem dX9_tidesNow_56 : decode cX9_tidesNow 56 = .ok (.istore 7, 2) := by decide +kernel
theorem dX9_tidesNow_58 : decode cX9_tidesNow 58 = .ok (.iload 4, 2) := by decide +kernel
theorem dX9_tidesNow_60 : decode cX9_tidesNow 60 = .ok (.aload_n 0, 1) := by decide +kernel
theorem dX9_tidesNow_61 : decode cX9_tidesNow 61 = .ok (.iload 7, 2) := by decide +kernel
theorem dX9_tidesNow_63 : decode cX9_tidesNow 63 = .ok (.invokevirtual 161, 3) := by decide +kernel
theorem dX9_tidesNow_66 : decode cX9_tidesNow 66 = .ok (.iconst 1, 1) := by decide +kernel
theorem dX9_tidesNow_67 : decode cX9_tidesNow 67 = .ok (.if_icmp .ne 7, 3) := by decide +kernel
theorem dX9_tidesNow_70 : decode cX9_tidesNow 70 = .ok (.iconst 1, 1) := by decide +kernel
theorem dX9_tidesNow_71 : decode cX9_tidesNow 71 = .ok (.goto 4, 3) := by decide +kernel
theorem dX9_tidesNow_74 : decode cX9_tidesNow 74 = .ok (.iconst 0, 1) := by decide +kernel
theorem dX9_tidesNow_75 : decode cX9_tidesNow 75 = .ok (.iadd, 1) := by decide +kernel
theorem dX9_tidesNow_76 : decode cX9_tidesNow 76 = .ok (.istore 4, 2) := by decide +kernel
theorem dX9_tidesNow_78 : decode cX9_tidesNow 78 = .ok (.iload 5, 2) := by decide +kernel
theorem dX9_tidesNow_80 : decode cX9_tidesNow 80 = .ok (.aload_n 0, 1) := by decide +kernel
theorem dX9_tidesNow_81 : decode cX9_tidesNow 81 = .ok (.iload 7, 2) := by decide +kernel
theorem dX9_tidesNow_83 : decode cX9_tidesNow 83 = .ok (.invokevirtual 143, 3) := by decide +kernel
theorem dX9_tidesNow_86 : decode cX9_tidesNow 86 = .ok (.iadd, 1) := by decide +kernel
theorem dX9_tidesNow_87 : decode cX9_tidesNow 87 = .ok (.istore 5, 2) := by decide +kernel
theorem dX9_tidesNow_89 : decode cX9_tidesNow 89 = .ok (.aload_n 0, 1) := by decide +kernel
theorem dX9_tidesNow_90 : decode cX9_tidesNow 90 = .ok (.aload_n 0, 1) := by decide +kernel
theorem dX9_tidesNow_91 : decode cX9_tidesNow 91 = .ok (.getfield 112, 3) := by decide +kernel
theorem dX9_tidesNow_94 : decode cX9_tidesNow 94 = .ok (.invokevirtual 245, 3) := by decide +kernel
theorem dX9_tidesNow_97 : decode cX9_tidesNow 97 = .ok (.istore 8, 2) := by decide +kernel
theorem dX9_tidesNow_99 : decode cX9_tidesNow 99 = .ok (.aload_n 0, 1) := by decide +kernel
theorem dX9_tidesNow_100 : decode cX9_tidesNow 100 = .ok (.getfield 16, 3) := by decide +kernel
theorem dX9_tidesNow_103 : decode cX9_tidesNow 103 = .ok (.iconst 3, 1) := by decide +kernel
theorem dX9_tidesNow_104 : decode cX9_tidesNow 104 = .ok (.iload 8, 2) := by decide +kernel
theorem dX9_tidesNow_106 : decode cX9_tidesNow 106 = .ok (.imul, 1) := by decide +kernel
theorem dX9_tidesNow_107 : decode cX9_tidesNow 107 = .ok (.iload 7, 2) := by decide +kernel
theorem dX9_tidesNow_109 : decode cX9_tidesNow 109 = .ok (.iadd, 1) := by decide +kernel
theorem dX9_tidesNow_110 : decode cX9_tidesNow 110 = .ok (.iaload, 1) := by decide +kernel
theorem dX9_tidesNow_111 : decode cX9_tidesNow 111 = .ok (.istore 9, 2) := by decide +kernel
theorem dX9_tidesNow_113 : decode cX9_tidesNow 113 = .ok (.aload_n 0, 1) := by decide +kernel
theorem dX9_tidesNow_114 : decode cX9_tidesNow 114 = .ok (.getfield 16, 3) := by decide +kernel
theorem dX9_tidesNow_117 : decode cX9_tidesNow 117 = .ok (.iconst 3, 1) := by decide +kernel
theorem dX9_tidesNow_118 : decode cX9_tidesNow 118 = .ok (.iload 8, 2) := by decide +kernel
theorem dX9_tidesNow_120 : decode cX9_tidesNow 120 = .ok (.imul, 1) := by decide +kernel
theorem dX9_tidesNow_121 : decode cX9_tidesNow 121 = .ok (.iload 7, 2) := by decide +kernel
theorem dX9_tidesNow_123 : decode cX9_tidesNow 123 = .ok (.iadd, 1) := by decide +kernel
theorem dX9_tidesNow_124 : decode cX9_tidesNow 124 = .ok (.iload 9, 2) := by decide +kernel
theorem dX9_tidesNow_126 : decode cX9_tidesNow 126 = .ok (.iconst 1, 1) := by decide +kernel
theorem dX9_tidesNow_127 : decode cX9_tidesNow 127 = .ok (.if_icmp .ne 7, 3) := by decide +kernel
theorem dX9_tidesNow_130 : decode cX9_tidesNow 130 = .ok (.iconst (-1), 1) := by decide +kernel
theorem dX9_tidesNow_131 : decode cX9_tidesNow 131 = .ok (.goto 7, 3) := by decide +kernel
theorem dX9_tidesNow_134 : decode cX9_tidesNow 134 = .ok (.iload 9, 2) := by decide +kernel
theorem dX9_tidesNow_136 : decode cX9_tidesNow 136 = .ok (.iconst 1, 1) := by decide +kernel
theorem dX9_tidesNow_137 : decode cX9_tidesNow 137 = .ok (.iadd, 1) := by decide +kernel
theorem dX9_tidesNow_138 : decode cX9_tidesNow 138 = .ok (.iastore, 1) := by decide +kernel
theorem dX9_tidesNow_139 : decode cX9_tidesNow 139 = .ok (.aload_n 0, 1) := by decide +kernel
theorem dX9_tidesNow_140 : decode cX9_tidesNow 140 = .ok (.invokevirtual 173, 3) := by decide +kernel
theorem dX9_tidesNow_143 : decode cX9_tidesNow 143 = .ok (.iinc 6 1, 3) := by decide +kernel
theorem dX9_tidesNow_146 : decode cX9_tidesNow 146 = .ok (.goto (-101), 3) := by decide +kernel
theorem dX9_tidesNow_149 : decode cX9_tidesNow 149 = .ok (.iconst 0, 1) := by decide +kernel
theorem dX9_tidesNow_150 : decode cX9_tidesNow 150 = .ok (.istore 6, 2) := by decide +kernel
theorem dX9_tidesNow_152 : decode cX9_tidesNow 152 = .ok (.iload 6, 2) := by decide +kernel
theorem dX9_tidesNow_154 : decode cX9_tidesNow 154 = .ok (.bipush 24, 2) := by decide +kernel
theorem dX9_tidesNow_156 : decode cX9_tidesNow 156 = .ok (.if_icmp .ge 23, 3) := by decide +kernel
theorem dX9_tidesNow_159 : decode cX9_tidesNow 159 = .ok (.aload_n 0, 1) := by decide +kernel
theorem dX9_tidesNow_160 : decode cX9_tidesNow 160 = .ok (.getfield 16, 3) := by decide +kernel
theorem dX9_tidesNow_163 : decode cX9_tidesNow 163 = .ok (.iload 6, 2) := by decide +kernel
theorem dX9_tidesNow_165 : decode cX9_tidesNow 165 = .ok (.aload_n 0, 1) := by decide +kernel
theorem dX9_tidesNow_166 : decode cX9_tidesNow 166 = .ok (.getfield 51, 3) := by decide +kernel
